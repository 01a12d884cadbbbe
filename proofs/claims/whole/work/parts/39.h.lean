set_option maxRecDepth 100000 in
theorem q_nlt {Ln : Nat} {i : Int32} (hi : q_In Ln i) : ¬ Int32.ofNat Ln - 6 < i := by
  obtain ⟨t, rfl, h1, h2⟩ := hi
  rw [show Int32.ofNat Ln - 6 = Int32.ofNat (Ln - 6) by rw [Int32.ofNat_sub _ _ (by omega)]; rfl]
  exact e_F (by omega) (by omega)
set_option maxRecDepth 100000 in
theorem q_lt {Ln t : Nat} (h1 : 6 * t ≤ Ln) (h2 : Ln < 6 * t + 6) (h3 : Ln ≤ 3072) : Int32.ofNat Ln - 6 < Int32.ofNat (6 * t) := by
  by_cases h6 : 6 ≤ Ln
  · rw [show Int32.ofNat Ln - 6 = Int32.ofNat (Ln - 6) by rw [Int32.ofNat_sub _ _ h6]; rfl]
    exact e_T (by omega) (by omega)
  · obtain rfl : t = 0 := by omega
    have : ∀ k, k < 6 → Int32.ofNat k - 6 < Int32.ofNat (6 * 0) := by decide
    exact this Ln (by omega)
set_option maxRecDepth 100000 in
theorem q_head {xs : Nat → Int32} {Ln : Nat} {i : Int32} {g : s_G} (hi : q_In Ln i) (hr : q_Rw xs Ln g) : ∃ k, k < 64 ∧ s_To 200 s_m282 (23, s_L1 i, [], s_hg g) (q_tg k, s_L1 i, [], s_hg g) := by
  obtain ⟨k, hk, ek⟩ := pk_andE (xs i.toNatClampNeg) (m := 63) 6 (by decide)
  refine ⟨k, hk, ?_⟩
  refine s_To.sg 5 (y := (30, s_L1 i, [.int (g.1 1201 0 - 6), .int i], s_hg g)) rfl ?_
  refine s_To.br (c := g.1 1201 0 - 6 < i) (tg := 1255) (p2 := 30) (L1 := s_L1 i) (st1 := []) rfl (fun h => absurd h ?_) (fun _ => ?_)
  · rw [hr.2]
    exact q_nlt hi
  · refine s_To.sg 2 (y := (36, s_L1 i, [.int i, .ref 1200], s_hg g)) rfl ?_
    refine s_To.nx (q_ia (tg := 0) rfl hr ?_) (s_mo_rf _) ?_
    · have := q_bd hi 0 (by omega)
      rw [show i + Int32.ofNat 0 = i from Int32.add_zero i] at this
      exact this
    · refine s_To.sg 2 (y := (40, s_L1 i, [.int (xs i.toNatClampNeg &&& 63)], s_hg g)) rfl ?_
      rw [ek]
      exact s_To.nx (q_sw hk) (s_mo_rf _) s_To.rf
set_option maxRecDepth 100000 in
theorem q_out {xs : Nat → Int32} {Ln t : Nat} {g : s_G} (h1 : 6 * t ≤ Ln) (h2 : Ln < 6 * t + 6) (h3 : Ln ≤ 3072) (hr : q_Rw xs Ln g) : s_To 200 s_m282 (23, s_L1 (Int32.ofNat (6 * t)), [], s_hg g) (1256, s_L1 (Int32.ofNat (6 * t)), [.int 1], s_hg g) := by
  refine s_To.sg 5 (y := (30, s_L1 (Int32.ofNat (6 * t)), [.int (g.1 1201 0 - 6), .int (Int32.ofNat (6 * t))], s_hg g)) rfl ?_
  refine s_To.br (c := g.1 1201 0 - 6 < Int32.ofNat (6 * t)) (tg := 1255) (p2 := 30) (L1 := s_L1 (Int32.ofNat (6 * t))) (st1 := []) rfl (fun _ => ?_) (fun h => absurd ?_ h)
  · exact s_To.sg 1 (y := (1256, s_L1 (Int32.ofNat (6 * t)), [.int 1], s_hg g)) rfl s_To.rf
  · rw [hr.2]
    exact q_lt h1 h2 h3
section QLP
variable {p : Program} {l : Launch} {e : Env} {R : Room} {s : State} {m : MethodId} {args : Array Value} {below : List Frame} {meth : Method} {c : Code} {Q : State → Prop}
variable {base : Nat} {ρ : Nat → Nat} {D : va_G} {cid : Nat → ClassId} {xs : Nat → Int32} {Ln : Nat}
set_option maxRecDepth 100000 in
theorem q_known {q : s_M} {n0 z0 G Gs pc : Nat} {L : s_L} {st : List Value} {g : s_G} (k : q_Rw xs Ln g → s_K p l e R s m args below meth c Q base ρ D cid xs Ln q n0 z0 G Gs pc L st (s_hg g)) : s_K p l e R s m args below meth c Q base ρ D cid xs Ln q n0 z0 G Gs pc L st (s_hg g) :=
  fun H locs ls hH hS hl hL => k (hH.2 rfl) H locs ls hH hS hl hL
set_option maxRecDepth 100000 in
theorem q_seg {G Gs pc pc1 : Nat} {L L1 : s_L} {st st1 : List Value} {g g1 : s_G} (cx : s_Cx p s m args meth c base ρ D cid xs Ln s_m282) (hR1 : 206 ≤ R.frames) (hR2 : 8240 ≤ R.locals) (hc1 : 153 + G ≤ R.cells) (hc2 : 7386 + Gs ≤ R.slots) (t : s_To 200 s_m282 (pc, L, st, s_hg g) (pc1, L1, st1, s_hg g1))
    (kk : s_K p l e R s m args below meth c Q base ρ D cid xs Ln s_m282 0 0 G Gs pc1 L1 st1 (s_hg g1)) : s_K p l e R s m args below meth c Q base ρ D cid xs Ln s_m282 0 0 G Gs pc L st (s_hg g) := by
  obtain ⟨f, n, hn⟩ := t
  exact (s_toW cx (d := 200) hR1 hR2 n pc pc1 L L1 st st1 (s_hg g) (s_hg g1) hn (fun h => by cases h) (Nat.zero_le _) (Nat.zero_le _) hc1 hc2).2.2 kk
set_option maxRecDepth 100000 in
theorem q_wider {q : s_M} {n0 z0 G Gs G2 Gs2 pc : Nat} {L : s_L} {st : List Value} {h : s_H} (h1 : G ≤ G2) (h2 : Gs ≤ Gs2) (kk : s_K p l e R s m args below meth c Q base ρ D cid xs Ln q n0 z0 G2 Gs2 pc L st h) : s_K p l e R s m args below meth c Q base ρ D cid xs Ln q n0 z0 G Gs pc L st h :=
  fun H locs ls hH hS hl hL => W.widen (by omega) (by omega) (kk H locs ls hH hS hl hL)
set_option maxRecDepth 100000 in
/-- the law's loop; a boy's turn is given -/
theorem q_loop {XC XS : Nat} (cx : s_Cx p s m args meth c base ρ D cid xs Ln s_m282) (hR1 : 206 ≤ R.frames) (hR2 : 8240 ≤ R.locals) (hLn : Ln ≤ 3072)
    (hboy : ∀ (G Gs : Nat) (i : Int32) (g : s_G), q_In Ln i → e_I g → q_Rw xs Ln g → 153 + G + XC ≤ R.cells → 7386 + Gs + XS ≤ R.slots → (∀ g2, e_I g2 → s_K p l e R s m args below meth c Q base ρ D cid xs Ln s_m282 0 0 (G + XC) (Gs + XS) 23 (s_L1 (i + 6)) [] (s_hg g2)) → s_K p l e R s m args below meth c Q base ρ D cid xs Ln s_m282 0 0 G Gs 332 (s_L1 i) [] (s_hg g))
    (hend : ∀ (G Gs : Nat) (i : Int32) (g : s_G), 153 + G ≤ R.cells → 7386 + Gs ≤ R.slots → s_K p l e R s m args below meth c Q base ρ D cid xs Ln s_m282 0 0 G Gs 1256 (s_L1 i) [.int 1] (s_hg g)) :
    ∀ (n t G Gs : Nat) (g : s_G), e_I g → 6 * t ≤ Ln → Ln < 6 * t + 6 * n + 6 → 153 + G + n * XC ≤ R.cells → 7386 + Gs + n * XS ≤ R.slots → s_K p l e R s m args below meth c Q base ρ D cid xs Ln s_m282 0 0 G Gs 23 (s_L1 (Int32.ofNat (6 * t))) [] (s_hg g) := by
  intro n
  induction n with
  | zero =>
    intro t G Gs g hI h1 h2 h3 h4
    refine q_known (fun hr => ?_)
    exact q_seg cx hR1 hR2 (by omega) (by omega) (q_out h1 (by omega) hLn hr) (hend G Gs _ g (by omega) (by omega))
  | succ n ih =>
    intro t G Gs g hI h1 h2 h3 h4
    rw [Nat.add_mul] at h3 h4
    refine q_known (fun hr => ?_)
    by_cases ht : 6 * t + 6 ≤ Ln
    · have hi : q_In Ln (Int32.ofNat (6 * t)) := ⟨6 * t, rfl, ht, hLn⟩
      have e6 : Int32.ofNat (6 * t) + 6 = Int32.ofNat (6 * (t + 1)) := by
        rw [show 6 * (t + 1) = 6 * t + 6 by omega, Int32.ofNat_add]
        rfl
      have next : ∀ (G2 Gs2 : Nat) (g2 : s_G), G2 ≤ G + XC → Gs2 ≤ Gs + XS → e_I g2 → s_K p l e R s m args below meth c Q base ρ D cid xs Ln s_m282 0 0 G2 Gs2 23 (s_L1 (Int32.ofNat (6 * t) + 6)) [] (s_hg g2) := by
        intro G2 Gs2 g2 a1 a2 hI2
        rw [e6]
        exact ih (t + 1) G2 Gs2 g2 hI2 (by omega) (by omega) (by omega) (by omega)
      obtain ⟨k, hk, hto⟩ := q_head hi hr
      refine q_seg cx hR1 hR2 (by omega) (by omega) hto ?_
      by_cases k4 : k = 4
      · subst k4
        exact hboy G Gs _ g hi hI hr (by omega) (by omega) (fun g2 hI2 => next _ _ g2 (Nat.le_refl _) (Nat.le_refl _) hI2)
      · by_cases k38 : k < 38
        · obtain ⟨mid, v, g1, g2, t1, t2, hI2⟩ := q_all (xs := xs) (Ln := Ln) k38 k4 _ g hi hI hr
          refine q_seg cx hR1 hR2 (by omega) (by omega) t1 (q_known (fun hr1 => ?_))
          exact q_seg cx hR1 hR2 (by omega) (by omega) (t2 hr1) (next G Gs g2 (by omega) (by omega) hI2)
        · have ek : q_tg k = 1249 := by
            have : ∀ k, k < 64 → 38 ≤ k → q_tg k = 1249 := by decide
            exact this k hk (by omega)
          rw [ek]
          refine q_seg cx hR1 hR2 (by omega) (by omega) (s_To.sg 2 (y := (23, s_L1 (Int32.ofNat (6 * t) + 6), [], s_hg g)) rfl s_To.rf) (next G Gs g (by omega) (by omega) hI)
    · exact q_seg cx hR1 hR2 (by omega) (by omega) (q_out h1 (by omega) hLn hr) (hend G Gs _ g (by omega) (by omega))
end QLP
