-- SENTENCES: the call
theorem t_sentM (Z : s_G) : ∃ M', s_lp (fun (x : Int32 × s_G) => fM_sentence_130_79 x.1 x.2) (0, Z) = some (Z.1 130 45, M') ∧ (∀ k, k < 240 → M'.1 132 (135 + k) = Z.1 151 k) ∧ (∀ j, j < 135 → M'.1 132 j = Z.1 132 j) ∧ e_fx 132 132 Z M' := by
  obtain ⟨⟨i, Y⟩, ⟨h1, h2, h3, h4⟩, hlp⟩ := e_lpN (B := fun (y : Int32 × s_G) => fM_sentence_130_79 y.1 y.2) (fun k (y : Int32 × s_G) => y.1 = Int32.ofNat k ∧ (∀ j, j < k → y.2.1 132 (135 + j) = Z.1 151 j) ∧ (∀ j, j < 135 → y.2.1 132 j = Z.1 132 j) ∧ e_fx 132 132 Z y.2) 240 (x := (0, Z)) (by
    intro k y hk hy
    obtain ⟨i, Y⟩ := y
    obtain ⟨h1, h2, h3, h4⟩ := hy
    dsimp only at h1 h2 h3 h4
    subst h1
    refine ⟨(Int32.ofNat (k + 1), s_si Y 132 (135 + k) (Z.1 151 k)), ?_, rfl, ?_, ?_, h4.tr (e_fx.si (by omega) (by omega))⟩
    · unfold fM_sentence_130_79
      rw [if_pos (show Int32.ofNat k < 240 from e_T (b := 240) hk (by omega)), e_ix hk (by omega), s_b1_s, show (135 : Int32) + Int32.ofNat k = Int32.ofNat (135 + k) from by rw [Int32.ofNat_add]; rfl, e_ix (show 135 + k < 375 by omega) (by omega), s_b1_s, e_inc, h4.1 151 (by omega)]
    · intro j hj
      dsimp only
      rw [e_sS]
      by_cases hq : j = k
      · subst hq; rw [e_ve]
      · rw [e_vn _ _ (by omega)]; exact h2 j (by omega)
    · intro j hj
      dsimp only
      rw [e_sS, e_vn _ _ (by omega)]; exact h3 j hj) ⟨rfl, fun j hj => absurd hj (by omega), fun _ _ => rfl, e_fx.rf _ _ _⟩
  dsimp only at h1 h2 h3 h4
  subst h1
  refine ⟨Y, ?_, h2, h3, h4⟩
  rw [hlp]
  apply s_lp_out
  dsimp only
  unfold fM_sentence_130_79
  rw [if_neg (by decide), h4.1 130 (by omega)]
  rfl
theorem k_sentence {g : s_G} (h : e_I g) : e_k1 (fC_sentence_0 g) fM_sentence_130 := by
  obtain ⟨hR, nb, ne, n, p, hs, hJ⟩ := id h
  obtain ⟨⟨N, hN, t1, t2⟩, hby⟩ := hR.1.1
  obtain ⟨hH, hC3, hT, hSW⟩ := e_I.jc hJ
  have hok := hR.2.2.2.2
  have ebo := hR.2.2.1.2.2
  have h10 := hH.2.1.1
  have c31 : g.1 3 1 = Int32.ofNat ne := by rw [hC3.1.2.1, hH.2.1.2]
  have hnm : ∀ e, e < ne → e_nm (g.2.1 4 (7 + e)) (g.2.1 137 (7 + e)) := hJ.1.2.2.1.2
  have eC : fC_sentence_0 g = s_b2 (s_b1 (fQ_startText_1 200 g) (fun g1 => fS_readText_32_1_3 g1)) fun v3 g2 => if v3 = 0 then (some ((-1 : Int32) - (g2.1 1 11), (s_si g2 0 1 (g2.1 1 10)))) else s_b1 (fS_copyFrom_27_32 (s_si g2 0 1 (g2.1 1 10))) fun g4 => some (g4.1 27 5, g4) := by
    unfold fC_sentence_0
    rw [t_b1_b2]
  rcases t_sentT (C := g) (M := g) hN t1 t2 hby hok h10 c31 hH.2.1.2 hnm with ⟨C', M0, o0, s0, x2, -, -, x5, x6, -, x7, -⟩ | ⟨C', M0, x2, -, -, x5, x7, -⟩
  · generalize hX : s_si C' 0 1 (C'.1 1 10) = X
    have fX : ∀ a, ¬ a = 0 → X.1 a = C'.1 a := fun a ha => by rw [← hX, e_sN ha]
    have lX : X.2 = C'.2 := by rw [← hX]; rfl
    obtain ⟨g4, d1, d2, ⟨d3, d4, d5⟩, d6, d7, d8⟩ := e_cpS (d := 27) (s := 32) (g := X) (by omega) (by rw [lX]; exact x5.2.1) (Or.inr (by rw [fX 32 (by omega)]; exact x6))
    have q4 : ∀ a, ¬ a = 0 ∧ (a < 27 ∨ 30 < a) → g4.1 a = C'.1 a := fun a ha => by rw [d6 a (by omega), fX a ha.1]
    have q : ∀ a, ¬ a = 0 ∧ ¬ a = 1 ∧ (a < 27 ∨ 30 < a) ∧ (a < 32 ∨ 35 < a) → g4.1 a = g.1 a := fun a ha => by rw [q4 a (by omega), (x7 a (by omega)).1]
    have l4 : ∀ a, ¬ a = 1 ∧ (a < 32 ∨ 35 < a) → g4.2.1 a = g.2.1 a := fun a ha => by rw [d8, lX, (x7 a ha).2.1]
    rcases t_sentT (C := g) (M := g4) hN t1 (by rw [q 130 (by omega)]; exact t2) (by rw [q 131 (by omega)]; exact hby) hok h10 c31 (by rw [q 132 (by omega)]; exact hH.2.1.2) (fun e he => by rw [l4 137 (by omega)]; exact hnm e he) with ⟨C'', M', o, s, z2, z3, z4, z5, z6, z7, z8, z9⟩ | ⟨C'', M', z2, -⟩
    · rw [x2] at z2
      obtain ⟨-, e2⟩ := Prod.mk.inj (Option.some.inj z2)
      subst e2
      obtain ⟨kt, hk1, hk2⟩ := z7
      obtain ⟨⟨⟨ho20, hs2⟩, ⟨cc5, mm5⟩, -, cc4, mm4⟩, hok', -, -⟩ := z5
      obtain ⟨B1, B2, ⟨B3, B4⟩, B5, B6, B7, B8⟩ := z4
      generalize hZ : s_si (s_si M' 132 133 1) 132 134 (M'.1 130 47) = Z at z3
      have fZ : ∀ a, ¬ a = 132 → Z.1 a = M'.1 a := fun a ha => by rw [← hZ, e_sN ha, e_sN ha]
      have lZ : Z.2 = M'.2 := by rw [← hZ]; rfl
      obtain ⟨G, u1, u2, u3, u4⟩ := t_sentM Z
      have qG : ∀ a, ¬ a = 130 ∧ ¬ a = 151 ∧ ¬ a = 132 → G.1 a = g4.1 a := fun a ha => by
        rw [u4.1 a (by omega), fZ a ha.2.2, (z9.1 a ⟨ha.1, ha.2.1⟩).1, e_sN ha.1]
      have q0 : ∀ a, ¬ a = 0 ∧ ¬ a = 1 ∧ (a < 27 ∨ 30 < a) ∧ (a < 32 ∨ 35 < a) ∧ ¬ a = 130 ∧ ¬ a = 151 ∧ ¬ a = 132 → G.1 a = g.1 a := fun a ha => by rw [qG a (by omega), q a (by omega)]
      have k130 : ∀ j, j = 1 ∨ 13 < j ∧ j ≤ 43 → G.1 130 j = g.1 130 j := fun j hj => by
        rw [u4.1 130 (by omega), fZ 130 (by omega), z9.2.2 j (by omega), e_sS, e_vn _ _ (by omega), q 130 (by omega)]
      have lG : ∀ a, ¬ a = 130 ∧ ¬ a = 151 ∧ ¬ a = 1 ∧ (a < 32 ∨ 35 < a) → G.2.1 a = g.2.1 a := fun a ha => by
        rw [u4.2, lZ, (z9.1 a ⟨ha.1, ha.2.1⟩).2]
        show g4.2.1 a = _
        exact l4 a (by omega)
      have rG : G.2.2 = g4.2.2 := by
        rw [u4.2, lZ, z9.2.1]; rfl
      have r4 : ∀ a, ¬ a = 28 ∧ ¬ a = 1 ∧ (a < 32 ∨ 35 < a) → G.2.2 a = g.2.2 a := fun a ha => by
        rw [rG, d7 a (by omega), lX, (x7 a (by omega)).2.2]
      have f132 : ∀ j, j < 133 → G.1 132 j = g.1 132 j := fun j hj => by
        rw [u3 j (by omega), ← hZ, e_sS, e_vn _ _ (by omega), e_sS, e_vn _ _ (by omega), (z9.1 132 (by omega)).1, e_sN (by omega), q 132 (by omega)]
      refine ⟨Int32.ofNat o, g4, G, ?_, ?_, ?_, nb, ne, n, p, hs, ⟨?_, ?_, ?_, ?_, ?_, ?_⟩, ?_⟩
      · rw [eC, x2, s_b2_s, if_neg (by decide), hX, show fS_copyFrom_27_32 X = some g4 from d1, s_b1_s, d4, fX 32 (by omega), cc5]
      · refine (z3 _ u1).trans ?_
        rw [fZ 130 (by omega), mm5]
      · refine e_R_p hR (fun a ha => q0 a (by omega)) ?_ (fun j hj => k130 j (by omega)) ?_ ?_ ?_ ⟨⟨lG _ (by omega), lG _ (by omega), lG _ (by omega)⟩, r4 _ (by omega), r4 _ (by omega)⟩ ?_
        · rw [qG 0 (by omega), d6 0 (by omega), ← hX, e_sS, e_vn _ _ (by omega), (x7 0 (by omega)).1]
        · refine ⟨⟨0, by omega, ?_, ?_⟩, ?_⟩
          · rw [qG 1 (by omega), q4 1 (by omega)]; exact B3
          · rw [u4.1 130 (by omega), fZ 130 (by omega)]; exact B4
          · rw [qG 2 (by omega), q4 2 (by omega), u4.1 131 (by omega), fZ 131 (by omega)]; exact B2
        · rw [qG 0 (by omega), d6 0 (by omega), ← hX, e_sS, e_ve, u4.1 130 (by omega), fZ 130 (by omega), B7, B8]
        · rw [q0 37 (by omega), k130 42 (by omega), q0 150 (by omega)]; exact ebo
        · intro k hk
          rw [rG, d7 33 (by omega), lX]; exact hok' k hk
      · exact e_HW_cg hH (fun j hj => f132 j (by omega))
      · refine e_CR_cg hH.1.1 h10 (f := g.1 132) ?_ (fun j hj => f132 j (by omega))
        rw [q0 3 (by omega), q0 (3 + 2) (by omega), q0 (3 + 3) (by omega), q0 (3 + 4) (by omega), q0 (3 + 5) (by omega), q0 (3 + 6) (by omega)]
        exact hC3
      · rw [lG (3 + 1) (by omega), lG 137 (by omega)]; exact hJ.1.2.2.1
      · exact e_TA_cg (a := 17) hT (fun b b1 b2 => q0 b (by omega)) (fun j j1 j2 => f132 j j2)
      · exact e_SW_cg hSW (fun j j1 j2 => f132 j j2)
      · refine ⟨fun k hk => ?_, Or.inr ⟨?_, ?_, s, kt, by omega, ?_, ?_, ?_⟩⟩
        · rw [rG, (d2 k hk).1, lX]; exact hok' k hk
        · rw [qG 27 (by omega), d5, fX 32 (by omega)]; exact z6
        · rw [u3 133 (by omega), ← hZ, e_sS, e_vn _ _ (by omega), e_sS, e_ve]
        · rw [qG 27 (by omega), d3, fX 32 (by omega)]; exact cc4
        · rw [u3 134 (by omega), ← hZ, e_sS, e_ve]; exact hk1
        · refine t_tr_e (B := s) (nd := M'.1 151) (by omega) (fun k hk => ?_) s kt 0 s ?_
          · rw [u2 k hk, fZ 151 (by omega)]
          · refine t_tr_cg (B := s) (J := s) (Nat.le_refl _) (fun _ _ => rfl) (fun k hk => ?_) (s - 0) s kt 0 s (by omega) (Nat.le_refl _) hk2
            obtain ⟨r1, r2, r3⟩ := d2 k (by omega)
            refine ⟨?_, ?_, ?_⟩
            · rw [rG]; refine r1.trans ?_; rw [lX]
            · rw [qG _ (by omega)]; refine r2.trans ?_; rw [fX _ (by omega)]
            · rw [qG _ (by omega)]; refine r3.trans ?_; rw [fX _ (by omega)]
      · exact e_H_cg hJ.2 (fun a h1 h2 => q0 a (by omega)) (k130 25 (by omega)) (q0 135 (by omega))
    · rw [x2] at z2
      exact absurd (Prod.mk.inj (Option.some.inj z2)).1 (by decide)
  · generalize hg1 : s_si C' 0 1 (C'.1 1 10) = g1
    have f1 : ∀ a, ¬ a = 0 → g1.1 a = C'.1 a := fun a ha => by rw [← hg1, e_sN ha]
    have l1 : g1.2 = C'.2 := by rw [← hg1]; rfl
    have q : ∀ a, ¬ a = 0 ∧ ¬ a = 1 ∧ (a < 32 ∨ 35 < a) → g1.1 a = g.1 a := fun a ha => by rw [f1 a ha.1, (x7 a (by omega)).1]
    have l4 : ∀ a, ¬ a = 1 ∧ (a < 32 ∨ 35 < a) → g1.2.1 a = g.2.1 a := fun a ha => by rw [l1, (x7 a ha).2.1]
    rcases t_sentT (C := g) (M := g1) hN t1 (by rw [q 130 (by omega)]; exact t2) (by rw [q 131 (by omega)]; exact hby) hok h10 c31 (by rw [q 132 (by omega)]; exact hH.2.1.2) (fun e he => by rw [l4 137 (by omega)]; exact hnm e he) with ⟨C'', M', o, s, z2, -⟩ | ⟨C'', M', z2, z3, z4, z5, z6, z7⟩
    · rw [x2] at z2
      exact absurd (Prod.mk.inj (Option.some.inj z2)).1 (by decide)
    · rw [x2] at z2
      obtain ⟨-, e2⟩ := Prod.mk.inj (Option.some.inj z2)
      subst e2
      obtain ⟨F1, ⟨F2, F3⟩, F4, a, a9, F5, F6⟩ := z4
      have q1 : ∀ a, ¬ a = 130 ∧ ¬ a = 151 → M'.1 a = g1.1 a := fun a ha => by rw [(z7.1 a ha).1, e_sN ha.1]
      have q0 : ∀ a, ¬ a = 0 ∧ ¬ a = 1 ∧ (a < 32 ∨ 35 < a) ∧ ¬ a = 130 ∧ ¬ a = 151 → M'.1 a = g.1 a := fun a ha => by rw [q1 a (by omega), q a (by omega)]
      have k130 : ∀ j, j = 1 ∨ 13 < j ∧ j ≤ 43 → M'.1 130 j = g.1 130 j := fun j hj => by
        rw [z7.2.2 j (by omega), e_sS, e_vn _ _ (by omega), q 130 (by omega)]
      have lG : ∀ a, ¬ a = 130 ∧ ¬ a = 151 ∧ ¬ a = 1 ∧ (a < 32 ∨ 35 < a) → M'.2.1 a = g.2.1 a := fun a ha => by
        rw [(z7.1 a ⟨ha.1, ha.2.1⟩).2]
        show g1.2.1 a = _
        exact l4 a (by omega)
      have r4 : ∀ a, ¬ a = 1 ∧ (a < 32 ∨ 35 < a) → M'.2.2 a = g.2.2 a := fun a ha => by
        rw [z7.2.1]
        show g1.2.2 a = _
        rw [l1, (x7 a (by omega)).2.2]
      refine ⟨-1 - C'.1 1 11, g1, M', ?_, ?_, ?_, nb, ne, n, p, hs, ?_, ?_⟩
      · rw [eC, x2, s_b2_s, if_pos rfl, hg1]
      · rw [z3, F5, F6]
      · refine e_R_p hR (fun a ha => q0 a (by omega)) ?_ (fun j hj => k130 j (by omega)) ?_ ?_ ?_ ⟨⟨lG _ (by omega), lG _ (by omega), lG _ (by omega)⟩, r4 _ (by omega), r4 _ (by omega)⟩ ?_
        · rw [q1 0 (by omega), ← hg1, e_sS, e_vn _ _ (by omega), (x7 0 (by omega)).1]
        · refine ⟨⟨0, by omega, ?_, F3⟩, ?_⟩
          · rw [q1 1 (by omega), f1 1 (by omega)]; exact F2
          · rw [q1 2 (by omega), f1 2 (by omega)]; exact F1
        · rw [q1 0 (by omega), ← hg1, e_sS, e_ve]; exact F4
        · rw [q0 37 (by omega), k130 42 (by omega), q0 150 (by omega)]; exact ebo
        · intro k hk
          rw [z7.2.1]
          show s_okw (g1.2.2 33 k) = true
          rw [l1]; exact x5 k hk
      · exact e_core_cg hJ.1 (fun a h1 h2 => q0 a (by omega)) (lG _ (by omega)) (fun a h1 h2 => q0 a (by omega)) ⟨q0 _ (by omega), r4 _ (by omega), q0 _ (by omega), q0 _ (by omega)⟩ (fun i hi => by rw [q0 132 (by omega)]) (fun i hi => by rw [lG 137 (by omega)])
      · exact e_H_cg hJ.2 (fun a h1 h2 => q0 a (by omega)) (k130 25 (by omega)) (q0 135 (by omega))
