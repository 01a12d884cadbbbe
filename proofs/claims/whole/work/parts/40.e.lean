set_option maxRecDepth 100000 in
theorem b_cmp (x : Int64) : lg_cmp x x = 0 := by
  have h : ¬ x > x := by
    intro h
    rw [gt_iff_lt, Int64.lt_iff_toInt_lt] at h
    exact absurd h (Int.lt_irrefl _)
  unfold lg_cmp
  rw [if_neg h, if_pos rfl]
set_option maxRecDepth 100000 in
theorem b_as_le {ρ : Nat → Nat} : ∀ {L L' : s_L} {j : Nat}, s_le L L' → ∀ q ∈ s_as ρ j L, q ∈ s_as ρ j L' := by
  intro L
  induction L with
  | nil => intro L' j h q hq; cases hq
  | cons a r ih =>
    intro L' j h q hq
    cases L' with
    | nil => cases h
    | cons b r' =>
      obtain ⟨h1, h2⟩ := h
      cases a with
      | none =>
        have := ih h2 q hq
        cases b with
        | none => exact this
        | some w => exact List.mem_cons_of_mem _ this
      | some v =>
        rcases h1 with h1 | h1
        · cases h1
        · subst h1
          rcases List.mem_cons.mp hq with rfl | hq
          · exact List.mem_cons_self
          · exact List.mem_cons_of_mem _ (ih h2 q hq)
def b_L5 (i k : Int32) : s_L := [some (.ref 1200), some (.ref 0), some (.ref 130), some (.ref 152), some (.int i), some (.int k), none]
def b_L6 (i k r : Int32) : s_L := [some (.ref 1200), some (.ref 0), some (.ref 130), some (.ref 152), some (.int i), some (.int k), some (.int r)]
set_option maxRecDepth 100000 in
/-- the law's turn behind the class's boy -/
theorem b_rest {xs : Nat → Int32} {Ln : Nat} {i k r : Int32} {G g2 : s_G} (hi : q_In Ln i) (hr : q_Rw xs Ln G) (hM : fM_boy_130 (xs (i + 1).toNatClampNeg) (xs (i + 2).toNatClampNeg) G = some (r, g2)) (hk : g2.1 130 0 = k) (ho : k = 1 ∨ (k = 0 ∧ g2.2.1 152 0 = r.toInt64)) :
    s_To 200 s_m282 (349, s_L1 i, [.int k], s_hg G) (23, b_L6 (i + 6) k r, [], s_hg g2) := by
  refine s_To.sg 2 (y := (352, b_L5 i k, [.ref 130], s_hg G)) rfl ?_
  refine q_arg (j := i + 1) 1 (by omega) hi hr rfl rfl rfl ?_
  refine q_arg (j := i + 2) 2 (by omega) hi hr rfl rfl rfl ?_
  refine s_To.cl (d := 199) (q1 := s_m191) (md := 191) (vs := [.ref 130, .int (xs (i + 1).toNatClampNeg), .int (xs (i + 2).toNatClampNeg)]) (rest := []) rfl rfl rfl (Nat.le_of_ble_eq_true rfl) (s_Ev.up (by omega) (fM_boy_130_s hM)) ?_
  refine s_To.sg 2 (y := (370, b_L6 i k r, [.ref 130], s_hg g2)) rfl ?_
  have hth : fM_thrown_130 g2 = some k := by
    rw [← hk]
    rfl
  refine s_To.cl (d := 199) (q1 := s_m156) (md := 156) (vs := [.ref 130]) (rest := []) rfl rfl rfl (Nat.le_of_ble_eq_true rfl) (s_Ev.up (by omega) (fM_thrown_130_s hth)) ?_
  refine s_To.sg 1 (y := (375, b_L6 i k r, [.int k, .int k], s_hg g2)) rfl ?_
  refine s_To.br (c := k = k) (tg := 380) (p2 := 375) (L1 := b_L6 i k r) (st1 := []) rfl (fun _ => ?_) (fun h => absurd rfl h)
  refine s_To.sg 1 (y := (382, b_L6 i k r, [.int k], s_hg g2)) rfl ?_
  have fin : s_To 200 s_m282 (397, b_L6 i k r, [], s_hg g2) (23, b_L6 (i + 6) k r, [], s_hg g2) := s_To.sg 3 (y := (23, b_L6 (i + 6) k r, [], s_hg g2)) rfl s_To.rf
  refine s_To.br (c := ¬ k = 0) (tg := 397) (p2 := 382) (L1 := b_L6 i k r) (st1 := []) rfl (fun _ => fin) (fun h => ?_)
  rcases ho with rfl | ⟨rfl, ho⟩
  · exact absurd (by decide) h
  · refine s_To.sg 2 (y := (387, b_L6 i 0 r, [.int 0, .ref 152], s_hg g2)) rfl ?_
    refine s_To.nx (pc1 := 388) (L1 := b_L6 i 0 r) (st1 := [.long (g2.2.1 152 0)]) (h1 := s_hg g2) rfl (s_mo_rf _) ?_
    rw [ho]
    refine s_To.sg 3 (y := (392, b_L6 i 0 r, [.int (lg_cmp r.toInt64 r.toInt64)], s_hg g2)) rfl ?_
    rw [b_cmp]
    exact s_To.br (c := (0 : Int32) = 0) (tg := 397) (p2 := 392) (L1 := b_L6 i 0 r) (st1 := []) rfl (fun _ => fin) (fun h => absurd rfl h)
section BLW
variable {p : Program} {l : Launch} {e : Env} {R : Room} {s : State} {m : MethodId} {args : Array Value} {below : List Frame} {meth : Method} {c : Code} {Q : State → Prop}
variable {base : Nat} {ρ : Nat → Nat} {D : va_G} {cid : Nat → ClassId} {xs : Nat → Int32} {Ln : Nat}
set_option maxRecDepth 100000 in
theorem b_less {q : s_M} {n0 z0 G Gs pc : Nat} {L L' : s_L} {st : List Value} {h : s_H} (hle : s_le L L') (kk : s_K p l e R s m args below meth c Q base ρ D cid xs Ln q n0 z0 G Gs pc L st h) : s_K p l e R s m args below meth c Q base ρ D cid xs Ln q n0 z0 G Gs pc L' st h :=
  fun H locs ls hH hS hl hL => kk H locs ls hH hS ⟨hl.1, hl.2.1, fun q hq => hl.2.2 q (b_as_le hle q hq)⟩ ((s_le_len hle).trans hL)
set_option maxRecDepth 100000 in
set_option maxHeartbeats 2000000 in
theorem b_call {G Gs sa sb : Nat} {i x y k : Int32} {g g1 : s_G} (cx : s_Cx p s m args meth c base ρ D cid xs Ln s_m282) (hX : b_X (s_A base) sa sb s) (hR1 : 206 ≤ R.frames) (hR2 : 8240 ≤ R.locals) (hc1 : 153 + G + 1 ≤ R.cells) (hc2 : 7386 + Gs + 6 ≤ R.slots)
    (met : vx_Met l yL_boy b_ws (s_rm 5 1 6) (b_PX base ρ D cid xs Ln (b_vs x y) g sa sb) (s_Qc base ρ D cid xs Ln (some (.int k)) (s_hg g1)) (fun _ _ _ => False) 1 6 (s_A base))
    (kk : s_K p l e R s m args below meth c Q base ρ D cid xs Ln s_m282 0 0 (G + 1) (Gs + 6) 349 (s_L1 i) [.int k] (s_hg g1)) : s_K p l e R s m args below meth c Q base ρ D cid xs Ln s_m282 0 0 G Gs 346 (s_L1 i) [.ref 152, .int y, .int x, .ref 0] (s_hg g) := by
  obtain ⟨hx, hb, hml, hown, hts, hin, hSR, hρ, hinj, hdc, hck⟩ := cx
  intro H locs ls hH hS hl hL
  have hwsg : ∀ w ∈ b_ws, w ∈ s_gw := by
    intro w hw
    rcases List.mem_cons.mp hw with rfl | h
    · exact b_wC
    · exact h
  have hpay : ∀ w ∈ b_ws, ∀ (a' : Array Value) (U : State), s.WarmedH U.vm → w.before a' U = true := fun w hw a' U hW => word_at hW (good_of_word (s_gw_good (hwsg w hw)).2) (hts w (hwsg w hw))
  have hpar : ∀ sig, parseMethodDescriptor yL_boy.desc = some sig → 4 = sig.parameters.length := by
    intro sig hs
    have h2 : (parseMethodDescriptor yL_boy.desc).map (fun d => d.parameters.length) = some 4 := by decide +kernel
    rw [hs] at h2
    exact (Option.some.inj h2).symm
  have cw : vx_CSW R s args RL 38 yL_boy cL_boy 5 (some .int) [(0, 10, 13, 13)] b_ws (s_rm 5 1 6) 1 6 4 :=
    ⟨⟨rfl, rfl, (by show 5 + 6 + 1 ≤ R.frames; omega), (by show 8 + (5 + 11) + (40 * 5 + 240) ≤ R.locals; omega), hpay, List.mem_cons_self⟩, hts _ b_wC, hts _ b_wL, (by decide +kernel), hpar, hts _ b_w38, hts _ b_wT⟩
  have hpre : ∀ U : State, U.heap = H → s.WarmedH U.vm → b_PX base ρ D cid xs Ln (b_vs x y) g sa sb (((b_vs x y).map (s_v ρ)).toArray) U := by
    intro U hU hW
    have hq : ∀ a : Nat, a < s.heap.size → ¬ s_A base a → U.heap[a]? = s.heap[a]? := fun a h1 h2 => by rw [hU]; exact hS.2.1 a h1 h2
    exact ⟨⟨rfl, by rw [hU]; exact hH, s_SR_moved hSR hW (by rw [hU]; exact hS.1) hq, fun h => by cases h⟩, b_X_moved hX hW hq⟩
  have hrun := vx_runSX (p := p) (l := l) (e := e) (R := R) (below := below) (meth := meth) (H := H) (locs := locs) (cells := 153 - 0 + G) (slots := 7386 - 0 + Gs) (own := RL) (As := (b_vs x y).map (s_v ρ)) (rest := []) (g := F0 m 346 ls ([Value.ref 152, .int y, .int x, .ref 0].map (s_v ρ))) (n := 4) ⟨hx, hb, hml, hown, hts⟩ met cw ⟨b_PX_blind, hpre⟩ rfl rfl hl.1 rfl (lv_room (by show 0 ≤ 8; omega)) (by show decode code 346 = .ok (.invokestatic 38, 3); decide +kernel) ⟨by omega, by omega⟩
  intro T hT X
  rcases hrun T hT X with ⟨v, st₀, t, T', L, h0, X', hL9, e1, e2, ⟨hv, hHR, hF⟩, st⟩ | ⟨q, st₀, t, T', L, E, ce, h0, X', hL9, e1, e2, hfalse, hce, hcv, hcl, st⟩
  · cases hv
    obtain ⟨f1, f2⟩ := hF
    rw [h0] at f1 f2
    obtain ⟨t2, a1, b1⟩ := kk T'.heap (locs ++ L) ls (by rw [e1]; exact hHR) ⟨Nat.le_trans hS.1 (by rw [e1]; exact f1), fun a h1 h2 => by rw [e1, f2 a (Nat.lt_of_lt_of_le h1 hS.1) h2]; exact hS.2.1 a h1 h2, fun z hz => by
        rcases List.mem_append.mp hz with h | h
        · exact hS.2.2 z h
        · exact hL9 z h⟩ hl hL T' rfl (stand_widen X' (by show 153 - 0 + G + 1 ≤ 153 - 0 + (G + 1); omega) (by show 7386 - 0 + Gs + 6 ≤ 7386 - 0 + (Gs + 6); omega))
    exact ⟨t2, st t2 a1, b1⟩
  · exact hfalse.elim
set_option maxRecDepth 100000 in
/-- a boy's turn -/
theorem b_turn {sa sb : Nat} (hfl : l.stackTraces = false) (cx : s_Cx p s m args meth c base ρ D cid xs Ln s_m282) (hX : b_X (s_A base) sa sb s) (hR1 : 206 ≤ R.frames) (hR2 : 8240 ≤ R.locals) :
    ∀ (G Gs : Nat) (i : Int32) (g : s_G), q_In Ln i → e_I g → q_Rw xs Ln g → 153 + G + 1 ≤ R.cells → 7386 + Gs + 6 ≤ R.slots → (∀ g2, e_I g2 → s_K p l e R s m args below meth c Q base ρ D cid xs Ln s_m282 0 0 (G + 1) (Gs + 6) 23 (s_L1 (i + 6)) [] (s_hg g2)) → s_K p l e R s m args below meth c Q base ρ D cid xs Ln s_m282 0 0 G Gs 332 (s_L1 i) [] (s_hg g) := by
  intro G Gs i g hi hI hr hc1 hc2 kk
  have hρ := cx.2.2.2.2.2.2.2.1
  have hinj := cx.2.2.2.2.2.2.2.2.1
  have t1 : s_To 200 s_m282 (332, s_L1 i, [], s_hg g) (346, s_L1 i, [.ref 152, .int (xs (i + 2).toNatClampNeg), .int (xs (i + 1).toNatClampNeg), .ref 0], s_hg g) := by
    refine s_To.sg 1 (y := (333, s_L1 i, [.ref 0], s_hg g)) rfl ?_
    refine q_arg (j := i + 1) 1 (by omega) hi hr rfl rfl rfl ?_
    refine q_arg (j := i + 2) 2 (by omega) hi hr rfl rfl rfl ?_
    exact s_To.sg 1 (y := (346, s_L1 i, [.ref 152, .int (xs (i + 2).toNatClampNeg), .int (xs (i + 1).toNatClampNeg), .ref 0], s_hg g)) rfl s_To.rf
  refine q_seg cx hR1 hR2 (by omega) (by omega) t1 ?_
  have tail : ∀ (k r : Int32) (g1 g2 : s_G), e_I g2 → (q_Rw xs Ln g1 → s_To 200 s_m282 (349, s_L1 i, [.int k], s_hg g1) (23, b_L6 (i + 6) k r, [], s_hg g2)) → s_K p l e R s m args below meth c Q base ρ D cid xs Ln s_m282 0 0 (G + 1) (Gs + 6) 349 (s_L1 i) [.int k] (s_hg g1) := by
    intro k r g1 g2 hI2 t2
    refine q_known (fun hr1 => ?_)
    exact q_seg cx hR1 hR2 (by omega) (by omega) (t2 hr1) (b_less (L := s_L1 (i + 6)) (L' := b_L6 (i + 6) k r) ⟨Or.inr rfl, Or.inr rfl, Or.inr rfl, Or.inr rfl, Or.inr rfl, Or.inl rfl, Or.inl rfl, trivial⟩ (kk g2 hI2))
  rcases k_boy hI (xs (i + 1).toNatClampNeg) (xs (i + 2).toNatClampNeg) with ⟨v, hfin, hM⟩ | ⟨px, hpx, ht, hM⟩
  · obtain ⟨g2, m1, m2, m3, m4⟩ := hM (s_sl g 152 0 v.toInt64) rfl (b_out hI)
    refine b_call cx hX hR1 hR2 (by omega) (by omega) (b_law hfl hρ hinj (Or.inl ⟨rfl, v, hfin, rfl⟩)) (tail 0 v _ g2 m4 (fun hr1 => b_rest hi hr1 m1 m2 (Or.inr ⟨rfl, ?_⟩)))
    rw [m3]
    show s_up g.2.1 152 0 v.toInt64 152 0 = _
    rw [s_up_s]
    unfold va_up
    rw [if_pos rfl]
  · obtain ⟨w, g2, m1, m2, m3, m4⟩ := hM g rfl hI
    exact b_call cx hX hR1 hR2 (by omega) (by omega) (b_law hfl hρ hinj (Or.inr ⟨rfl, rfl, px, hpx, ht⟩)) (tail 1 w _ g2 m4 (fun hr1 => b_rest hi hr1 m1 m2 (Or.inl rfl)))
end BLW
