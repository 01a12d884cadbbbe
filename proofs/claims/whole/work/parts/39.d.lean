-- THE LAW'S TURNS, in the pure machine
def q_Rw (xs : Nat → Int32) (Ln : Nat) (g : s_G) : Prop := g.1 1200 = xs ∧ g.1 1201 0 = Int32.ofNat Ln
def q_In (Ln : Nat) (i : Int32) : Prop := ∃ t : Nat, i = Int32.ofNat t ∧ t + 6 ≤ Ln ∧ Ln ≤ 3072
set_option maxRecDepth 100000 in
theorem q_bd {Ln : Nat} {i : Int32} (h : q_In Ln i) (k : Nat) (hk : k ≤ 5) : ¬ (i + Int32.ofNat k < 0 ∨ (Int32.ofNat Ln).toNatClampNeg ≤ (i + Int32.ofNat k).toNatClampNeg) := by
  obtain ⟨t, rfl, h1, h2⟩ := h
  have e : Int32.ofNat t + Int32.ofNat k = nI (t + k) := (Int32.ofNat_add t k).symm
  rw [e]
  intro hn
  rcases hn with hn | hn
  · exact nI_pos (by omega) hn
  · rw [nI_clamp (by omega), show Int32.ofNat Ln = nI Ln from rfl, nI_clamp (by omega)] at hn
    omega
def q_cp13 : s_C := (s_cps[13]?).getD ([], [], [], [], [])
set_option maxRecDepth 100000 in
theorem q_ia {xs : Nat → Int32} {Ln pc tg : Nat} {g : s_G} {j : Int32} {L : s_L} {st : List Value} (hl : s_look s_t282 pc = some (.iaload, 1, tg)) (hr : q_Rw xs Ln g) (hj : ¬ (j < 0 ∨ (Int32.ofNat Ln).toNatClampNeg ≤ j.toNatClampNeg)) : s_exq s_m282 pc L (.int j :: .ref 1200 :: st) (s_hg g) = some (.inl (pc + 1, L, .int (xs j.toNatClampNeg) :: st, s_hg g)) := by
  unfold s_exq
  rw [show s_look (s_m282).2.2.2.2.2.2 pc = some (.iaload, 1, tg) from hl]
  show (if j < 0 ∨ (g.1 1201 0).toNatClampNeg ≤ j.toNatClampNeg then none else s_nx (pc + 1) L (.int (g.1 1200 j.toNatClampNeg) :: st) (s_hg g)) = _
  rw [hr.2, if_neg hj, hr.1]
  rfl
set_option maxRecDepth 100000 in
theorem q_arg {xs : Nat → Int32} {Ln pc tg : Nat} {g : s_G} {i j : Int32} {L : s_L} {st : List Value} {z : s_S} (k : Nat) (hk : k ≤ 5) (hi : q_In Ln i) (hr : q_Rw xs Ln g) (hj : j = i + Int32.ofNat k) (h4 : s_mny 0 0 s_m282 4 (pc, L, st, s_hg g) = some (pc + 5, L, .int j :: .ref 1200 :: st, s_hg g)) (hl : s_look s_t282 (pc + 5) = some (.iaload, 1, tg))
    (kk : s_To 200 s_m282 (pc + 6, L, .int (xs j.toNatClampNeg) :: st, s_hg g) z) : s_To 200 s_m282 (pc, L, st, s_hg g) z := by
  refine s_To.sg 4 h4 ?_
  refine s_To.nx (q_ia hl hr (by rw [hj]; exact q_bd hi k hk)) (s_mo_rf _) kk
/-- a case of the switch: the class's call, the reference's call, the same answer -/
def q_Cs (xs : Nat → Int32) (Ln pc : Nat) : Prop := ∀ (i : Int32) (g : s_G), q_In Ln i → e_I g → q_Rw xs Ln g → ∃ (mid : Nat) (v : Int32) (g1 g2 : s_G), s_To 200 s_m282 (pc, s_L1 i, [], s_hg g) (mid, s_L1 i, [.int v], s_hg g1) ∧ (q_Rw xs Ln g1 → s_To 200 s_m282 (mid, s_L1 i, [.int v], s_hg g1) (23, s_L1 (i + 6), [], s_hg g2)) ∧ e_I g2
set_option maxRecDepth 100000 in
theorem q_end {i v : Int32} {g : s_G} {pc : Nat} (hb : s_exq s_m282 pc (s_L1 i) [.int v, .int v] (s_hg g) = s_br (v = v) 1249 pc (s_L1 i) [] (s_hg g)) : s_To 200 s_m282 (pc, s_L1 i, [.int v, .int v], s_hg g) (23, s_L1 (i + 6), [], s_hg g) := by
  refine s_To.br hb (fun _ => ?_) (fun h => absurd rfl h)
  exact s_To.sg 2 (y := (23, s_L1 (i + 6), [], s_hg g)) rfl s_To.rf
