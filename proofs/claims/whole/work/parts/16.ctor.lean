-- THE LAW's beginning, from its entry to its loop's head, in the pure machine: by evaluation
def s_hz : s_H := (0, 0, true, fun _ _ => 0, fun _ _ => 0, fun _ _ => none)
def s_x1 : Option s_S := s_mny 20000 20 s_m282 13 (0, s_ent [.ref 1200] 7, [], s_hz)
def s_hOf (o : Option s_S) : s_H := match o with
  | some x => x.2.2.2
  | none => s_hz
theorem s_hOf_some (x : s_S) : s_hOf (some x) = x.2.2.2 := rfl
def s_h1 : s_H := s_hOf s_x1
theorem s_h1_def : s_h1 = s_hOf s_x1 := by unfold s_h1; with_reducible rfl
def s_L1 (i : Int32) : s_L := [some (.ref 1200), some (.ref 0), some (.ref 130), some (.ref 152), some (.int i), none, none]
set_option maxRecDepth 1000000 in
theorem s_x1_ok : (match s_x1 with
  | some x => Nat.beq x.1 23 && (decide (x.2.1 = s_L1 0) && (decide (x.2.2.1 = []) && (Nat.beq x.2.2.2.1 153 && (Nat.beq x.2.2.2.2.1 7386 && x.2.2.2.2.2.1))))
  | none => false) = true := by decide +kernel
theorem s_x1_eq : s_x1 = some (23, s_L1 0, [], s_h1) ∧ s_h1.1 = 153 ∧ s_h1.2.1 = 7386 ∧ s_h1.2.2.1 = true := by
  have h := s_x1_ok
  have e := s_h1_def
  cases hx : s_x1 with
  | none => rw [hx] at h; cases h
  | some x =>
    rw [hx] at h e
    obtain ⟨a, b, c, d⟩ := x
    simp only [Bool.and_eq_true, decide_eq_true_eq] at h
    obtain ⟨h1, h2, h3, h4, h5, h6⟩ := h
    have e1 := Nat.eq_of_beq_eq_true h1
    have e4 := Nat.eq_of_beq_eq_true h4
    have e5 := Nat.eq_of_beq_eq_true h5
    subst e1 h2 h3
    rw [s_hOf_some] at e
    rw [e]
    exact ⟨rfl, e4, e5, h6⟩
