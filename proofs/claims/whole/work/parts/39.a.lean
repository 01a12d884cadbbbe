-- THE HEAP AT THE LOOP'S HEAD, by evaluation
def q_sz (a : Nat) : Nat := match s_Gs[a]? with
  | some (k, n) => if k < 100 then s_nf k else if 104 ≤ k then n else 0
  | none => 0
def q_L : List (Nat × Nat × Nat × Int32) := [(1, 1, 1, 0), (130, 2, 1, 0), (2, 0, 940, 0), (131, 0, 940, 0), (122, 1, 1, 0), (130, 28, 1, 0), (130, 31, 1, 0), (122, 3, 1, 0), (127, 0, 1, 0), (130, 34, 1, -1), (0, 15, 1, 0), (130, 37, 1, 0), (37, 6, 1, 0), (130, 42, 1, 0), (86, 3, 1, 0), (140, 0, 2, 0), (104, 3, 1, 0), (132, 0, 2, 0), (132, 2, 1, 10), (132, 3, 1, 2), (132, 4, 1, 1), (132, 5, 1, 0), (132, 6, 4, 3), (132, 47, 1, 0), (132, 48, 1, 10), (132, 49, 1, 2), (132, 50, 83, 0), (132, 133, 1, 0), (3, 0, 2, 0), (3, 8, 1, 10), (3, 9, 1, 2), (3, 10, 1, 1), (3, 11, 1, 0), (9, 0, 4, 3), (17, 5, 1, 0), (17, 6, 1, 10), (17, 7, 1, 2), (17, 8, 1, 0), (17, 9, 1, 0), (18, 0, 70, 0), (19, 0, 7, 0), (20, 0, 4, 0), (21, 0, 7, 0), (27, 6, 1, 0), (43, 1, 2, 0), (130, 25, 1, 0)]
def q_ckI (h : s_H) : Bool := q_L.all fun x => (List.range x.2.2.1).all fun j => decide (h.2.2.2.1 x.1 (x.2.1 + j) = x.2.2.2)
def q_ckR (h : s_H) : Bool := (List.range 153).all fun a => (List.range (q_sz a)).all fun j => s_mut a j || decide (h.2.2.2.2.2 a j = s_hrf h.2.2.2.2.2 a j)
def q_ckW (h : s_H) : Bool := (List.range 40).all fun k => s_okw (h.2.2.2.2.2 28 k) && s_okw (h.2.2.2.2.2 33 k)
def q_ckE (h : s_H) : Bool := decide (h.2.2.2.1 0 1 = h.2.2.2.1 130 10) && decide (h.2.2.2.1 122 4 = h.2.2.2.1 130 32)
set_option maxRecDepth 1000000 in
theorem q_ok : (match s_x1 with
  | some x => q_ckI x.2.2.2 && (q_ckR x.2.2.2 && (q_ckW x.2.2.2 && q_ckE x.2.2.2))
  | none => false) = true := by decide +kernel
theorem q_ok1 : q_ckI s_h1 = true ∧ q_ckR s_h1 = true ∧ q_ckW s_h1 = true ∧ q_ckE s_h1 = true := by
  have h := q_ok
  have e := s_h1_def
  cases hx : s_x1 with
  | none => rw [hx] at h; cases h
  | some x =>
    rw [hx] at h e
    rw [s_hOf_some] at e
    rw [e]
    simp only [Bool.and_eq_true] at h
    exact h
