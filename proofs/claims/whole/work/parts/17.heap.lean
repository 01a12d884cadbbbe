-- THE HEAP once all cells are made: which cell each reference holds; four rows of words and the word at hand may change
def s_hr0 : List (Nat × List (Option Nat)) := [(0, [some 1, none, some 3, some 10, some 17, some 22, some 27, some 32, some 37, some 43, some 85, some 122, some 127, some 128, some 129]), (1, [some 2]), (3, [none, none, some 4, some 5, some 6, some 7, some 8, some 9]), (10, [none, none, some 11, some 12, some 13, some 14, some 15, some 16]), (17, [some 3, some 18, some 19, some 20, some 21]), (22, [some 3, some 23, some 24, some 25, some 26]), (27, [some 28, some 29, some 30, some 31]), (32, [some 33, some 34, some 35, some 36]), (37, [some 38, some 39, some 40, some 41, some 42]), (43, [some 44]), (44, [some 45, some 50, some 55, some 60, some 65, some 70, some 75, some 80]), (45, [some 3, some 46, some 47, some 48, some 49]), (50, [some 3, some 51, some 52, some 53, some 54]), (55, [some 3, some 56, some 57, some 58, some 59]), (60, [some 3, some 61, some 62, some 63, some 64]), (65, [some 3, some 66, some 67, some 68, some 69]), (70, [some 3, some 71, some 72, some 73, some 74]), (75, [some 3, some 76, some 77, some 78, some 79]), (80, [some 3, some 81, some 82, some 83, some 84]), (85, [some 86, some 104]), (86, [some 87, some 94, some 99]), (87, [none, none, some 88, some 89, some 90, some 91, some 92, some 93]), (94, [some 87, some 95, some 96, some 97, some 98]), (99, [some 100, some 101, some 102, some 103]), (104, [some 105, some 112, some 117]), (105, [none, none, some 106, some 107, some 108, some 109, some 110, some 111]), (112, [some 105, some 113, some 114, some 115, some 116]), (117, [some 118, some 119, some 120, some 121]), (122, [some 123, none, some 124, none, none, some 125, some 126]), (130, [none, some 131, none, none, none, none, none, none, none, none, none, none, none, none, some 132, some 133, some 134, some 135, some 136, some 137, some 138, some 139, some 140, some 141, some 142, none, some 143, some 144, none, some 145, none, none, none, some 146, none, some 147, some 148, none, none, some 149, some 150, none, none, some 151])]
def s_mut (a k : Nat) : Bool := Nat.beq a 28 || Nat.beq a 33 || Nat.beq a 100 || Nat.beq a 118 || (Nat.beq a 1 && Nat.beq k 9)
def s_hrf (r : Nat → Nat → Option Nat) : Nat → Nat → Option Nat := fun a k => match s_mut a k with
  | true => r a k
  | false => (match s_look s_hr0 a with
    | some l => (match l[k]? with
      | some x => x
      | none => none)
    | none => none)
/-- ints, longs, the references that change -/
abbrev s_G : Type := (Nat → Nat → Int32) × (Nat → Nat → Int64) × (Nat → Nat → Option Nat)
def s_hg (g : s_G) : s_H := (153, 7386, false, g.1, g.2.1, s_hrf g.2.2)
theorem s_hrf_up {r : Nat → Nat → Option Nat} {a k : Nat} {v : Option Nat} (hm : s_mut a k = true) : s_up (s_hrf r) a k v = s_hrf (s_up r a k v) := by
  funext b j
  by_cases hb : b = a
  · subst hb
    rw [s_up_s]
    unfold va_up
    by_cases hj : j = k
    · subst hj
      rw [if_pos rfl]
      unfold s_hrf
      rw [hm]
      dsimp only
      rw [s_up_s]
      unfold va_up
      rw [if_pos rfl]
    · rw [if_neg hj]
      unfold s_hrf
      cases s_mut b j with
      | true => dsimp only; rw [s_up_s]; unfold va_up; rw [if_neg hj]
      | false => rfl
  · rw [s_up_n _ _ _ hb]
    unfold s_hrf
    cases s_mut b j with
    | true => dsimp only; rw [s_up_n _ _ _ hb]
    | false => rfl
/-- a write of a reference that changes -/
theorem s_wR_hg {g : s_G} {a k : Nat} {v : Option Nat} (hm : s_mut a k = true) : s_wR (s_hg g) a k v = s_hg (g.1, g.2.1, s_up g.2.2 a k v) := by
  unfold s_wR s_hg
  dsimp only
  rw [s_hrf_up hm]
