def q_tgs : List Nat := [208, 281, 306, 319, 332, 400, 437, 474, 499, 524, 549, 586, 623, 684, 697, 710, 735, 748, 761, 786, 799, 824, 861, 874, 899, 912, 925, 950, 975, 1000, 1037, 1086, 1111, 1136, 1149, 1174, 1199, 1224]
def q_tg (k : Nat) : Nat := match q_tgs[k]? with
  | some x => x
  | none => 1249
set_option maxRecDepth 100000 in
theorem q_all {xs : Nat → Int32} {Ln k : Nat} (hk : k < 38) (h4 : ¬ k = 4) : q_Cs xs Ln (q_tg k) := by
  match k, hk, h4 with
  | 0, _, _ => exact q_c0
  | 1, _, _ => exact q_c1
  | 2, _, _ => exact q_c2
  | 3, _, _ => exact q_c3
  | 4, _, h4 => exact absurd rfl h4
  | 5, _, _ => exact q_c5
  | 6, _, _ => exact q_c6
  | 7, _, _ => exact q_c7
  | 8, _, _ => exact q_c8
  | 9, _, _ => exact q_c9
  | 10, _, _ => exact q_c10
  | 11, _, _ => exact q_c11
  | 12, _, _ => exact q_c12
  | 13, _, _ => exact q_c13
  | 14, _, _ => exact q_c14
  | 15, _, _ => exact q_c15
  | 16, _, _ => exact q_c16
  | 17, _, _ => exact q_c17
  | 18, _, _ => exact q_c18
  | 19, _, _ => exact q_c19
  | 20, _, _ => exact q_c20
  | 21, _, _ => exact q_c21
  | 22, _, _ => exact q_c22
  | 23, _, _ => exact q_c23
  | 24, _, _ => exact q_c24
  | 25, _, _ => exact q_c25
  | 26, _, _ => exact q_c26
  | 27, _, _ => exact q_c27
  | 28, _, _ => exact q_c28
  | 29, _, _ => exact q_c29
  | 30, _, _ => exact q_c30
  | 31, _, _ => exact q_c31
  | 32, _, _ => exact q_c32
  | 33, _, _ => exact q_c33
  | 34, _, _ => exact q_c34
  | 35, _, _ => exact q_c35
  | 36, _, _ => exact q_c36
  | 37, _, _ => exact q_c37
  | n + 38, hk, _ => omega
def q_tsn (x pc d : Int) : Int → List Int → Option Nat
  | _, [] => if 0 ≤ pc + d then some (pc + d).toNat else none
  | lo, o :: t => if x = lo then (if 0 ≤ pc + o then some (pc + o).toNat else none) else q_tsn x pc d (lo + 1) t
set_option maxRecDepth 100000 in
theorem q_ts {x pc d : Int} {L : s_L} {st : List Value} {h : s_H} : ∀ (os : List Int) (lo : Int) (n : Nat), q_tsn x pc d lo os = some n → s_ts x pc L st h d lo os = s_nx n L st h := by
  intro os
  induction os with
  | nil =>
    intro lo n hn
    unfold q_tsn at hn
    unfold s_ts
    split at hn
    · rename_i h0
      cases hn
      rw [if_pos h0]
    · cases hn
  | cons o t ih =>
    intro lo n hn
    unfold q_tsn at hn
    unfold s_ts
    by_cases hx : x = lo
    · rw [if_pos hx] at hn ⊢
      split at hn
      · rename_i h0
        cases hn
        rw [if_pos h0]
      · cases hn
    · rw [if_neg hx] at hn ⊢
      exact ih _ _ hn
def q_of : List Int := [168, 241, 266, 279, 292, 360, 397, 434, 459, 484, 509, 546, 583, 644, 657, 670, 695, 708, 721, 746, 759, 784, 821, 834, 859, 872, 885, 910, 935, 960, 997, 1046, 1071, 1096, 1109, 1134, 1159, 1184]
set_option maxRecDepth 100000 in
theorem q_swn : ∀ k, k < 64 → q_tsn (Int32.ofNat k).toInt 40 1209 0 q_of = some (q_tg k) := by decide +kernel
set_option maxRecDepth 100000 in
theorem q_sw {k : Nat} (hk : k < 64) {L : s_L} {h : s_H} : s_exq s_m282 40 L [.int (Int32.ofNat k)] h = some (.inl (q_tg k, L, [], h)) := by
  have e := q_ts (L := L) (st := []) (h := h) q_of 0 (q_tg k) (q_swn k hk)
  exact (show s_exq s_m282 40 L [.int (Int32.ofNat k)] h = s_ts (Int32.ofNat k).toInt 40 L [] h 1209 0 q_of from rfl).trans e
