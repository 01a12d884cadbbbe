-- NUMBERS AND LOOPS of the pure functions
theorem e_0 : (0 : Int32) = Int32.ofNat 0 := rfl
theorem e_1 : (1 : Int32) = Int32.ofNat 1 := rfl
theorem e_2 : (2 : Int32) = Int32.ofNat 2 := rfl
theorem e_3 : (3 : Int32) = Int32.ofNat 3 := rfl
theorem e_4 : (4 : Int32) = Int32.ofNat 4 := rfl
theorem e_5 : (5 : Int32) = Int32.ofNat 5 := rfl
theorem e_6 : (6 : Int32) = Int32.ofNat 6 := rfl
theorem e_7 : (7 : Int32) = Int32.ofNat 7 := rfl
theorem e_8 : (8 : Int32) = Int32.ofNat 8 := rfl
theorem e_9 : (9 : Int32) = Int32.ofNat 9 := rfl
theorem e_10 : (10 : Int32) = Int32.ofNat 10 := rfl
theorem e_11 : (11 : Int32) = Int32.ofNat 11 := rfl
theorem e_12 : (12 : Int32) = Int32.ofNat 12 := rfl
theorem e_13 : (13 : Int32) = Int32.ofNat 13 := rfl
theorem e_14 : (14 : Int32) = Int32.ofNat 14 := rfl
theorem e_15 : (15 : Int32) = Int32.ofNat 15 := rfl
theorem e_16 : (16 : Int32) = Int32.ofNat 16 := rfl
theorem e_17 : (17 : Int32) = Int32.ofNat 17 := rfl
theorem e_18 : (18 : Int32) = Int32.ofNat 18 := rfl
theorem e_19 : (19 : Int32) = Int32.ofNat 19 := rfl
theorem e_20 : (20 : Int32) = Int32.ofNat 20 := rfl
theorem e_21 : (21 : Int32) = Int32.ofNat 21 := rfl
theorem e_22 : (22 : Int32) = Int32.ofNat 22 := rfl
theorem e_23 : (23 : Int32) = Int32.ofNat 23 := rfl
theorem e_24 : (24 : Int32) = Int32.ofNat 24 := rfl
theorem e_25 : (25 : Int32) = Int32.ofNat 25 := rfl
theorem e_26 : (26 : Int32) = Int32.ofNat 26 := rfl
theorem e_27 : (27 : Int32) = Int32.ofNat 27 := rfl
theorem e_28 : (28 : Int32) = Int32.ofNat 28 := rfl
theorem e_29 : (29 : Int32) = Int32.ofNat 29 := rfl
theorem e_30 : (30 : Int32) = Int32.ofNat 30 := rfl
theorem e_31 : (31 : Int32) = Int32.ofNat 31 := rfl
theorem e_32 : (32 : Int32) = Int32.ofNat 32 := rfl
theorem e_33 : (33 : Int32) = Int32.ofNat 33 := rfl
theorem e_34 : (34 : Int32) = Int32.ofNat 34 := rfl
theorem e_35 : (35 : Int32) = Int32.ofNat 35 := rfl
theorem e_36 : (36 : Int32) = Int32.ofNat 36 := rfl
theorem e_37 : (37 : Int32) = Int32.ofNat 37 := rfl
theorem e_38 : (38 : Int32) = Int32.ofNat 38 := rfl
theorem e_39 : (39 : Int32) = Int32.ofNat 39 := rfl
theorem e_40 : (40 : Int32) = Int32.ofNat 40 := rfl
theorem e_41 : (41 : Int32) = Int32.ofNat 41 := rfl
theorem e_42 : (42 : Int32) = Int32.ofNat 42 := rfl
theorem e_43 : (43 : Int32) = Int32.ofNat 43 := rfl
theorem e_44 : (44 : Int32) = Int32.ofNat 44 := rfl
theorem e_45 : (45 : Int32) = Int32.ofNat 45 := rfl
theorem e_46 : (46 : Int32) = Int32.ofNat 46 := rfl
theorem e_47 : (47 : Int32) = Int32.ofNat 47 := rfl
theorem e_48 : (48 : Int32) = Int32.ofNat 48 := rfl
theorem e_49 : (49 : Int32) = Int32.ofNat 49 := rfl
theorem e_50 : (50 : Int32) = Int32.ofNat 50 := rfl
theorem e_51 : (51 : Int32) = Int32.ofNat 51 := rfl
theorem e_52 : (52 : Int32) = Int32.ofNat 52 := rfl
theorem e_53 : (53 : Int32) = Int32.ofNat 53 := rfl
theorem e_54 : (54 : Int32) = Int32.ofNat 54 := rfl
theorem e_55 : (55 : Int32) = Int32.ofNat 55 := rfl
theorem e_56 : (56 : Int32) = Int32.ofNat 56 := rfl
theorem e_57 : (57 : Int32) = Int32.ofNat 57 := rfl
theorem e_58 : (58 : Int32) = Int32.ofNat 58 := rfl
theorem e_59 : (59 : Int32) = Int32.ofNat 59 := rfl
theorem e_60 : (60 : Int32) = Int32.ofNat 60 := rfl
theorem e_61 : (61 : Int32) = Int32.ofNat 61 := rfl
theorem e_62 : (62 : Int32) = Int32.ofNat 62 := rfl
theorem e_63 : (63 : Int32) = Int32.ofNat 63 := rfl
theorem e_70 : (70 : Int32) = Int32.ofNat 70 := rfl
theorem e_86 : (86 : Int32) = Int32.ofNat 86 := rfl
theorem e_96 : (96 : Int32) = Int32.ofNat 96 := rfl
theorem e_97 : (97 : Int32) = Int32.ofNat 97 := rfl
theorem e_99 : (99 : Int32) = Int32.ofNat 99 := rfl
theorem e_100 : (100 : Int32) = Int32.ofNat 100 := rfl
theorem e_122 : (122 : Int32) = Int32.ofNat 122 := rfl
theorem e_128 : (128 : Int32) = Int32.ofNat 128 := rfl
theorem e_133 : (133 : Int32) = Int32.ofNat 133 := rfl
theorem e_134 : (134 : Int32) = Int32.ofNat 134 := rfl
theorem e_135 : (135 : Int32) = Int32.ofNat 135 := rfl
theorem e_200 : (200 : Int32) = Int32.ofNat 200 := rfl
theorem e_240 : (240 : Int32) = Int32.ofNat 240 := rfl
theorem e_255 : (255 : Int32) = Int32.ofNat 255 := rfl
theorem e_375 : (375 : Int32) = Int32.ofNat 375 := rfl
theorem e_400 : (400 : Int32) = Int32.ofNat 400 := rfl
theorem e_401 : (401 : Int32) = Int32.ofNat 401 := rfl
theorem e_602 : (602 : Int32) = Int32.ofNat 602 := rfl
theorem e_688 : (688 : Int32) = Int32.ofNat 688 := rfl
theorem e_900 : (900 : Int32) = Int32.ofNat 900 := rfl
theorem e_940 : (940 : Int32) = Int32.ofNat 940 := rfl
theorem e_950 : (950 : Int32) = Int32.ofNat 950 := rfl
theorem e_999 : (999 : Int32) = Int32.ofNat 999 := rfl
theorem e_1000 : (1000 : Int32) = Int32.ofNat 1000 := rfl
theorem e_1023 : (1023 : Int32) = Int32.ofNat 1023 := rfl
theorem e_1024 : (1024 : Int32) = Int32.ofNat 1024 := rfl
theorem e_lt {a b : Nat} (ha : a < 2147483648) (hb : b < 2147483648) : (Int32.ofNat a < Int32.ofNat b) = (a < b) := propext (Int32.ofNat_lt_iff_lt (by omega) (by omega))
theorem e_le {a b : Nat} (ha : a < 2147483648) (hb : b < 2147483648) : (Int32.ofNat a ≤ Int32.ofNat b) = (a ≤ b) := propext (Int32.ofNat_le_iff_le (by omega) (by omega))
theorem e_in {a b : Nat} (ha : a < 2147483648) (hb : b < 2147483648) (h : Int32.ofNat a = Int32.ofNat b) : a = b := by
  have h1 : (Int32.ofNat a).toInt = (Int32.ofNat b).toInt := by rw [h]
  rw [Int32.toInt_ofNat_of_lt (by omega), Int32.toInt_ofNat_of_lt (by omega)] at h1
  omega
theorem e_eq {a b : Nat} (ha : a < 2147483648) (hb : b < 2147483648) : (Int32.ofNat a = Int32.ofNat b) = (a = b) := propext ⟨e_in ha hb, fun h => by rw [h]⟩
theorem e_nn {a : Nat} (ha : a < 2147483648) : ¬ Int32.ofNat a < 0 := Int32.not_lt.mpr (Int32.zero_le_ofNat_of_lt (by omega))
theorem e_nn' {a : Nat} (ha : a < 2147483648) : (Int32.ofNat a < 0) = False := eq_false (e_nn ha)
theorem e_ix {n k : Nat} (hk : k < n) (hn : n ≤ 100000) : s_ix n (Int32.ofNat k) = some k := by
  unfold s_ix
  have h1 : (Int32.ofNat k).toNatClampNeg = k := Int32.toNatClampNeg_ofNat_of_lt (by omega)
  rw [h1, if_neg]
  intro h
  rcases h with h | h
  · exact e_nn (by omega) h
  · omega
/-- a number that is none too small and below a count -/
theorem e_rng {x : Int32} {n : Nat} (h0 : ¬ x < 0) (h1 : x < Int32.ofNat n) (hn : n < 2147483648) : ∃ k, k < n ∧ x = Int32.ofNat k := by
  have hx : Int32.ofNat x.toNatClampNeg = x := Int32.ofNat_toNatClampNeg x (Int32.not_lt.mp h0)
  refine ⟨x.toNatClampNeg, ?_, hx.symm⟩
  have h2 : x.toInt < (n : Int) := by
    have := Int32.lt_iff_toInt_lt.mp h1
    rw [Int32.toInt_ofNat_of_lt (by omega)] at this
    exact this
  have h3 : (x.toNatClampNeg : Int) = x.toInt := by
    have h4 : (0 : Int) ≤ x.toInt := by
      have := Int32.le_iff_toInt_le.mp (Int32.not_lt.mp h0)
      exact this
    exact Int.toNat_of_nonneg h4
  omega
theorem e_rng2 {x : Int32} {n : Nat} (h0 : ¬ x < 0) (h1 : ¬ Int32.ofNat n < x) (hn : n < 2147483647) : ∃ k, k ≤ n ∧ x = Int32.ofNat k := by
  have h2 : x < Int32.ofNat (n + 1) := by
    rw [Int32.lt_iff_toInt_lt, Int32.toInt_ofNat_of_lt (by omega)]
    have := Int32.le_iff_toInt_le.mp (Int32.not_lt.mp h1)
    rw [Int32.toInt_ofNat_of_lt (by omega)] at this
    omega
  obtain ⟨k, hk, e⟩ := e_rng h0 h2 (by omega)
  exact ⟨k, by omega, e⟩
theorem e_inc (k : Nat) : Int32.ofNat k + 1 = Int32.ofNat (k + 1) := by rw [Int32.ofNat_add]; rfl
theorem e_dec {k : Nat} (hk : 1 ≤ k) : Int32.ofNat k - 1 = Int32.ofNat (k - 1) := by rw [Int32.ofNat_sub _ _ hk]; rfl
-- loops: a row of states
theorem e_seq {X R : Type} {B : X → Option (X ⊕ R)} (f : Nat → X) (n : Nat) (hs : ∀ k, k < n → B (f k) = some (.inl (f (k + 1)))) : s_lp B (f 0) = s_lp B (f n) := by
  induction n with
  | zero => rfl
  | succ n ih =>
    rw [ih (fun k hk => hs k (by omega))]
    exact s_lp_in (hs n (by omega))
theorem e_seq2 {X R : Type} {B : X → Option (X ⊕ R)} (f : Nat → X) (n : Nat) {r : R} {x : X} (h0 : x = f 0) (hs : ∀ k, k < n → B (f k) = some (.inl (f (k + 1)))) (he : B (f n) = some (.inr r)) : s_lp B x = some r := by
  rw [h0, e_seq f n hs]
  exact s_lp_out he
/-- a loop that keeps what is so, and ends -/
theorem e_lpM {X R : Type} {B : X → Option (X ⊕ R)} (I : X → Prop) (M : X → Nat) (Q : R → Prop) (hs : ∀ x, I x → (∃ y, B x = some (.inl y) ∧ I y ∧ M y < M x) ∨ (∃ r, B x = some (.inr r) ∧ Q r)) {x : X} (hx : I x) : ∃ r, s_lp B x = some r ∧ Q r := by
  have key : ∀ (n : Nat) (x : X), M x ≤ n → I x → ∃ r, s_lp B x = some r ∧ Q r := by
    intro n
    induction n with
    | zero =>
      intro x hm hx
      rcases hs x hx with ⟨y, h1, h2, h3⟩ | ⟨r, h1, h2⟩
      · omega
      · exact ⟨r, s_lp_out h1, h2⟩
    | succ n ih =>
      intro x hm hx
      rcases hs x hx with ⟨y, h1, h2, h3⟩ | ⟨r, h1, h2⟩
      · obtain ⟨r, h4, h5⟩ := ih y (by omega) h2
        exact ⟨r, (s_lp_in h1).trans h4, h5⟩
      · exact ⟨r, s_lp_out h1, h2⟩
  exact key _ x (Nat.le_refl _) hx
/-- a count's steps, each keeping what is so of it -/
theorem e_lpN {X R : Type} {B : X → Option (X ⊕ R)} (I : Nat → X → Prop) (n : Nat) (hs : ∀ k x, k < n → I k x → ∃ y, B x = some (.inl y) ∧ I (k + 1) y) {x : X} (hx : I 0 x) : ∃ y, I n y ∧ s_lp B x = s_lp B y := by
  have key : ∀ k, k ≤ n → ∃ y, I k y ∧ s_lp B x = s_lp B y := by
    intro k
    induction k with
    | zero => intro _; exact ⟨x, hx, rfl⟩
    | succ k ih =>
      intro hk
      obtain ⟨y, h1, h2⟩ := ih (by omega)
      obtain ⟨z, h3, h4⟩ := hs k y (by omega) h1
      exact ⟨z, h4, h2.trans (s_lp_in h3)⟩
  exact key n (Nat.le_refl n)
-- reading what was written
theorem e_ua {α : Type} (f : Nat → Nat → α) {a b : Nat} (k : Nat) (v : α) (h : b ≠ a) : s_up f a k v b = f b := s_up_n f k v h
theorem e_ra {α : Type} (f : Nat → Nat → α) {a b : Nat} (r : Nat → α) (h : b ≠ a) : s_row f a r b = f b := by
  unfold s_row
  cases hq : Nat.beq b a with
  | true => exact absurd (Nat.eq_of_beq_eq_true hq) h
  | false => rfl
theorem e_rs {α : Type} (f : Nat → Nat → α) (a : Nat) (r : Nat → α) : s_row f a r a = r := by
  unfold s_row; rw [Nat.beq_refl]
theorem e_ve {α : Type} (f : Nat → α) (k : Nat) (v : α) : va_up f k v k = v := va_up_self f k v
theorem e_vn {α : Type} (f : Nat → α) {k j : Nat} (v : α) (h : j ≠ k) : va_up f k v j = f j := va_up_ne f v h
theorem e_cpy {α : Type} (f g : Nat → α) {n k : Nat} (hk : k < n) : va_cpy f g 0 0 n k = f k := by
  unfold va_cpy
  rw [if_pos ⟨Nat.zero_le k, by omega⟩]
  congr 1
  omega
-- sums
def e_su (f : Nat → Int32) (a : Nat) : Nat → Int32
  | 0 => 0
  | n + 1 => e_su f a n + f (a + n)
theorem e_su_eq {f g : Nat → Int32} {a b : Nat} : ∀ n, (∀ k, k < n → f (a + k) = g (b + k)) → e_su f a n = e_su g b n := by
  intro n
  induction n with
  | zero => intro _; rfl
  | succ n ih =>
    intro h
    rw [e_su, e_su, ih (fun k hk => h k (by omega)), h n (by omega)]
theorem e_su_up {f : Nat → Int32} {a j : Nat} {v : Int32} : ∀ n, a ≤ j → j < a + n → e_su (va_up f j v) a n = e_su f a n + (v - f j) := by
  intro n
  induction n with
  | zero => intro _ _; omega
  | succ n ih =>
    intro h1 h2
    rw [e_su, e_su]
    by_cases h : j = a + n
    · subst h
      rw [e_ve]
      have : e_su (va_up f (a + n) v) a n = e_su f a n := e_su_eq n (fun k hk => e_vn f v (by omega))
      rw [this, Int32.add_assoc, Int32.add_comm (f (a + n)), Int32.sub_add_cancel]
    · rw [ih h1 (by omega), e_vn f v (by omega)]
      rw [Int32.add_assoc, Int32.add_comm (v - f j), ← Int32.add_assoc]
theorem e_su_no {f : Nat → Int32} {a j n : Nat} {v : Int32} (h : j < a ∨ a + n ≤ j) : e_su (va_up f j v) a n = e_su f a n := e_su_eq n (fun k hk => e_vn f v (by omega))
theorem e_T {a b : Nat} (h : a < b) (hb : b < 2147483648) : Int32.ofNat a < Int32.ofNat b := by rw [e_lt (by omega) hb]; exact h
theorem e_F {a b : Nat} (h : b ≤ a) (ha : a < 2147483648) : ¬ Int32.ofNat a < Int32.ofNat b := by rw [e_lt ha (by omega)]; omega
