-- SETS AS BITS
def e_g (a : Int32) (j : Nat) : Bool := a.toBitVec.getLsbD j
theorem e_g_ext {a b : Int32} (h : ∀ j, j < 32 → e_g a j = e_g b j) : a = b := by
  apply Int32.toBitVec_inj.mp
  apply BitVec.eq_of_getLsbD_eq
  exact h
theorem e_g_and (a b : Int32) (j : Nat) : e_g (a &&& b) j = (e_g a j && e_g b j) := by
  unfold e_g
  rw [Int32.toBitVec_and, BitVec.getLsbD_and]
theorem e_g_or (a b : Int32) (j : Nat) : e_g (a ||| b) j = (e_g a j || e_g b j) := by
  unfold e_g
  rw [Int32.toBitVec_or, BitVec.getLsbD_or]
theorem e_g_of {j : Nat} (s : Nat) (hj : j < 32) : e_g (Int32.ofNat s) j = s.testBit j := by
  unfold e_g
  rw [Int32.toBitVec_ofNat', BitVec.getLsbD_ofNat, decide_eq_true hj, Bool.true_and]
theorem e_g_1 : ∀ j, j < 32 → e_g 1 j = decide (j = 0) := by decide
theorem e_g_m1 : ∀ j, j < 32 → e_g (-1) j = true := by decide
theorem e_shl : ∀ k, k < 31 → (1 : Int32) <<< (Int32.ofNat k &&& 31) = Int32.ofNat (2 ^ k) := by decide
theorem e_g_shl {j k : Nat} (hk : k < 31) (hj : j < 32) : e_g ((1 : Int32) <<< (Int32.ofNat k &&& 31)) j = decide (j = k) := by
  rw [e_shl k hk, e_g_of _ hj, Nat.testBit_two_pow]
  congr 1
  exact propext ⟨Eq.symm, Eq.symm⟩
theorem e_g_xm (a : Int32) {j : Nat} (hj : j < 32) : e_g (a ^^^ -1) j = !e_g a j := by
  have h : e_g (a ^^^ -1) j = (e_g a j ^^ e_g (-1) j) := by
    unfold e_g
    rw [Int32.toBitVec_xor, BitVec.getLsbD_xor]
  rw [h, e_g_m1 j hj, Bool.xor_true]
theorem e_smod : ∀ k, k < 32 → (Int32.ofNat k &&& 31).toBitVec.smod 32 = BitVec.ofNat 32 k := by decide
theorem e_g_shr (a : Int32) {k : Nat} (hk : k < 32) : e_g (a >>> (Int32.ofNat k &&& 31)) 0 = e_g a k := by
  unfold e_g
  have h : (a >>> (Int32.ofNat k &&& 31)).toBitVec = a.toBitVec.sshiftRight ((Int32.ofNat k &&& 31).toBitVec.smod 32).toNat := rfl
  rw [h, e_smod k hk, BitVec.toNat_ofNat, Nat.mod_eq_of_lt (by omega), BitVec.getLsbD_sshiftRight, if_pos (by omega), decide_eq_false (by omega), Bool.not_false, Bool.true_and, Nat.add_zero]
theorem e_and1 (x : Int32) : (x &&& 1 = 1) ↔ e_g x 0 = true := by
  constructor
  · intro h
    have : e_g (x &&& 1) 0 = e_g 1 0 := by rw [h]
    rw [e_g_and, e_g_1 0 (by omega), decide_eq_true rfl, Bool.and_true] at this
    exact this
  · intro h
    apply e_g_ext
    intro j hj
    rw [e_g_and, e_g_1 j hj]
    by_cases hq : j = 0
    · subst hq; rw [h]; rfl
    · rw [decide_eq_false hq, Bool.and_false]
/-- is one in a set -/
theorem e_bit (a : Int32) {k : Nat} (hk : k < 32) : (((a >>> (Int32.ofNat k &&& 31)) &&& 1) = 1) = (e_g a k = true) := by
  rw [propext (e_and1 _), e_g_shr a hk]
theorem e_hasS {a : Int32} {k : Nat} {g : s_G} (hk : k < 32) : fM_has_s a (Int32.ofNat k) g = some (e_bi (e_g a k = true)) := by
  unfold fM_has_s
  simp only [e_bit a hk]
  rw [e_bi_if]
/-- a set with one more, or less -/
theorem e_or1 {s k : Nat} (hk : k < 31) : Int32.ofNat s ||| ((1 : Int32) <<< (Int32.ofNat k &&& 31)) = Int32.ofNat (s ||| 2 ^ k) := by
  rw [e_shl k hk]
  apply e_g_ext
  intro j hj
  rw [e_g_or, e_g_of _ hj, e_g_of _ hj, e_g_of _ hj, Nat.testBit_or]
def e_cl (s k : Nat) : Nat := s &&& (s ^^^ 2 ^ k)
theorem e_cl_t {s k j : Nat} : (e_cl s k).testBit j = (s.testBit j && !decide (j = k)) := by
  unfold e_cl
  rw [Nat.testBit_and, Nat.testBit_xor, Nat.testBit_two_pow]
  by_cases hj : j = k
  · subst hj
    rw [decide_eq_true rfl]
    cases s.testBit j <;> rfl
  · rw [decide_eq_false (Ne.symm hj), decide_eq_false hj, Bool.xor_false, Bool.and_self, Bool.not_false, Bool.and_true]
theorem e_cl_le (s k : Nat) : e_cl s k ≤ s := Nat.and_le_left
theorem e_cl_lt {s k : Nat} (h : s.testBit k = true) : e_cl s k < s := by
  have h1 := e_cl_le s k
  have h2 : ¬ e_cl s k = s := by
    intro hq
    have h3 : (e_cl s k).testBit k = s.testBit k := by rw [hq]
    rw [e_cl_t, h, decide_eq_true rfl] at h3
    exact absurd h3 (by decide)
  omega
theorem e_and1n {s k : Nat} (hk : k < 31) : Int32.ofNat s &&& (((1 : Int32) <<< (Int32.ofNat k &&& 31)) ^^^ -1) = Int32.ofNat (e_cl s k) := by
  apply e_g_ext
  intro j hj
  rw [e_g_and, e_g_of _ hj, e_g_xm _ hj, e_g_shl hk hj, e_g_of _ hj, e_cl_t]
/-- all of n -/
theorem e_all : ∀ n, n ≤ 10 → ((1 : Int32) <<< (Int32.ofNat n &&& 31)) - 1 = Int32.ofNat (2 ^ n - 1) := by decide
theorem e_by_and : ∀ u, u < 256 → (Int32.ofNat u).toInt8.toInt32 &&& 255 = Int32.ofNat u := by
  intro u hu
  apply e_g_ext
  intro j hj
  have h1 : e_g (Int32.ofNat u).toInt8.toInt32 j = if j < 8 then u.testBit j else u.testBit 7 := by
    unfold e_g
    rw [Int8.toBitVec_toInt32, Int32.toBitVec_toInt8, BitVec.getLsbD_signExtend, decide_eq_true hj, Bool.true_and]
    by_cases h8 : j < 8
    · rw [if_pos h8, if_pos h8, BitVec.getLsbD_signExtend, decide_eq_true h8, Bool.true_and, if_pos (by omega)]
      exact e_g_of u hj
    · rw [if_neg h8, if_neg h8, BitVec.msb_eq_getLsbD_last, BitVec.getLsbD_signExtend, decide_eq_true (by omega), Bool.true_and, if_pos (by omega)]
      exact e_g_of u (by omega)
  have h2 : ∀ j, j < 32 → e_g 255 j = decide (j < 8) := by decide
  rw [e_g_and, h1, h2 j hj, e_g_of _ hj]
  by_cases h8 : j < 8
  · rw [if_pos h8, decide_eq_true h8, Bool.and_true]
  · rw [decide_eq_false h8, Bool.and_false]
    symm
    apply Nat.testBit_lt_two_pow
    calc u < 2 ^ 8 := hu
      _ ≤ 2 ^ j := Nat.pow_le_pow_right (by omega) (by omega)
-- counting
def e_cn (p : Nat → Bool) : Nat → Nat
  | 0 => 0
  | n + 1 => e_cn p n + (if p n then 1 else 0)
theorem e_cn_le (p : Nat → Bool) : ∀ n, e_cn p n ≤ n := by
  intro n
  induction n with
  | zero => exact Nat.le_refl _
  | succ n ih => unfold e_cn; split <;> omega
theorem e_cn_ex {p : Nat → Bool} : ∀ n, 0 < e_cn p n → ∃ k, k < n ∧ p k = true := by
  intro n
  induction n with
  | zero => intro h; exact absurd h (by unfold e_cn; omega)
  | succ n ih =>
    intro h
    by_cases hp : p n = true
    · exact ⟨n, by omega, hp⟩
    · unfold e_cn at h
      rw [if_neg hp] at h
      obtain ⟨k, h1, h2⟩ := ih (by omega)
      exact ⟨k, by omega, h2⟩
theorem e_cn_cg {p q : Nat → Bool} : ∀ n, (∀ k, k < n → p k = q k) → e_cn p n = e_cn q n := by
  intro n
  induction n with
  | zero => intro _; rfl
  | succ n ih =>
    intro h
    unfold e_cn
    rw [ih (fun k hk => h k (by omega)), h n (by omega)]
def e_mxn (F : Nat → Nat) : Nat → Nat
  | 0 => 0
  | n + 1 => max (e_mxn F n) (F n)
theorem e_mxn_ge {F : Nat → Nat} : ∀ n v, v < n → F v ≤ e_mxn F n := by
  intro n
  induction n with
  | zero => intro v h; omega
  | succ n ih =>
    intro v h
    unfold e_mxn
    by_cases hq : v = n
    · subst hq; omega
    · have := ih v (by omega); omega
theorem e_mxn_ex {F : Nat → Nat} : ∀ n, e_mxn F n = 0 ∨ ∃ v, v < n ∧ F v = e_mxn F n := by
  intro n
  induction n with
  | zero => exact Or.inl rfl
  | succ n ih =>
    unfold e_mxn
    by_cases hq : e_mxn F n ≤ F n
    · rw [Nat.max_eq_right hq]; exact Or.inr ⟨n, by omega, rfl⟩
    · rw [Nat.max_eq_left (by omega)]
      rcases ih with h | ⟨v, h1, h2⟩
      · exact Or.inl h
      · exact Or.inr ⟨v, by omega, h2⟩
theorem e_mxn_un {F : Nat → Nat} {n M : Nat} (h1 : ∀ v, v < n → F v ≤ M) (h2 : M = 0 ∨ ∃ v, v < n ∧ F v = M) : M = e_mxn F n := by
  have h3 : M ≤ e_mxn F n := by
    rcases h2 with h | ⟨v, h, h'⟩
    · omega
    · rw [← h']; exact e_mxn_ge n v h
  have h4 : e_mxn F n ≤ M := by
    rcases e_mxn_ex (F := F) n with h | ⟨v, h, h'⟩
    · omega
    · rw [← h']; exact h1 v h
  omega
