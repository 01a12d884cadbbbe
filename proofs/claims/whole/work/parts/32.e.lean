-- BEST: sets of those who have told, and what is taken from there on
theorem e_mxn_cg {F G : Nat → Nat} : ∀ n, (∀ v, v < n → F v = G v) → e_mxn F n = e_mxn G n := by
  intro n
  induction n with
  | zero => intro _; rfl
  | succ n ih =>
    intro h
    unfold e_mxn
    rw [ih (fun v hv => h v (by omega)), h n (by omega)]
theorem e_pc7 {s : Nat} (hs : s < 128) : e_pc s = e_bc s := by
  have h : ∀ k, 7 ≤ k → s.testBit k = false := fun k hk => e_tbz (show s < 2 ^ 7 from hs) hk
  unfold e_pc e_bc
  show e_cn (fun j => s.testBit j) 7 + (if s.testBit 7 then 1 else 0) + (if s.testBit 8 then 1 else 0) + (if s.testBit 9 then 1 else 0) = _
  rw [h 7 (by omega), h 8 (by omega), h 9 (by omega)]
  rfl
theorem e_or_t {s b j : Nat} : (s ||| 2 ^ b).testBit j = (s.testBit j || decide (j = b)) := by
  rw [Nat.testBit_or, Nat.testBit_two_pow]
  congr 1
  exact decide_eq_decide.mpr ⟨Eq.symm, Eq.symm⟩
theorem e_or_lt {s b n : Nat} (hs : s < 2 ^ n) (hb : b < n) : s ||| 2 ^ b < 2 ^ n := by
  apply Nat.lt_pow_two_of_testBit
  intro i hi
  rw [e_or_t, e_tbz hs hi, decide_eq_false (by omega)]
  rfl
theorem e_bc_or {s b : Nat} (hb : b < 7) (h : s.testBit b = false) : e_bc (s ||| 2 ^ b) = e_bc s + 1 := by
  have h1 : (s ||| 2 ^ b).testBit b = true := by rw [e_or_t, decide_eq_true rfl, Bool.or_true]
  have h2 := e_cn_cl (p := fun j => (s ||| 2 ^ b).testBit j) h1 7 hb
  unfold e_bc
  rw [← h2]
  congr 1
  refine e_cn_cg 7 (fun k _ => ?_)
  rw [e_or_t]
  by_cases hq : k = b
  · subst hq; rw [h, decide_eq_true rfl]; rfl
  · rw [decide_eq_false hq, Bool.or_false, Bool.not_false, Bool.and_true]
theorem e_or_gt {s b : Nat} (h : s.testBit b = false) : s < s ||| 2 ^ b := by
  have h1 : s ≤ s ||| 2 ^ b := Nat.left_le_or
  have h2 : ¬ s = s ||| 2 ^ b := by
    intro hq
    have h3 : s.testBit b = (s ||| 2 ^ b).testBit b := by rw [← hq]
    rw [e_or_t, decide_eq_true rfl, Bool.or_true, h] at h3
    exact absurd h3 (by decide)
  omega
/-- one of a set, and not of another -/
def e_fr1 (A s b : Nat) : Bool := A.testBit b && !s.testBit b
def e_vv (T : Nat → Nat → Nat) (A : Nat) : Nat → Nat → Nat
  | 0, _ => 0
  | k + 1, s => e_mxn (fun b => if e_fr1 A s b then T b s + e_vv T A k (s ||| 2 ^ b) else 0) 7
def e_Vs (T : Nat → Nat → Nat) (A s : Nat) : Nat := e_vv T A (7 - e_bc s) s
def e_Fs (T : Nat → Nat → Nat) (A s b : Nat) : Nat := if e_fr1 A s b then T b s + e_Vs T A (s ||| 2 ^ b) else 0
theorem e_Vs_eq (T : Nat → Nat → Nat) (A s : Nat) : e_Vs T A s = e_mxn (e_Fs T A s) 7 := by
  unfold e_Vs
  cases hk : 7 - e_bc s with
  | zero =>
    show 0 = _
    apply e_mxn_un
    · intro v hv
      unfold e_Fs
      rw [if_neg ?_]
      · exact Nat.le_refl _
      · intro h
        have h2 := (Bool.and_eq_true_iff.mp h).2
        cases hq : s.testBit v with
        | false =>
          have h3 := e_bc_or hv hq
          have h4 : e_bc (s ||| 2 ^ v) ≤ 7 := e_cn_le _ _
          omega
        | true => rw [hq] at h2; exact absurd h2 (by decide)
    · exact Or.inl rfl
  | succ k =>
    show e_mxn _ 7 = _
    refine e_mxn_cg 7 (fun b hb => ?_)
    unfold e_Fs e_Vs
    by_cases h : e_fr1 A s b = true
    · rw [if_pos h, if_pos h]
      have h2 := (Bool.and_eq_true_iff.mp h).2
      have hq : s.testBit b = false := by
        cases hq : s.testBit b with
        | false => rfl
        | true => rw [hq] at h2; exact absurd h2 (by decide)
      have h3 := e_bc_or hb hq
      rw [show 7 - e_bc (s ||| 2 ^ b) = k by omega]
    · rw [if_neg h, if_neg h]
theorem e_vv_le {T : Nat → Nat → Nat} {A : Nat} (hT : ∀ b s, T b s ≤ 99) : ∀ k s, e_vv T A k s ≤ 99 * k := by
  intro k
  induction k with
  | zero => intro s; exact Nat.le_refl _
  | succ k ih =>
    intro s
    show e_mxn _ 7 ≤ _
    rcases e_mxn_ex (F := fun b => if e_fr1 A s b then T b s + e_vv T A k (s ||| 2 ^ b) else 0) 7 with h | ⟨v, _, h⟩
    · omega
    · rw [← h]
      have h1 := hT v s
      have h2 := ih (s ||| 2 ^ v)
      split <;> omega
theorem e_Vs_le {T : Nat → Nat → Nat} {A : Nat} (hT : ∀ b s, T b s ≤ 99) (s : Nat) : e_Vs T A s ≤ 693 := by
  have := e_vv_le (A := A) hT (7 - e_bc s) s
  unfold e_Vs
  omega
theorem e_Fs_le {T : Nat → Nat → Nat} {A : Nat} (hT : ∀ b s, T b s ≤ 99) (s b : Nat) : e_Fs T A s b ≤ 792 := by
  unfold e_Fs
  have h1 := hT b s
  have h2 := e_Vs_le (A := A) hT (s ||| 2 ^ b)
  split <;> omega
theorem e_mF_le {T : Nat → Nat → Nat} {A : Nat} (hT : ∀ b s, T b s ≤ 99) (s k : Nat) : e_mxn (e_Fs T A s) k ≤ 792 := by
  rcases e_mxn_ex (F := e_Fs T A s) k with h | ⟨v, _, h⟩
  · omega
  · rw [← h]; exact e_Fs_le hT s v
/-- a set of those of whom p holds -/
def e_ts (p : Nat → Bool) : Nat → Nat
  | 0 => 0
  | n + 1 => if p n then e_ts p n ||| 2 ^ n else e_ts p n
theorem e_ts_t (p : Nat → Bool) : ∀ n j, (e_ts p n).testBit j = (decide (j < n) && p j) := by
  intro n
  induction n with
  | zero => intro j; rw [show decide (j < 0) = false from decide_eq_false (by omega), Bool.false_and]; exact Nat.zero_testBit j
  | succ n ih =>
    intro j
    unfold e_ts
    by_cases hp : p n = true
    · rw [if_pos hp, e_or_t, ih]
      by_cases hq : j = n
      · subst hq
        rw [hp, decide_eq_true rfl, Bool.or_true, show decide (j < j + 1) = true from decide_eq_true (by omega)]
        rfl
      · rw [decide_eq_false hq, Bool.or_false, show decide (j < n) = decide (j < n + 1) from decide_eq_decide.mpr (by omega)]
    · rw [if_neg hp, ih]
      by_cases hq : j = n
      · subst hq
        rw [Bool.eq_false_iff.mpr hp, Bool.and_false, Bool.and_false]
      · rw [show decide (j < n) = decide (j < n + 1) from decide_eq_decide.mpr (by omega)]
theorem e_ts_lt (p : Nat → Bool) (n : Nat) : e_ts p n < 2 ^ n := by
  apply Nat.lt_pow_two_of_testBit
  intro i hi
  rw [e_ts_t, decide_eq_false (by omega), Bool.false_and]
/-- who can tell -/
noncomputable def e_tp1 (f : Nat → Int32) (ne b : Nat) : Bool := !decide ((e_hv f b ne).1 = -1) && decide (e_bi (e_hu f b) = 0)
noncomputable def e_tp0 (f : Nat → Int32) (ne b : Nat) : Bool := !decide ((e_hv f b ne).1 = -1) && decide (e_why f b (e_hv f b ne).1.toNatClampNeg = 0)
noncomputable def e_A (f : Nat → Int32) (nb ne : Nat) : Nat := e_ts (e_tp0 f ne) nb
theorem e_A_eq {nb ne : Nat} {f : Nat → Int32} (hS : e_SW nb ne f) (hn : nb ≤ 7) (hm : ne ≤ 10) : e_A f nb ne = if e_bi (e_wt f) = 0 then (if f 48 = 0 then 0 else e_ts (e_tp1 f ne) nb) else 0 := by
  have hon : ∀ b, b < nb → ¬ (e_hv f b ne).1 = -1 → ¬ f (63 + 10 * b + (e_hv f b ne).1.toNatClampNeg) = 0 := by
    intro b hb h
    rcases e_hv_c (f := f) (b := b) ne hm with ⟨h1, _⟩ | ⟨k, hk, h1, h2, h3⟩
    · exact absurd h1 h
    · rw [h1, e_nt (by omega)]
      intro hz
      rw [hz] at h3
      exact absurd h3 (by decide)
  have key : ∀ p q : Nat → Bool, (∀ b, b < nb → p b = q b) → ∀ n, n ≤ nb → e_ts p n = e_ts q n := by
    intro p q h n
    induction n with
    | zero => intro _; rfl
    | succ n ih =>
      intro hn
      unfold e_ts
      rw [h n (by omega), ih (by omega)]
  have zero : (∀ b, b < nb → e_tp0 f ne b = false) → e_A f nb ne = 0 := by
    intro h
    unfold e_A
    apply Nat.eq_of_testBit_eq
    intro j
    rw [e_ts_t, Nat.zero_testBit]
    by_cases hj : j < nb
    · rw [h j hj, Bool.and_false]
    · rw [decide_eq_false hj, Bool.false_and]
  by_cases hw : e_bi (e_wt f) = 0
  · rw [if_pos hw]
    by_cases h48 : f 48 = 0
    · rw [if_pos h48]
      apply zero
      intro b hb
      unfold e_tp0
      cases hd : decide ((e_hv f b ne).1 = -1) with
      | true => rfl
      | false =>
        have hne := of_decide_eq_false hd
        rw [decide_eq_false]
        · rfl
        · unfold e_why
          rw [if_neg (hon b hb hne), if_pos hw, if_pos h48]
          decide
    · rw [if_neg h48]
      unfold e_A
      refine key _ _ (fun b hb => ?_) nb (Nat.le_refl _)
      unfold e_tp0 e_tp1
      cases hd : decide ((e_hv f b ne).1 = -1) with
      | true => rfl
      | false =>
        have hne := of_decide_eq_false hd
        congr 1
        apply decide_eq_decide.mpr
        unfold e_why
        rw [if_neg (hon b hb hne), if_pos hw, if_neg h48]
        by_cases hh : e_bi (e_hu f b) = 0
        · rw [if_pos hh]; exact ⟨fun _ => hh, fun _ => rfl⟩
        · rw [if_neg hh]; exact ⟨fun h => absurd h (by decide), fun h => absurd h hh⟩
  · rw [if_neg hw]
    apply zero
    intro b hb
    unfold e_tp0
    cases hd : decide ((e_hv f b ne).1 = -1) with
    | true => rfl
    | false =>
      have hne := of_decide_eq_false hd
      rw [decide_eq_false]
      · rfl
      · unfold e_why
        rw [if_neg (hon b hb hne), if_neg hw]
        decide
theorem e_A_t {nb ne b : Nat} {f : Nat → Int32} (hm : ne ≤ 10) (h : (e_A f nb ne).testBit b = true) : b < nb ∧ ∃ k, k < ne ∧ (e_hv f b ne).1 = Int32.ofNat k := by
  unfold e_A at h
  rw [e_ts_t] at h
  have h1 := Bool.and_eq_true_iff.mp h
  refine ⟨of_decide_eq_true h1.1, ?_⟩
  have h2 := (Bool.and_eq_true_iff.mp h1.2).1
  rcases e_hv_c (f := f) (b := b) ne hm with ⟨h3, _⟩ | ⟨k, hk, h3, _⟩
  · rw [h3] at h2; exact absurd h2 (by decide)
  · exact ⟨k, hk, h3⟩
/-- what the fire takes of one behind a set -/
def e_Tn (f : Nat → Int32) (ne b s : Nat) : Nat := if (f 48).toNatClampNeg ≤ e_pc s then 0 else min (e_on f b (e_hv f b ne).1.toNatClampNeg) ((f (6 + (f (27 + (e_hv f b ne).1.toNatClampNeg)).toNatClampNeg)).toNatClampNeg + ((f 48).toNatClampNeg - e_pc s) / 5)
def e_T2 (f : Nat → Int32) (ne b s : Nat) : Nat := min 99 (e_Tn f ne b s)
theorem e_Tn_c {nb ne b s : Nat} {f : Nat → Int32} (hH : e_HW nb ne f) (hS : e_SW nb ne f) (hA : (e_A f nb ne).testBit b = true) (hs : s < 128) : ∃ e k h t y, e < ne ∧ (e_hv f b ne).1 = Int32.ofNat e ∧ k < 4 ∧ f (27 + e) = Int32.ofNat k ∧ h ≤ 30 ∧ f 48 = Int32.ofNat h ∧ t ≤ 9 ∧ f (6 + k) = Int32.ofNat t ∧ y ≤ 99 ∧ f (63 + 10 * b + e) = Int32.ofNat y ∧ e_T2 f ne b s = if h ≤ e_pc s then 0 else min y (t + (h - e_pc s) / 5) := by
  have hn := hH.1.1
  have hm := hH.2.1.1
  obtain ⟨hb, e, he, ee⟩ := e_A_t hm hA
  obtain ⟨k, hk, ek⟩ := (hH.2.2.2.2.2 e he).2.1
  obtain ⟨h, hh, eh⟩ := hS.2.2.2.1
  obtain ⟨t, ht, et⟩ := hH.2.2.2.1 k hk
  obtain ⟨y, hy, ey⟩ := hS.1 b e (by omega) (by omega)
  refine ⟨e, k, h, t, y, he, ee, hk, ek, hh, eh, ht, et, hy, ey, ?_⟩
  unfold e_T2 e_Tn e_on
  rw [ee, e_nt (by omega), ek, e_nt (by omega), eh, e_nt (by omega), et, e_nt (by omega), ey, e_nt (by omega)]
  split <;> omega
theorem e_takenC {g : s_G} {nb ne b s : Nat} {f : Nat → Int32} (hC : e_C3 nb ne g f) (hH : e_HW nb ne f) (hT : e_T17 g f) (hS : e_SW nb ne f) (hA : (e_A f nb ne).testBit b = true) (hs : s < 128) (h125 : g.1 125 b = (e_hv f b ne).1) : fA_takenBy_122_3_17 (Int32.ofNat b) (Int32.ofNat s) g = some (Int32.ofNat (e_T2 f ne b s)) := by
  have hn := hH.1.1
  have hm := hH.2.1.1
  have hb := (e_A_t hm hA).1
  obtain ⟨e, k, h, t, y, he, ee, hk, ek, hh, eh, ht, et, hy, ey, eT⟩ := e_Tn_c hH hS hA hs
  have hpc := e_pc_le s
  unfold fA_takenBy_122_3_17
  rw [e_ix (by omega) (by omega), s_b1_s, e_bitCount (by omega), s_b1_s, h125, ee, if_neg (e_on1 (by omega)), hT.1.2.1, eh, e_onBoy_17 hT (by omega) (by omega), s_b1_s, e_ix (by omega) (by omega), s_b1_s, (hC.2.2.2 e he).2.1, ek, e_ix (by omega) (by omega), s_b1_s, hC.2.1 k hk, et, ey, eT]
  by_cases hq : h ≤ e_pc s
  · rw [if_neg (by rw [e_sub_p (by omega) (by omega)]; omega), if_pos hq]
    rfl
  · rw [if_pos (by rw [e_sub_p (by omega) (by omega)]; omega), if_neg hq, ← Int32.ofNat_sub _ _ (by omega), e_div5 (by omega), ← Int32.ofNat_add]
    by_cases h2 : t + (h - e_pc s) / 5 < y
    · rw [if_pos (e_T h2 (by omega)), Nat.min_eq_right (by omega)]
    · rw [if_neg (e_F (by omega) (by omega)), Nat.min_eq_left (by omega)]
theorem e_takenM {G : s_G} {nb ne b s : Nat} {f : Nat → Int32} (hH : e_HW nb ne f) (hS : e_SW nb ne f) (hf : G.1 132 = f) (hA : (e_A f nb ne).testBit b = true) (hs : s < 128) : fM_takenBy_130 (Int32.ofNat b) (Int32.ofNat s) G = some (Int32.ofNat (e_T2 f ne b s)) := by
  have hn := hH.1.1
  have hm := hH.2.1.1
  have hb := (e_A_t hm hA).1
  obtain ⟨e, k, h, t, y, he, ee, hk, ek, hh, eh, ht, et, hy, ey, eT⟩ := e_Tn_c hH hS hA hs
  have hpc := e_pc_le s
  unfold fM_takenBy_130 fM_takesOf_130
  rw [e_bits (by omega), s_b1_s, hf, eh, e_mostOf hm (by rw [hf]; exact hH.2.1.2) (by omega), s_b1_s, hf, ee, e_onOf (by omega) (by omega), s_b1_s, s_b1_s, hf, ey, show (27 : Int32) + Int32.ofNat e = Int32.ofNat (27 + e) by rw [Int32.ofNat_add]; rfl, e_ix (by omega) (by omega), s_b1_s, ek, show (6 : Int32) + Int32.ofNat k = Int32.ofNat (6 + k) by rw [Int32.ofNat_add]; rfl, e_ix (by omega) (by omega), s_b1_s, s_b1_s, et, e_least, s_b1_s, eT]
  by_cases hq : h ≤ e_pc s
  · rw [if_neg (by rw [e_sub_p (by omega) (by omega)]; omega), if_pos hq]
    rfl
  · rw [if_pos (by rw [e_sub_p (by omega) (by omega)]; omega), if_neg hq, ← Int32.ofNat_sub _ _ (by omega), e_div5 (by omega), ← Int32.ofNat_add]
    by_cases h2 : y < t + (h - e_pc s) / 5
    · rw [if_pos (e_T h2 (by omega)), Nat.min_eq_left (by omega)]
    · rw [if_neg (e_F (by omega) (by omega)), Nat.min_eq_right (by omega)]
theorem e_fr1_g {A s b : Nat} (hb : b < 32) : e_g (Int32.ofNat A &&& (Int32.ofNat s ^^^ -1)) b = e_fr1 A s b := by
  rw [e_g_and, e_g_xm _ hb, e_g_of _ hb, e_g_of _ hb]
  rfl
theorem e_free {A s b : Nat} (hb : b < 31) : ((Int32.ofNat A &&& (Int32.ofNat s ^^^ -1)) &&& ((1 : Int32) <<< (Int32.ofNat b &&& 31)) = 0) ↔ e_fr1 A s b = false := by
  constructor
  · intro h
    have h1 : e_g ((Int32.ofNat A &&& (Int32.ofNat s ^^^ -1)) &&& ((1 : Int32) <<< (Int32.ofNat b &&& 31))) b = e_g 0 b := by rw [h]
    have h0 : ∀ j, j < 32 → e_g 0 j = false := by decide
    rw [e_g_and, e_fr1_g (by omega), e_g_shl hb (by omega), decide_eq_true rfl, Bool.and_true, h0 b (by omega)] at h1
    exact h1
  · intro h
    apply e_g_ext
    intro j hj
    have h0 : ∀ j, j < 32 → e_g 0 j = false := by decide
    rw [e_g_and, e_fr1_g hj, e_g_shl hb hj, h0 j hj]
    by_cases hq : j = b
    · subst hq; rw [h]; rfl
    · rw [decide_eq_false hq, Bool.and_false]
theorem e_fr1_s {A s b : Nat} (h : e_fr1 A s b = true) : A.testBit b = true ∧ s.testBit b = false := by
  have h1 := Bool.and_eq_true_iff.mp h
  refine ⟨h1.1, ?_⟩
  cases hq : s.testBit b with
  | false => rfl
  | true => rw [hq] at h1; exact absurd h1.2 (by decide)
/-- a subset -/
def e_sub (A s : Nat) : Prop := ∀ j, s.testBit j = true → A.testBit j = true
theorem e_sub_or {A s b : Nat} (h : e_sub A s) (hb : A.testBit b = true) : e_sub A (s ||| 2 ^ b) := by
  intro j hj
  rw [e_or_t] at hj
  by_cases hq : j = b
  · subst hq; exact hb
  · rw [decide_eq_false hq, Bool.or_false] at hj; exact h j hj
theorem e_subn2 {A s : Nat} (hs : s < 128) : (Int32.ofNat s &&& (Int32.ofNat A ^^^ -1) = 0) ↔ e_sub A s := by
  have h0 : ∀ j, j < 32 → e_g 0 j = false := by decide
  constructor
  · intro h j hj
    have hj7 : j < 7 := Classical.byContradiction (fun hc => by rw [e_tbz (show s < 2 ^ 7 from hs) (by omega)] at hj; exact absurd hj (by decide))
    have h1 : e_g (Int32.ofNat s &&& (Int32.ofNat A ^^^ -1)) j = e_g 0 j := by rw [h]
    rw [e_fr1_g (by omega), h0 j (by omega)] at h1
    cases hq : A.testBit j with
    | true => rfl
    | false =>
      unfold e_fr1 at h1
      rw [hj, hq] at h1
      exact absurd h1 (by decide)
  · intro h
    apply e_g_ext
    intro j hj
    rw [e_fr1_g hj, h0 j hj]
    unfold e_fr1
    cases hq : s.testBit j with
    | false => rfl
    | true => rw [h j hq]; rfl
-- the class's table
theorem e_or128 {s b : Nat} (hs : s < 128) (hb : b < 7) : s ||| 2 ^ b < 128 := e_or_lt (n := 7) hs hb
theorem e_bestC1 {g : s_G} {nb ne s : Nat} {f : Nat → Int32} (hC : e_C3 nb ne g f) (hH : e_HW nb ne f) (hT : e_T17 g f) (hS : e_SW nb ne f) (hs : s < 128) (h125 : ∀ b, b < nb → g.1 125 b = (e_hv f b ne).1) (hV : ∀ r, s < r → r < 128 → e_sub (e_A f nb ne) r → g.1 126 r = Int32.ofNat (e_Vs (e_T2 f ne) (e_A f nb ne) r)) : ∃ g', s_lp (fun (x : Int32 × s_G) => fA_findBest_122_3_17_27 (Int32.ofNat (e_A f nb ne)) (Int32.ofNat s) x.1 x.2) (0, s_si g 126 s 0) = some (.inl (Int32.ofNat s + -1, g')) ∧ (∀ r, s ≤ r → r < 128 → e_sub (e_A f nb ne) r → g'.1 126 r = Int32.ofNat (e_Vs (e_T2 f ne) (e_A f nb ne) r)) ∧ e_fx 126 126 g g' := by
  have hn := hH.1.1
  have hm := hH.2.1.1
  have hT99 : ∀ b s, e_T2 f ne b s ≤ 99 := fun b s => Nat.min_le_left _ _
  generalize hA0 : e_A f nb ne = A at *
  have hA128 : A < 128 := by
    rw [← hA0]
    exact Nat.lt_of_lt_of_le (e_ts_lt _ nb) (show 2 ^ nb ≤ 2 ^ 7 from Nat.pow_le_pow_right (by omega) hn)
  obtain ⟨w, ⟨h1, h2, h3, h4⟩, h5⟩ := e_lpN (B := fun (x : Int32 × s_G) => fA_findBest_122_3_17_27 (Int32.ofNat A) (Int32.ofNat s) x.1 x.2) (fun k (x : Int32 × s_G) => x.1 = Int32.ofNat k ∧ (∀ r, ¬ r = s → x.2.1 126 r = g.1 126 r) ∧ (e_sub A s → x.2.1 126 s = Int32.ofNat (e_mxn (e_Fs (e_T2 f ne) A s) k)) ∧ e_fx 126 126 g x.2) nb (x := (0, s_si g 126 s 0)) (by
    intro k x hk hI
    obtain ⟨x1, x2⟩ := x
    obtain ⟨h1, h2, h3, h4⟩ := hI
    dsimp only at h1 h2 h3 h4
    subst h1
    have e0 : x2.1 3 0 = Int32.ofNat nb := by rw [h4.1 3 (by omega), hC.1.1, hH.1.2]
    unfold fA_findBest_122_3_17_27
    dsimp only
    rw [e0, if_pos (e_T hk (by omega)), e_inc]
    have hFk : e_mxn (e_Fs (e_T2 f ne) A s) (k + 1) = max (e_mxn (e_Fs (e_T2 f ne) A s) k) (e_Fs (e_T2 f ne) A s k) := rfl
    by_cases hfr : e_fr1 A s k = true
    · obtain ⟨q1, q2⟩ := e_fr1_s hfr
      have C2 : e_C3 nb ne x2 f := e_C3_cg hn hm hC (fun a ha => h4.1 a (by omega)) (fun _ _ => rfl)
      have T2 : e_T17 x2 f := e_TA_cg (a := 17) hT (fun a _ _ => h4.1 a (by omega)) (fun _ _ _ => rfl)
      have hlt := e_or128 hs (show k < 7 by omega)
      have hgt := e_or_gt q2
      rw [if_neg (fun h => by rw [(e_free (by omega)).mp h] at hfr; exact absurd hfr (by decide)), e_ix (by omega) (by omega), s_b1_s, e_takenC C2 hH T2 hS (by rw [hA0]; exact q1) hs (by rw [h4.1 125 (by omega)]; exact h125 k hk), s_b1_s, e_or1 (by omega), e_ix (by omega) (by omega), s_b1_s]
      refine ⟨_, rfl, rfl, ?_, ?_, h4.tr (e_fx.si (by omega) (by omega))⟩
      · intro r hr
        dsimp only
        rw [e_sS, e_vn _ _ hr]; exact h2 r hr
      · intro hsub
        dsimp only
        have hval : x2.1 126 (s ||| 2 ^ k) = Int32.ofNat (e_Vs (e_T2 f ne) A (s ||| 2 ^ k)) := by
          rw [h2 _ (by omega)]
          exact hV _ hgt hlt (e_sub_or hsub q1)
        have b1 := hT99 k s
        have b2 := e_Vs_le (A := A) hT99 (s ||| 2 ^ k)
        have b3 := e_mF_le (A := A) hT99 s k
        have hF : e_Fs (e_T2 f ne) A s k = e_T2 f ne k s + e_Vs (e_T2 f ne) A (s ||| 2 ^ k) := by
          unfold e_Fs
          rw [if_pos hfr]
        rw [e_sS, e_ve, h3 hsub, hval, ← Int32.ofNat_add, hFk, hF]
        by_cases hq : e_mxn (e_Fs (e_T2 f ne) A s) k < e_T2 f ne k s + e_Vs (e_T2 f ne) A (s ||| 2 ^ k)
        · rw [if_pos (e_T hq (by omega)), Nat.max_eq_right (by omega)]
        · rw [if_neg (e_F (by omega) (by omega)), Nat.max_eq_left (by omega)]
    · rw [if_pos ((e_free (by omega)).mpr (Bool.eq_false_iff.mpr hfr))]
      refine ⟨_, rfl, rfl, h2, fun hsub => ?_, h4⟩
      dsimp only
      rw [h3 hsub, hFk, show e_Fs (e_T2 f ne) A s k = 0 by unfold e_Fs; rw [if_neg hfr], Nat.max_eq_left (by omega)]) ⟨rfl, fun r hr => by dsimp only; rw [e_sS, e_vn _ _ hr], fun _ => by dsimp only; rw [e_sS, e_ve]; rfl, e_fx.si (by omega) (by omega)⟩
  obtain ⟨x1, x2⟩ := w
  dsimp only at h1 h2 h3 h4
  subst h1
  refine ⟨x2, ?_, ?_, h4⟩
  · rw [h5]
    apply s_lp_out
    dsimp only
    unfold fA_findBest_122_3_17_27
    rw [h4.1 3 (by omega), hC.1.1, hH.1.2, if_neg (e_F (Nat.le_refl nb) (by omega))]
    rfl
  · intro r h6 h7 h8
    by_cases hq : r = s
    · subst hq
      rw [h3 h8, e_Vs_eq]
      congr 1
      apply e_mxn_un
      · intro v hv
        by_cases hv2 : v < nb
        · exact e_mxn_ge nb v hv2
        · unfold e_Fs
          rw [if_neg]
          · omega
          · intro h
            have := (Bool.and_eq_true_iff.mp h).1
            rw [← hA0] at this
            exact hv2 (e_A_t hm this).1
      · rcases e_mxn_ex (F := e_Fs (e_T2 f ne) A r) nb with h | ⟨v, hv, h⟩
        · exact Or.inl h
        · exact Or.inr ⟨v, by omega, h⟩
    · rw [h2 r hq]
      exact hV r (by omega) h7 h8
/-- the reference's -/
theorem e_moreBy {G : s_G} {nb ne b s : Nat} {f : Nat → Int32} {v : Nat} (hH : e_HW nb ne f) (hS : e_SW nb ne f) (hf : G.1 132 = f) (hA : (e_A f nb ne).testBit b = true) (hs : s < 128) (hv : G.1 143 (s ||| 2 ^ b) = Int32.ofNat v) : fM_moreBy_130 (Int32.ofNat b) (Int32.ofNat s) G = some (Int32.ofNat (e_T2 f ne b s + v)) := by
  have hn := hH.1.1
  have hm := hH.2.1.1
  have hb := (e_A_t hm hA).1
  have hlt := e_or128 hs (show b < 7 by omega)
  unfold fM_moreBy_130
  rw [e_takenM hH hS hf hA hs, s_b1_s, e_or1 (by omega), e_ix (by omega) (by omega), s_b1_s, hv, Int32.ofNat_add]
theorem e_bestM1 {G : s_G} {nb ne s : Nat} {f : Nat → Int32} (hH : e_HW nb ne f) (hS : e_SW nb ne f) (hf : G.1 132 = f) (hs : s < 128) (hsub : e_sub (e_A f nb ne) s) (hV : ∀ r, s < r → r < 128 → e_sub (e_A f nb ne) r → G.1 143 r = Int32.ofNat (e_Vs (e_T2 f ne) (e_A f nb ne) r)) : ∃ G', s_lp (fun (x : Int32 × s_G) => fM_layMore_130_26 (Int32.ofNat (e_A f nb ne)) (Int32.ofNat s) x.1 x.2) (0, s_si G 143 s 0) = some (.inl (Int32.ofNat s + -1, G')) ∧ (∀ r, s ≤ r → r < 128 → e_sub (e_A f nb ne) r → G'.1 143 r = Int32.ofNat (e_Vs (e_T2 f ne) (e_A f nb ne) r)) ∧ e_fx 143 143 G G' := by
  have hn := hH.1.1
  have hm := hH.2.1.1
  have hT99 : ∀ b s, e_T2 f ne b s ≤ 99 := fun b s => Nat.min_le_left _ _
  generalize hA0 : e_A f nb ne = A at *
  obtain ⟨w, ⟨h1, h2, h3, h4⟩, h5⟩ := e_lpN (B := fun (x : Int32 × s_G) => fM_layMore_130_26 (Int32.ofNat A) (Int32.ofNat s) x.1 x.2) (fun k (x : Int32 × s_G) => x.1 = Int32.ofNat k ∧ (∀ r, ¬ r = s → x.2.1 143 r = G.1 143 r) ∧ x.2.1 143 s = Int32.ofNat (e_mxn (e_Fs (e_T2 f ne) A s) k) ∧ e_fx 143 143 G x.2) 7 (x := (0, s_si G 143 s 0)) (by
    intro k x hk hI
    obtain ⟨x1, x2⟩ := x
    obtain ⟨h1, h2, h3, h4⟩ := hI
    dsimp only at h1 h2 h3 h4
    subst h1
    have e1 : x2.1 132 = f := by rw [h4.1 132 (by omega), hf]
    unfold fM_layMore_130_26
    dsimp only
    rw [if_pos (show Int32.ofNat k < 7 from e_T (b := 7) hk (by omega)), e_hasS (by omega), s_b1_s, e_fr1_g (by omega), e_inc]
    have hFk : e_mxn (e_Fs (e_T2 f ne) A s) (k + 1) = max (e_mxn (e_Fs (e_T2 f ne) A s) k) (e_Fs (e_T2 f ne) A s k) := rfl
    by_cases hfr : e_fr1 A s k = true
    · obtain ⟨q1, q2⟩ := e_fr1_s hfr
      have hlt := e_or128 hs (show k < 7 by omega)
      have hgt := e_or_gt q2
      have hval : x2.1 143 (s ||| 2 ^ k) = Int32.ofNat (e_Vs (e_T2 f ne) A (s ||| 2 ^ k)) := by
        rw [h2 _ (by omega)]
        exact hV _ hgt hlt (e_sub_or hsub q1)
      have b1 := hT99 k s
      have b2 := e_Vs_le (A := A) hT99 (s ||| 2 ^ k)
      have b3 := e_mF_le (A := A) hT99 s k
      have hF : e_Fs (e_T2 f ne) A s k = e_T2 f ne k s + e_Vs (e_T2 f ne) A (s ||| 2 ^ k) := by
        unfold e_Fs
        rw [if_pos hfr]
      rw [if_neg (by rw [e_bi_t hfr]; decide), e_moreBy hH hS e1 (by rw [hA0]; exact q1) hs hval, s_b1_s, e_ix (by omega) (by omega), s_b1_s, s_b1_s, h3]
      by_cases hq : e_mxn (e_Fs (e_T2 f ne) A s) k < e_T2 f ne k s + e_Vs (e_T2 f ne) A (s ||| 2 ^ k)
      · rw [if_pos (e_T hq (by omega))]
        refine ⟨_, rfl, rfl, ?_, ?_, h4.tr (e_fx.si (by omega) (by omega))⟩
        · intro r hr
          dsimp only
          rw [e_sS, e_vn _ _ hr]; exact h2 r hr
        · dsimp only
          rw [e_sS, e_ve, hFk, hF, Nat.max_eq_right (by omega)]
      · rw [if_neg (e_F (by omega) (by omega))]
        refine ⟨_, rfl, rfl, h2, ?_, h4⟩
        dsimp only
        rw [h3, hFk, hF, Nat.max_eq_left (by omega)]
    · rw [if_pos (e_bi_f hfr)]
      refine ⟨_, rfl, rfl, h2, ?_, h4⟩
      dsimp only
      rw [h3, hFk, show e_Fs (e_T2 f ne) A s k = 0 by unfold e_Fs; rw [if_neg hfr], Nat.max_eq_left (by omega)]) ⟨rfl, fun r hr => by dsimp only; rw [e_sS, e_vn _ _ hr], by dsimp only; rw [e_sS, e_ve]; rfl, e_fx.si (by omega) (by omega)⟩
  obtain ⟨x1, x2⟩ := w
  dsimp only at h1 h2 h3 h4
  subst h1
  refine ⟨x2, ?_, ?_, h4⟩
  · rw [h5]
    exact s_lp_out rfl
  · intro r h6 h7 h8
    by_cases hq : r = s
    · subst hq
      rw [h3, e_Vs_eq]
    · rw [h2 r hq]
      exact hV r (by omega) h7 h8
