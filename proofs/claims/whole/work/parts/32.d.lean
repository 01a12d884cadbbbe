-- HOW MANY BITS
def e_bcF (x0 : Int32) : Int32 :=
  let v1 := x0 - (((x0.toUInt32 >>> (Int32.toUInt32 1 &&& Int32.toUInt32 31)).toInt32) &&& 1431655765)
  let v2 := (v1 &&& 858993459) + (((v1.toUInt32 >>> (Int32.toUInt32 2 &&& Int32.toUInt32 31)).toInt32) &&& 858993459)
  let v3 := (v2 + ((v2.toUInt32 >>> (Int32.toUInt32 4 &&& Int32.toUInt32 31)).toInt32)) &&& 252645135
  let v4 := v3 + ((v3.toUInt32 >>> (Int32.toUInt32 8 &&& Int32.toUInt32 31)).toInt32)
  let v5 := v4 + ((v4.toUInt32 >>> (Int32.toUInt32 16 &&& Int32.toUInt32 31)).toInt32)
  v5 &&& 63
def e_pc (s : Nat) : Nat := e_cn (fun j => s.testBit j) 10
theorem e_bcF_ok : ∀ s, s < 1024 → e_bcF (Int32.ofNat s) = Int32.ofNat (e_pc s) := by decide +kernel
theorem e_pc_1 : ∀ s, s < 1024 → ¬ s = 0 → e_pc (s &&& (s - 1)) + 1 = e_pc s := by decide +kernel
theorem e_bitCount {s : Nat} {g : s_G} (hs : s < 1024) : fJ_bitCount_s (Int32.ofNat s) g = some (Int32.ofNat (e_pc s)) := by
  rw [← e_bcF_ok s hs]
  rfl
theorem e_pc_le (s : Nat) : e_pc s ≤ 10 := e_cn_le _ _
theorem e_andn {s t : Nat} : Int32.ofNat s &&& Int32.ofNat t = Int32.ofNat (s &&& t) := by
  apply e_g_ext
  intro j hj
  rw [e_g_and, e_g_of _ hj, e_g_of _ hj, e_g_of _ hj, Nat.testBit_and]
theorem e_bits_lp {g : s_G} : ∀ m s c, s ≤ m → s < 1024 → s_lp (fun (x : Int32 × Int32) => fM_bits_s_4 x.1 x.2 g) (Int32.ofNat c, Int32.ofNat s) = some (Int32.ofNat (c + e_pc s)) := by
  intro m
  induction m with
  | zero =>
    intro s c h1 h2
    have h1' : s ≤ 0 := h1
    have h0 : s = 0 := by omega
    subst h0
    apply s_lp_out
    dsimp only
    unfold fM_bits_s_4
    rw [if_pos (show Int32.ofNat 0 = 0 from rfl)]
    rfl
  | succ m ih =>
    intro s c h1 h2
    by_cases h0 : s = 0
    · subst h0
      exact ih 0 c (by omega) (by omega)
    · have hle : s &&& (s - 1) ≤ s - 1 := Nat.and_le_right
      have e1 := e_pc_1 s h2 h0
      rw [s_lp_in (y := (Int32.ofNat (c + 1), Int32.ofNat (s &&& (s - 1)))), ih _ _ (by omega) (by omega)]
      · congr 2
        omega
      · dsimp only
        unfold fM_bits_s_4
        rw [if_neg (show ¬ Int32.ofNat s = 0 from fun h => h0 (e_in (b := 0) (by omega) (by omega) h)), e_inc, e_dec (by omega), e_andn]
theorem e_bits {g : s_G} {s : Nat} (hs : s < 1024) : fM_bits_s (Int32.ofNat s) g = some (Int32.ofNat (e_pc s)) := by
  unfold fM_bits_s
  rw [show ((0 : Int32), Int32.ofNat s) = (Int32.ofNat 0, Int32.ofNat s) from rfl, e_bits_lp s s 0 (Nat.le_refl _) hs, Nat.zero_add]
-- SAYS
def e_on (f : Nat → Int32) (b e : Nat) : Nat := (f (63 + 10 * b + e)).toNatClampNeg
theorem e_on_c {nb ne b e : Nat} {f : Nat → Int32} (hS : e_SW nb ne f) (hb : b < 7) (he : e < 10) : f (63 + 10 * b + e) = Int32.ofNat (e_on f b e) ∧ e_on f b e ≤ 99 := by
  obtain ⟨k, hk, ek⟩ := hS.1 b e hb he
  unfold e_on
  rw [ek, e_nt (by omega)]
  exact ⟨rfl, hk⟩
theorem e_on_z {nb ne b e : Nat} {f : Nat → Int32} (hS : e_SW nb ne f) (hb : b < 7) (he : e < 10) (h : ne ≤ e) : e_on f b e = 0 := by
  unfold e_on
  rw [hS.2.1 b e hb he (Or.inr h)]
  rfl
def e_wn (f : Nat → Int32) (b s : Nat) : Nat → Nat
  | 0 => 0
  | k + 1 => e_wn f b s k + (if s.testBit k then e_on f b k else 0)
def e_as (f : Nat → Int32) (b s j : Nat) : Bool := !s.testBit j || decide (0 < e_on f b j)
/-- that can be said -/
def e_V (f : Nat → Int32) (b n s : Nat) : Prop := e_an (e_as f b s) 10 = true ∧ e_wn f b s 10 = n
theorem e_tbz {s n k : Nat} (hs : s < 2 ^ n) (hk : n ≤ k) : s.testBit k = false := by
  apply Nat.testBit_lt_two_pow
  calc s < 2 ^ n := hs
    _ ≤ 2 ^ k := Nat.pow_le_pow_right (by omega) hk
theorem e_wn_z {f : Nat → Int32} {b s ne : Nat} (hs : s < 2 ^ ne) : ∀ k, ne ≤ k → e_wn f b s k = e_wn f b s ne := by
  intro k
  induction k with
  | zero => intro h; rw [show ne = 0 by omega]
  | succ k ih =>
    intro h
    by_cases hq : ne = k + 1
    · rw [hq]
    · show e_wn f b s k + _ = _
      rw [e_tbz hs (show ne ≤ k by omega), if_neg (by decide), Nat.add_zero]
      exact ih (by omega)
theorem e_wn_le {nb ne b s : Nat} {f : Nat → Int32} (hS : e_SW nb ne f) (hb : b < 7) : ∀ k, k ≤ 10 → e_wn f b s k ≤ 99 * k := by
  intro k
  induction k with
  | zero => intro _; exact Nat.le_refl _
  | succ k ih =>
    intro hk
    have h1 := ih (by omega)
    have h2 := (e_on_c hS hb (show k < 10 by omega)).2
    show e_wn f b s k + _ ≤ _
    split <;> omega
/-- the best of some sets: fewest, then least -/
def e_bb (f : Nat → Int32) (b n lo hi m : Nat) : Prop := e_V f b n m ∧ (lo ≤ m ∧ m < hi) ∧ ∀ s, lo ≤ s → s < hi → e_V f b n s → e_pc m < e_pc s ∨ (e_pc m = e_pc s ∧ m ≤ s)
theorem e_bb_un {f : Nat → Int32} {b n lo hi m m' : Nat} (h : e_bb f b n lo hi m) (h' : e_bb f b n lo hi m') : m = m' := by
  have h1 := h.2.2 m' h'.2.1.1 h'.2.1.2 h'.1
  have h2 := h'.2.2 m h.2.1.1 h.2.1.2 h.1
  omega
theorem e_evb_g {nb ne b : Nat} {f : Nat → Int32} (hS : e_SW nb ne f) (hb : b < 7) : ∀ n, n ≤ 10 → ∀ j, j < 32 → e_g (e_evb f b n) j = (decide (j < n) && decide (0 < e_on f b j)) := by
  intro n
  induction n with
  | zero =>
    intro _ j hj
    have : ∀ j, j < 32 → e_g 0 j = false := by decide
    rw [show decide (j < 0) = false from decide_eq_false (by omega), Bool.false_and]
    exact this j hj
  | succ n ih =>
    intro hn j hj
    have h1 := ih (by omega) j hj
    obtain ⟨o1, o2⟩ := e_on_c hS hb (show n < 10 by omega)
    unfold e_evb
    rw [o1]
    by_cases hp : 0 < e_on f b n
    · rw [if_pos (show (0 : Int32) < Int32.ofNat (e_on f b n) from e_T (a := 0) hp (by omega)), e_g_or, h1, e_g_shl (by omega) hj]
      by_cases hq : j = n
      · subst hq
        rw [decide_eq_true hp, decide_eq_true rfl, Bool.or_true, show decide (j < j + 1) = true from decide_eq_true (by omega)]
        rfl
      · rw [decide_eq_false hq, Bool.or_false, show decide (j < n) = decide (j < n + 1) from decide_eq_decide.mpr (by omega)]
    · rw [if_neg (show ¬ (0 : Int32) < Int32.ofNat (e_on f b n) from e_F (a := 0) (by omega) (by omega)), h1]
      by_cases hq : j = n
      · subst hq
        rw [decide_eq_false hp, Bool.and_false, Bool.and_false]
      · rw [show decide (j < n) = decide (j < n + 1) from decide_eq_decide.mpr (by omega)]
theorem e_poss {nb ne b s : Nat} {f : Nat → Int32} (hS : e_SW nb ne f) (hb : b < 7) (hm : ne ≤ 10) (hs : s < 2 ^ ne) : (Int32.ofNat s &&& (e_evb f b ne ^^^ -1) = 0) ↔ e_an (e_as f b s) 10 = true := by
  rw [e_an_t]
  constructor
  · intro h j hj
    have h1 : e_g (Int32.ofNat s &&& (e_evb f b ne ^^^ -1)) j = e_g 0 j := by rw [h]
    have h0 : ∀ j, j < 32 → e_g 0 j = false := by decide
    rw [e_g_and, e_g_xm _ (by omega), e_g_of _ (by omega), e_evb_g hS hb ne hm j (by omega), h0 j (by omega)] at h1
    unfold e_as
    by_cases hj2 : j < ne
    · rw [decide_eq_true hj2, Bool.true_and] at h1
      cases hq : s.testBit j
      · rfl
      · rw [hq, Bool.true_and] at h1
        cases hd : decide (0 < e_on f b j)
        · rw [hd] at h1; exact absurd h1 (by decide)
        · rfl
    · rw [e_tbz hs (by omega)]; rfl
  · intro h
    apply e_g_ext
    intro j hj
    have h0 : ∀ j, j < 32 → e_g 0 j = false := by decide
    rw [e_g_and, e_g_xm _ hj, e_g_of _ hj, e_evb_g hS hb ne hm j hj, h0 j hj]
    by_cases hj2 : j < ne
    · rw [decide_eq_true hj2, Bool.true_and]
      have := h j (by omega)
      unfold e_as at this
      cases hq : s.testBit j
      · rfl
      · rw [hq] at this
        cases hd : decide (0 < e_on f b j)
        · rw [hd] at this; exact absurd this (by decide)
        · rfl
    · rw [e_tbz hs (by omega)]; rfl
theorem e_weightOf {g : s_G} {nb ne b s : Nat} {f : Nat → Int32} (hC : e_C3 nb ne g f) (hH : e_HW nb ne f) (hT : e_T17 g f) (hS : e_SW nb ne f) (hb : b < 7) (hs : s < 2 ^ ne) : fA_weightOf_3_17 (Int32.ofNat b) (Int32.ofNat s) g = some (Int32.ofNat (e_wn f b s 10)) := by
  have hm := hH.2.1.1
  have e0 : g.1 3 1 = Int32.ofNat ne := by rw [hC.1.2.1, hH.2.1.2]
  rw [e_wn_z hs 10 hm]
  unfold fA_weightOf_3_17
  refine e_seq2 (fun k => (Int32.ofNat (e_wn f b s k), Int32.ofNat k)) ne rfl ?_ ?_
  · intro k hk
    obtain ⟨o1, o2⟩ := e_on_c hS hb (show k < 10 by omega)
    dsimp only
    unfold fA_weightOf_3_17_6
    rw [e0, if_pos (e_T hk (by omega)), e_onBoy_17 hT hb (by omega), s_b1_s, o1, e_inc, ← Int32.ofNat_add]
    simp only [e_bit (Int32.ofNat s) (show k < 32 by omega), e_g_of s (show k < 32 by omega)]
    show _ = some (Sum.inl (Int32.ofNat (e_wn f b s k + (if s.testBit k = true then e_on f b k else 0)), _))
    split
    · rfl
    · rfl
  · dsimp only
    unfold fA_weightOf_3_17_6
    rw [e0, if_neg (e_F (Nat.le_refl ne) (by omega))]
    rfl
theorem e_findSaying {g : s_G} {nb ne b n : Nat} {f : Nat → Int32} (hC : e_C3 nb ne g f) (hH : e_HW nb ne f) (hT : e_T17 g f) (hS : e_SW nb ne f) (hb : b < 7) (hn : n ≤ 200) : (∃ m, e_bb f b n 1 (2 ^ ne) m ∧ fA_findSaying_122_3_17 (Int32.ofNat b) (Int32.ofNat n) g = some (Int32.ofNat (e_pc m), s_si g 122 4 (Int32.ofNat m))) ∨ ((∀ s, 1 ≤ s → s < 2 ^ ne → ¬ e_V f b n s) ∧ fA_findSaying_122_3_17 (Int32.ofNat b) (Int32.ofNat n) g = some (-1, g)) := by
  have hm := hH.2.1.1
  have e0 : g.1 3 1 = Int32.ofNat ne := by rw [hC.1.2.1, hH.2.1.2]
  have hp1 : 1 ≤ 2 ^ ne := Nat.one_le_two_pow
  have hp : 2 ^ ne ≤ 2 ^ 10 := Nat.pow_le_pow_right (by omega) hm
  unfold fA_findSaying_122_3_17
  rw [e_eventBits_17 hC hH hT hb, s_b1_s]
  obtain ⟨w, ⟨h1, h2⟩, h3⟩ := e_lpN (B := fun (x : Int32 × Int32 × Int32) => fA_findSaying_122_3_17_17 (Int32.ofNat b) (Int32.ofNat n) (e_evb f b ne) x.1 x.2.1 x.2.2 g) (fun k (x : Int32 × Int32 × Int32) => x.2.2 = Int32.ofNat (k + 1) ∧ ((x.1 = 11 ∧ x.2.1 = 0 ∧ ∀ s, 1 ≤ s → s < k + 1 → ¬ e_V f b n s) ∨ ∃ m, e_bb f b n 1 (k + 1) m ∧ x.1 = Int32.ofNat (e_pc m) ∧ x.2.1 = Int32.ofNat m)) (2 ^ ne - 1) (x := (11, 0, 1)) (by
    intro k x hk hI
    obtain ⟨x1, x2, x3⟩ := x
    obtain ⟨h1, h2⟩ := hI
    dsimp only at h1 h2
    subst h1
    unfold fA_findSaying_122_3_17_17
    dsimp only
    rw [e0, e_shl ne (by omega), if_pos (e_T (by omega) (by omega)), e_bitCount (by omega), s_b1_s, e_weightOf hC hH hT hS hb (by omega), s_b1_s, e_inc]
    have hw := e_wn_le (s := k + 1) hS hb 10 (by omega)
    have hpc := e_pc_le (k + 1)
    -- what the step is to leave
    have keep : ¬ (e_V f b n (k + 1) ∧ ∀ m, e_bb f b n 1 (k + 1) m → e_pc (k + 1) < e_pc m) → ∃ y, some (.inl (x1, x2, Int32.ofNat (k + 1 + 1))) = some (Sum.inl (β := Int32 × s_G) y) ∧ y.2.2 = Int32.ofNat (k + 1 + 1) ∧ ((y.1 = 11 ∧ y.2.1 = 0 ∧ ∀ s, 1 ≤ s → s < k + 1 + 1 → ¬ e_V f b n s) ∨ ∃ m, e_bb f b n 1 (k + 1 + 1) m ∧ y.1 = Int32.ofNat (e_pc m) ∧ y.2.1 = Int32.ofNat m) := by
      intro hno
      refine ⟨_, rfl, rfl, ?_⟩
      rcases h2 with ⟨a1, a2, a3⟩ | ⟨m, a1, a2, a3⟩
      · refine Or.inl ⟨a1, a2, fun s hs1 hs2 => ?_⟩
        by_cases hq : s = k + 1
        · subst hq
          intro hV
          exact hno ⟨hV, fun m hm => absurd hm.1 (a3 m hm.2.1.1 hm.2.1.2)⟩
        · exact a3 s hs1 (by omega)
      · refine Or.inr ⟨m, ⟨a1.1, ⟨a1.2.1.1, by have := a1.2.1.2; omega⟩, fun s hs1 hs2 hV => ?_⟩, a2, a3⟩
        by_cases hq : s = k + 1
        · subst hq
          have : ¬ e_pc (k + 1) < e_pc m := fun hlt => hno ⟨hV, fun m' hm' => by rw [e_bb_un hm' a1]; exact hlt⟩
          have := a1.2.1.2
          omega
        · exact a1.2.2 s hs1 (by omega) hV
    by_cases hpo : Int32.ofNat (k + 1) &&& (e_evb f b ne ^^^ -1) = 0
    · rw [if_pos hpo]
      have hA := (e_poss hS hb hm (show k + 1 < 2 ^ ne by omega)).mp hpo
      by_cases hlt : Int32.ofNat (e_pc (k + 1)) < x1
      · rw [if_pos hlt]
        by_cases hwn : e_wn f b (k + 1) 10 = n
        · rw [if_pos (by rw [hwn])]
          refine ⟨_, rfl, rfl, Or.inr ⟨k + 1, ⟨⟨hA, hwn⟩, ⟨by omega, by omega⟩, fun s hs1 hs2 hV => ?_⟩, rfl, rfl⟩⟩
          by_cases hq : s = k + 1
          · subst hq; exact Or.inr ⟨rfl, Nat.le_refl _⟩
          · rcases h2 with ⟨a1, a2, a3⟩ | ⟨m, a1, a2, a3⟩
            · exact absurd hV (a3 s hs1 (by omega))
            · have hlt' : e_pc (k + 1) < e_pc m := by
                have hpm := e_pc_le m
                rw [a2, e_lt (by omega) (by omega)] at hlt
                exact hlt
              have := a1.2.2 s hs1 (by omega) hV
              omega
        · rw [if_neg (fun h => hwn (e_in (by omega) (by omega) h))]
          exact keep (fun h => hwn h.1.2)
      · rw [if_neg hlt]
        refine keep (fun h => hlt ?_)
        rcases h2 with ⟨a1, a2, a3⟩ | ⟨m, a1, a2, a3⟩
        · rw [a1]; exact e_T (b := 11) (by omega) (by omega)
        · rw [a2]
          have hpm := e_pc_le m
          exact e_T (h.2 m a1) (by omega)
    · rw [if_neg hpo]
      exact keep (fun h => hpo ((e_poss hS hb hm (show k + 1 < 2 ^ ne by omega)).mpr h.1.1))) ⟨rfl, Or.inl ⟨rfl, rfl, fun s h1 h2 => absurd h2 (by omega)⟩⟩
  obtain ⟨x1, x2, x3⟩ := w
  dsimp only at h1 h2
  subst h1
  rw [show 2 ^ ne - 1 + 1 = 2 ^ ne by omega] at h2 h3
  rw [h3]
  rcases h2 with ⟨a1, a2, a3⟩ | ⟨m, a1, a2, a3⟩
  · refine Or.inr ⟨a3, ?_⟩
    apply s_lp_out
    dsimp only
    unfold fA_findSaying_122_3_17_17
    rw [e0, e_shl ne (by omega), if_neg (e_F (Nat.le_refl _) (by omega)), if_pos a2]
    rfl
  · refine Or.inl ⟨m, a1, ?_⟩
    have := a1.2.1
    apply s_lp_out
    dsimp only
    unfold fA_findSaying_122_3_17_17
    rw [e0, e_shl ne (by omega), if_neg (e_F (Nat.le_refl _) (by omega)), a3, if_neg (show ¬ Int32.ofNat m = 0 from fun h => absurd (e_in (b := 0) (by omega) (by omega) h) (by omega)), a2]
    rfl
theorem e_mSays {G : s_G} {nb ne b n : Nat} {f : Nat → Int32} (hH : e_HW nb ne f) (hS : e_SW nb ne f) (hf : G.1 132 = f) (hb : b < 7) (hn : n ≤ 200) : (∃ m, e_bb f b n 1 (2 ^ ne) m ∧ s_lp (fun (x : Int32 × Int32) => fM_says_130_40 (Int32.ofNat b) (Int32.ofNat n) x.1 x.2 G) (-1, Int32.ofNat (2 ^ ne - 1)) = some (Int32.ofNat (e_pc m), s_si G 130 32 (Int32.ofNat m))) ∨ ((∀ s, 1 ≤ s → s < 2 ^ ne → ¬ e_V f b n s) ∧ s_lp (fun (x : Int32 × Int32) => fM_says_130_40 (Int32.ofNat b) (Int32.ofNat n) x.1 x.2 G) (-1, Int32.ofNat (2 ^ ne - 1)) = some (-1, G)) := by
  have hm := hH.2.1.1
  have hp1 : 1 ≤ 2 ^ ne := Nat.one_le_two_pow
  have hp : 2 ^ ne ≤ 2 ^ 10 := Nat.pow_le_pow_right (by omega) hm
  have inner : ∀ (z : Int32) s, s < 2 ^ ne → s_lp (fun (x : Int32 × Int32 × Int32) => fM_says_130_54 (Int32.ofNat b) (Int32.ofNat n) z (Int32.ofNat s) x.1 x.2.1 x.2.2 G) (0, 1, 0) = (if e_an (e_as f b s) 10 = true then (if e_wn f b s 10 = n then (if z = -1 then some (.inl (Int32.ofNat s, Int32.ofNat s + -1)) else s_b1 (fM_bits_s (Int32.ofNat s) G) fun v7 => s_b1 (fM_bits_s z G) fun v8 => if v8 < v7 then some (.inl (z, Int32.ofNat s + -1)) else some (.inl (Int32.ofNat s, Int32.ofNat s + -1))) else some (.inl (z, Int32.ofNat s + -1))) else some (.inl (z, Int32.ofNat s + -1))) := by
    intro z s hs
    have e1 : ((0 : Int32), (1 : Int32), (0 : Int32)) = (Int32.ofNat (e_wn f b s 0), e_bi (e_an (e_as f b s) 0 = true), Int32.ofNat 0) := by rw [e_bi_t (show e_an (e_as f b s) 0 = true from rfl)]; rfl
    have r1 : s_lp (fun (x : Int32 × Int32 × Int32) => fM_says_130_54 (Int32.ofNat b) (Int32.ofNat n) z (Int32.ofNat s) x.1 x.2.1 x.2.2 G) (0, 1, 0) = s_lp (fun (x : Int32 × Int32 × Int32) => fM_says_130_54 (Int32.ofNat b) (Int32.ofNat n) z (Int32.ofNat s) x.1 x.2.1 x.2.2 G) (Int32.ofNat (e_wn f b s 10), e_bi (e_an (e_as f b s) 10 = true), Int32.ofNat 10) := by
      rw [e1]
      refine e_seq (fun k => (Int32.ofNat (e_wn f b s k), e_bi (e_an (e_as f b s) k = true), Int32.ofNat k)) 10 ?_
      intro k hk
      obtain ⟨o1, o2⟩ := e_on_c hS hb hk
      dsimp only
      unfold fM_says_130_54
      rw [if_pos (show Int32.ofNat k < 10 from e_T (b := 10) hk (by omega)), e_hasS (by omega), s_b1_s, e_g_of s (by omega), e_onOf hb hk, s_b1_s, s_b1_s, hf, o1, e_inc, ← Int32.ofNat_add]
      show _ = some (Sum.inl (Int32.ofNat (e_wn f b s k + (if s.testBit k = true then e_on f b k else 0)), e_bi ((e_an (e_as f b s) k && e_as f b s k) = true), _))
      by_cases hq : s.testBit k = true
      · rw [if_neg (by rw [e_bi_t hq]; decide), if_pos hq]
        by_cases ha : e_an (e_as f b s) k = true
        · rw [if_neg (by rw [e_bi_t ha]; decide), ha, Bool.true_and]
          by_cases hp0 : 0 < e_on f b k
          · rw [if_pos (show (0 : Int32) < Int32.ofNat (e_on f b k) from e_T (a := 0) hp0 (by omega)), e_bi_t (show e_as f b s k = true by unfold e_as; rw [decide_eq_true hp0, Bool.or_true])]
          · rw [if_neg (show ¬ (0 : Int32) < Int32.ofNat (e_on f b k) from e_F (a := 0) (by omega) (by omega)), e_bi_f (show ¬ e_as f b s k = true by unfold e_as; rw [decide_eq_false hp0, hq]; decide)]
        · rw [if_pos (e_bi_f ha), e_bi_f (fun h => ha (Bool.and_eq_true_iff.mp h).1)]
      · rw [if_pos (e_bi_f hq), if_neg hq, show e_as f b s k = true by unfold e_as; rw [Bool.eq_false_iff.mpr hq]; rfl, Bool.and_true]
        rfl
    have hw := e_wn_le (s := s) hS hb 10 (by omega)
    rw [r1]
    have r2 : fM_says_130_54 (Int32.ofNat b) (Int32.ofNat n) z (Int32.ofNat s) (Int32.ofNat (e_wn f b s 10)) (e_bi (e_an (e_as f b s) 10 = true)) (Int32.ofNat 10) G = s_in (if e_an (e_as f b s) 10 = true then (if e_wn f b s 10 = n then (if z = -1 then some (.inl (Int32.ofNat s, Int32.ofNat s + -1)) else s_b1 (fM_bits_s (Int32.ofNat s) G) fun v7 => s_b1 (fM_bits_s z G) fun v8 => if v8 < v7 then some (.inl (z, Int32.ofNat s + -1)) else some (.inl (Int32.ofNat s, Int32.ofNat s + -1))) else some (.inl (z, Int32.ofNat s + -1))) else some (.inl (z, Int32.ofNat s + -1))) := by
      unfold fM_says_130_54
      rw [if_neg (show ¬ Int32.ofNat 10 < 10 by decide)]
      congr 1
      by_cases ha : e_an (e_as f b s) 10 = true
      · rw [if_neg (by rw [e_bi_t ha]; decide), if_pos ha]
        simp (disch := omega) only [e_eq]
      · rw [if_pos (e_bi_f ha), if_neg ha]
    generalize hY : (if e_an (e_as f b s) 10 = true then (if e_wn f b s 10 = n then (if z = -1 then some (.inl (Int32.ofNat s, Int32.ofNat s + -1)) else s_b1 (fM_bits_s (Int32.ofNat s) G) fun v7 => s_b1 (fM_bits_s z G) fun v8 => if v8 < v7 then some (.inl (z, Int32.ofNat s + -1)) else some (.inl (Int32.ofNat s, Int32.ofNat s + -1))) else some (.inl (z, Int32.ofNat s + -1))) else some (.inl (z, Int32.ofNat s + -1)) : Option ((Int32 × Int32) ⊕ (Int32 × s_G))) = Y at r2
    cases Y with
    | some y => exact s_lp_out r2
    | none =>
      rcases s_lp_sp (fun (x : Int32 × Int32 × Int32) => fM_says_130_54 (Int32.ofNat b) (Int32.ofNat n) z (Int32.ofNat s) x.1 x.2.1 x.2.2 G) (Int32.ofNat (e_wn f b s 10), e_bi (e_an (e_as f b s) 10 = true), Int32.ofNat 10) with ⟨h, _⟩ | ⟨r, k, h1, h2⟩
      · exact h
      · cases k with
        | zero => exact absurd h2 (by unfold s_it; exact fun h => nomatch h)
        | succ k =>
          rw [s_it] at h2
          dsimp only at h2
          rw [r2] at h2
          exact absurd h2 (fun h => nomatch h)
  obtain ⟨w, ⟨h1, h2⟩, h3⟩ := e_lpN (B := fun (x : Int32 × Int32) => fM_says_130_40 (Int32.ofNat b) (Int32.ofNat n) x.1 x.2 G) (fun k (x : Int32 × Int32) => x.2 = Int32.ofNat (2 ^ ne - 1 - k) ∧ ((x.1 = -1 ∧ ∀ s, 2 ^ ne - k ≤ s → s < 2 ^ ne → ¬ e_V f b n s) ∨ ∃ m, e_bb f b n (2 ^ ne - k) (2 ^ ne) m ∧ x.1 = Int32.ofNat m)) (2 ^ ne - 1) (x := (-1, Int32.ofNat (2 ^ ne - 1))) (by
    intro k x hk hI
    obtain ⟨x1, x2⟩ := x
    obtain ⟨h1, h2⟩ := hI
    dsimp only at h1 h2
    subst h1
    generalize hs : 2 ^ ne - 1 - k = s
    have hs1 : 1 ≤ s := by omega
    have hlo : 2 ^ ne - k = s + 1 := by omega
    have hlo' : 2 ^ ne - (k + 1) = s := by omega
    rw [hlo] at h2
    rw [hlo']
    have es : Int32.ofNat s + -1 = Int32.ofNat (2 ^ ne - 1 - (k + 1)) := by
      rw [show 2 ^ ne - 1 - (k + 1) = s - 1 by omega, ← e_dec hs1, Int32.sub_eq_add_neg]
    unfold fM_says_130_40
    dsimp only
    rw [if_pos (show (0 : Int32) < Int32.ofNat s from e_T (a := 0) (by omega) (by omega)), inner x1 s (by omega), es]
    have keep : (¬ e_V f b n s ∨ ∃ m, e_bb f b n (s + 1) (2 ^ ne) m ∧ e_pc m < e_pc s) → ∃ y, some (.inl (x1, Int32.ofNat (2 ^ ne - 1 - (k + 1)))) = some (Sum.inl (β := Int32 × s_G) y) ∧ y.2 = Int32.ofNat (2 ^ ne - 1 - (k + 1)) ∧ ((y.1 = -1 ∧ ∀ s', s ≤ s' → s' < 2 ^ ne → ¬ e_V f b n s') ∨ ∃ m, e_bb f b n s (2 ^ ne) m ∧ y.1 = Int32.ofNat m) := by
      intro hno
      refine ⟨_, rfl, rfl, ?_⟩
      rcases h2 with ⟨a1, a2⟩ | ⟨m, a1, a2⟩
      · refine Or.inl ⟨a1, fun s' hs1' hs2 => ?_⟩
        by_cases hq : s' = s
        · subst hq
          rcases hno with h | ⟨m, hm, _⟩
          · exact h
          · exact absurd hm.1 (a2 m hm.2.1.1 hm.2.1.2)
        · exact a2 s' (by omega) hs2
      · refine Or.inr ⟨m, ⟨a1.1, ⟨by have := a1.2.1.1; omega, a1.2.1.2⟩, fun s' hs1' hs2 hV => ?_⟩, a2⟩
        by_cases hq : s' = s
        · subst hq
          rcases hno with h | ⟨m', hm', hlt⟩
          · exact absurd hV h
          · rw [e_bb_un hm' a1] at hlt; exact Or.inl hlt
        · exact a1.2.2 s' (by omega) hs2 hV
    have take : e_V f b n s → (∀ m, e_bb f b n (s + 1) (2 ^ ne) m → ¬ e_pc m < e_pc s) → ∃ y, some (.inl (Int32.ofNat s, Int32.ofNat (2 ^ ne - 1 - (k + 1)))) = some (Sum.inl (β := Int32 × s_G) y) ∧ y.2 = Int32.ofNat (2 ^ ne - 1 - (k + 1)) ∧ ((y.1 = -1 ∧ ∀ s', s ≤ s' → s' < 2 ^ ne → ¬ e_V f b n s') ∨ ∃ m, e_bb f b n s (2 ^ ne) m ∧ y.1 = Int32.ofNat m) := by
      intro hV hno
      refine ⟨_, rfl, rfl, Or.inr ⟨s, ⟨hV, ⟨Nat.le_refl _, by omega⟩, fun s' hs1' hs2 hV' => ?_⟩, rfl⟩⟩
      by_cases hq : s' = s
      · subst hq; exact Or.inr ⟨rfl, Nat.le_refl _⟩
      · rcases h2 with ⟨a1, a2⟩ | ⟨m, a1, a2⟩
        · exact absurd hV' (a2 s' (by omega) hs2)
        · have h5 := hno m a1
          have h6 := a1.2.2 s' (by omega) hs2 hV'
          omega
    by_cases ha : e_an (e_as f b s) 10 = true
    · rw [if_pos ha]
      by_cases hw : e_wn f b s 10 = n
      · rw [if_pos hw]
        rcases h2 with ⟨a1, a2⟩ | ⟨m, a1, a2⟩
        · rw [if_pos a1]
          exact take ⟨ha, hw⟩ (fun m hm => absurd hm.1 (a2 m hm.2.1.1 hm.2.1.2))
        · have hmr := a1.2.1
          have p1 := e_pc_le m
          have p2 := e_pc_le s
          rw [a2, if_neg (e_on1 (by omega)), e_bits (by omega), s_b1_s, e_bits (by omega), s_b1_s]
          by_cases hlt : e_pc m < e_pc s
          · rw [if_pos (e_T hlt (by omega)), ← a2]
            exact keep (Or.inr ⟨m, a1, hlt⟩)
          · rw [if_neg (e_F (by omega) (by omega))]
            exact take ⟨ha, hw⟩ (fun m' hm' => by rw [e_bb_un hm' a1]; exact hlt)
      · rw [if_neg hw]
        exact keep (Or.inl (fun h => hw h.2))
    · rw [if_neg ha]
      exact keep (Or.inl (fun h => ha h.1))) ⟨by rw [Nat.sub_zero], Or.inl ⟨rfl, fun s h1 h2 => absurd h1 (by omega)⟩⟩
  obtain ⟨x1, x2⟩ := w
  dsimp only at h1 h2
  subst h1
  rw [show 2 ^ ne - (2 ^ ne - 1) = 1 by omega] at h2
  rw [show 2 ^ ne - 1 - (2 ^ ne - 1) = 0 by omega] at h3
  rw [h3]
  rcases h2 with ⟨a1, a2⟩ | ⟨m, a1, a2⟩
  · refine Or.inr ⟨a2, ?_⟩
    apply s_lp_out
    dsimp only
    unfold fM_says_130_40
    rw [if_neg (by decide), if_pos a1]
    rfl
  · refine Or.inl ⟨m, a1, ?_⟩
    have := a1.2.1
    apply s_lp_out
    dsimp only
    unfold fM_says_130_40
    rw [if_neg (by decide), a2, if_neg (e_on1 (by omega)), e_bits (by omega), s_b1_s]
    rfl
theorem k_says {g : s_G} (h : e_I g) (x y : Int32) : e_k1 (fC_says_0 x y g) (fM_says_130 x y) := by
  obtain ⟨hR, nb, ne, n, p, hs, hJ⟩ := id h
  obtain ⟨hH, hC, hT, hS⟩ := e_I.jc hJ
  have hn := hH.1.1
  have hm := hH.2.1.1
  unfold fC_says_0
  rw [e_hB hC hH, s_b1_s]
  by_cases h1 : e_hs nb x
  · rw [e_bi_t h1, e_i1]
    by_cases h4 : ¬ y < 1 ∧ ¬ Int32.ofNat 200 < y
    · rw [if_neg h4.1, if_neg (show ¬ 200 < y from h4.2)]
      obtain ⟨b, hb, rfl⟩ := e_hs_k (by omega) h1
      obtain ⟨m, hm1, hm2, rfl⟩ := e_rng1 (by omega) h4.1 h4.2
      have hM : ∀ g1 : s_G, g1.1 132 = g.1 132 → fM_says_130 (Int32.ofNat b) (Int32.ofNat m) g1 = s_lp (fun (x : Int32 × Int32) => fM_says_130_40 (Int32.ofNat b) (Int32.ofNat m) x.1 x.2 (s_si g1 130 0 0)) (-1, Int32.ofNat (2 ^ ne - 1)) := by
        intro g1 e132
        unfold fM_says_130
        rw [e_iB e132 hH, s_b1_s, e_bi_t h1, e_i1, show (200 : Int32) = Int32.ofNat 200 from rfl, e_isIn_1 (by omega), s_b1_s, e_bi_t h4, e_i1, e132, hH.2.1.2, e_all ne hm, s_b1_s]
      rcases e_findSaying hC hH hT hS (show b < 7 by omega) hm2 with ⟨m1, a1, a2⟩ | ⟨a1, a2⟩
      · have e132 : (s_si g 122 4 (Int32.ofNat m1)).1 132 = g.1 132 := e_sN (by omega)
        rcases e_mSays (G := s_si (s_si g 122 4 (Int32.ofNat m1)) 130 0 0) hH hS (by rw [e_sN (by omega), e132]) (show b < 7 by omega) hm2 with ⟨m2, b1, b2⟩ | ⟨b1, _⟩
        · have : m2 = m1 := e_bb_un b1 a1
          subst this
          refine ⟨_, _, _, by rw [a2, s_b2_s], by rw [hM _ e132, b2], ?_⟩
          generalize hg2 : s_si (s_si (s_si g 122 4 (Int32.ofNat m2)) 130 0 0) 130 32 (Int32.ofNat m2) = g2
          have q : ∀ a, ¬ a = 122 ∧ ¬ a = 130 → g2.1 a = g.1 a := fun a ha => by rw [← hg2, e_sN ha.2, e_sN ha.2, e_sN ha.1]
          have o0 : ∀ k, k < 1000 → g2.1 0 k = g.1 0 k := fun k _ => by rw [q 0 (by omega)]
          have o1 : ∀ k, k < 1000 → g2.1 1 k = g.1 1 k := fun k _ => by rw [q 1 (by omega)]
          have o122 : ∀ k, ¬ k = 4 → g2.1 122 k = g.1 122 k := fun k hk => by rw [← hg2, e_sN (by omega), e_sN (by omega), e_sS, e_vn _ _ hk]
          have o130 : ∀ k, ¬ k = 0 ∧ ¬ k = 32 → g2.1 130 k = g.1 130 k := fun k hk => by rw [← hg2, e_sS, e_vn _ _ hk.2, e_sS, e_vn _ _ hk.1, e_sN (by omega)]
          have h2 : g2.2 = g.2 := by rw [← hg2]; rfl
          have hl : e_lr g g2 := e_lr.of h2
          refine ⟨?_, nb, ne, n, p, hs, e_J_cg hJ (fun a ha => q a (by omega)) (o130 25 (by omega)) h2⟩
          refine ⟨⟨?_, ?_⟩, ⟨?_, ?_, ?_⟩, ⟨?_, ?_, ?_⟩, ⟨?_, ?_⟩, ?_⟩
          · rw [o1 1 (by omega), q 2 (by omega), q 131 (by omega), o130 2 (by omega)]; exact hR.1.1
          · rw [o0 1 (by omega), o130 10 (by omega)]; exact hR.1.2
          · rw [o122 1 (by omega), q 123 (by omega), q 144 (by omega), o130 28 (by omega)]; exact hR.2.1.1
          · rw [o122 3 (by omega), q 124 (by omega), q 145 (by omega), o130 30 (by omega), o130 31 (by omega)]; exact hR.2.1.2.1
          · rw [← hg2, e_sN (by omega), e_sN (by omega), e_sS, e_ve, e_sS, e_ve]
          · rw [q 127 (by omega), o130 34 (by omega)]; exact hR.2.2.1.1
          · rw [o0 15 (by omega), q 129 (by omega), q 148 (by omega), o130 37 (by omega)]; exact hR.2.2.1.2.1
          · rw [q 37 (by omega), q 150 (by omega), o130 42 (by omega)]; exact hR.2.2.1.2.2
          · exact e_im_cg hR.2.2.2.1.1 (by omega) (fun a _ _ => q a (by omega)) (q 134 (by omega)) (q 140 (by omega)) hl.1.1 hl.1.2.2 hl.2.1
          · exact e_im_cg hR.2.2.2.1.2 (by omega) (fun a _ _ => q a (by omega)) (q 134 (by omega)) (q 140 (by omega)) hl.1.2.1 hl.1.2.2 hl.2.2.1
          · rw [hl.2.2.2]; exact hR.2.2.2.2
        · exact absurd a1.1 (b1 m1 a1.2.1.1 a1.2.1.2)
      · rcases e_mSays (G := s_si g 130 0 0) hH hS (by rw [e_sN (by omega)]) (show b < 7 by omega) hm2 with ⟨m2, b1, b2⟩ | ⟨b1, b2⟩
        · exact absurd b1.1 (a1 m2 b1.2.1.1 b1.2.1.2)
        · exact e_no h (-1) (by rw [a2, s_b2_s]) (by rw [hM g rfl, b2])
    · refine e_no h (-1) ?_ ?_
      · by_cases h5 : y < 1
        · rw [if_pos h5]
        · rw [if_neg h5, if_pos (show 200 < y from Classical.byContradiction (fun h6 => h4 ⟨h5, h6⟩))]
      · unfold fM_says_130
        rw [e_iB rfl hH, s_b1_s, e_bi_t h1, e_i1, show (200 : Int32) = Int32.ofNat 200 from rfl, e_isIn_1 (by omega), s_b1_s, e_bi_f h4, e_i0]
  · rw [e_bi_f h1, e_i0]
    refine e_no h (-1) rfl ?_
    unfold fM_says_130
    rw [e_iB rfl hH, s_b1_s, e_bi_f h1, e_i0]
