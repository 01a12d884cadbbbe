-- TENTS: both loops side by side
theorem e_lpJ {X Y R S : Type} {B : X → Option (X ⊕ R)} {D : Y → Option (Y ⊕ S)} (I : Nat → X → Y → Prop) (n : Nat) (hs : ∀ k x y, k < n → I k x y → ∃ x' y', B x = some (.inl x') ∧ D y = some (.inl y') ∧ I (k + 1) x' y') {x : X} {y : Y} (hx : I 0 x y) : ∃ x' y', I n x' y' ∧ s_lp B x = s_lp B x' ∧ s_lp D y = s_lp D y' := by
  have key : ∀ k, k ≤ n → ∃ x' y', I k x' y' ∧ s_lp B x = s_lp B x' ∧ s_lp D y = s_lp D y' := by
    intro k
    induction k with
    | zero => intro _; exact ⟨x, y, hx, rfl, rfl⟩
    | succ k ih =>
      intro hk
      obtain ⟨x', y', h1, h2, h3⟩ := ih (by omega)
      obtain ⟨x'', y'', h4, h5, h6⟩ := hs k x' y' (by omega) h1
      exact ⟨x'', y'', h6, h2.trans (s_lp_in h4), h3.trans (s_lp_in h5)⟩
  exact key n (Nat.le_refl n)
theorem e_cn_cl {p : Nat → Bool} {b : Nat} (hp : p b = true) : ∀ n, b < n → e_cn (fun j => p j && !decide (j = b)) n + 1 = e_cn p n := by
  intro n
  induction n with
  | zero => intro h; omega
  | succ n ih =>
    intro h
    show e_cn (fun j => p j && !decide (j = b)) n + (if (p n && !decide (n = b)) = true then 1 else 0) + 1 = e_cn p n + (if p n = true then 1 else 0)
    by_cases hq : b = n
    · subst hq
      rw [e_cn_cg (q := p) b (fun k hk => by rw [decide_eq_false (by omega), Bool.not_false, Bool.and_true]), hp, decide_eq_true rfl]
      rfl
    · have := ih (by omega)
      rw [decide_eq_false (show ¬ n = b from fun h => hq h.symm), Bool.not_false, Bool.and_true]
      omega
def e_bc (s : Nat) : Nat := e_cn (fun j => s.testBit j) 7
theorem e_bc_cl {s b : Nat} (h : s.testBit b = true) (hb : b < 7) : e_bc (e_cl s b) + 1 = e_bc s := by
  unfold e_bc
  rw [← e_cn_cl (p := fun j => s.testBit j) h 7 hb]
  congr 1
  exact e_cn_cg 7 (fun k _ => e_cl_t)
theorem e_bit_ex {s n : Nat} (h0 : ¬ s = 0) (hn : s < 2 ^ n) : ∃ b, b < n ∧ s.testBit b = true := by
  obtain ⟨i, hi⟩ := Nat.exists_testBit_of_ne_zero h0
  refine ⟨i, ?_, hi⟩
  refine Classical.byContradiction (fun hc => ?_)
  have : s.testBit i = false := by
    apply Nat.testBit_lt_two_pow
    calc s < 2 ^ n := hn
      _ ≤ 2 ^ i := Nat.pow_le_pow_right (by omega) (by omega)
  rw [this] at hi
  exact absurd hi (by decide)
/-- a number of tents, and what is in the last -/
def e_tn (n c : Nat) (x y : Int32) : Prop := ∃ t l, 1 ≤ t ∧ t ≤ c ∧ l ≤ n ∧ x = Int32.ofNat (1024 * t + l) ∧ y = Int32.ofNat (1000 * t + l)
theorem e_divN {a b : Nat} (ha : a < 1000000000) (hb : b < 1000000000) : Int32.ofNat a / Int32.ofNat b = Int32.ofNat (a / b) := (Int32.ofNat_div (by omega) (by omega)).symm
theorem e_w1 {n c l : Nat} {x y : Int32} {g G : s_G} (hn : n ≤ 400) (hl : l ≤ n) (hc : c ≤ 7) (h : (x = 0 ∧ y = Int32.ofNat n) ∨ e_tn n c x y) : ∃ x' y', fA_withOneMore_s x (Int32.ofNat l) (Int32.ofNat n) g = some x' ∧ fM_withOne_s y (Int32.ofNat l) (Int32.ofNat n) G = some y' ∧ e_tn n (c + 1) x' y' := by
  unfold fA_withOneMore_s fA_withOneMore_s_22 fA_withOneMore_s_23 fM_withOne_s fM_withOne_s_22
  rcases h with ⟨rfl, rfl⟩ | ⟨t, m, ht, htc, hm, rfl, rfl⟩
  · refine ⟨Int32.ofNat (1024 * 1 + l), Int32.ofNat (1000 * 1 + l), ?_, ?_, 1, l, by omega, by omega, hl, rfl, rfl⟩
    · rw [if_pos (by decide), if_pos rfl, Int32.ofNat_add]
      rfl
    · rw [show (1000 : Int32) = Int32.ofNat 1000 from rfl, e_mod (by omega) (by omega), show n % 1000 = n by omega, if_pos (show Int32.ofNat n < Int32.ofNat 1000 from e_T (by omega) (by omega)), ← Int32.ofNat_sub _ _ (Nat.le_refl n), Nat.sub_self, ← Int32.ofNat_add, ← Int32.ofNat_add]
      split <;> simp
  · rw [if_neg (show ¬ Int32.ofNat (1024 * t + m) < 1024 from e_F (b := 1024) (by omega) (by omega)), show (1024 : Int32) = Int32.ofNat 1024 from rfl, show (1000 : Int32) = Int32.ofNat 1000 from rfl, e_mod (by omega) (by omega), e_mod (by omega) (by omega), show (1024 * t + m) % 1024 = m by omega, show (1000 * t + m) % 1000 = m by omega, ← Int32.ofNat_add, e_divN (by omega) (by omega), show (1024 * t + m) / 1024 = t by omega, if_pos (show (0 : Int32) = 0 from rfl), if_neg (show ¬ (1 : Int32) = 0 by decide), if_neg (show ¬ Int32.ofNat (1000 * t + m) < Int32.ofNat 1000 from e_F (by omega) (by omega)), ← Int32.ofNat_sub _ _ (by omega), e_inc, ← Int32.ofNat_add, ← Int32.ofNat_add, ← Int32.ofNat_add, ← Int32.ofNat_add, ← Int32.ofNat_mul, ← Int32.ofNat_add]
    by_cases hq : n < m + l
    · rw [if_pos (e_T hq (by omega)), if_pos (e_T hq (by omega))]
      exact ⟨_, _, rfl, rfl, t + 1, l, by omega, by omega, hl, congrArg Int32.ofNat (by omega), congrArg Int32.ofNat (by omega)⟩
    · rw [if_neg (e_F (by omega) (by omega)), if_neg (e_F (by omega) (by omega))]
      exact ⟨_, _, rfl, rfl, t, m + l, by omega, by omega, by omega, congrArg Int32.ofNat (by omega), congrArg Int32.ofNat (by omega)⟩
theorem e_w2 {n c c' : Nat} {x y x' y' : Int32} (hn : n ≤ 400) (hc : c ≤ 8) (hc' : c' ≤ c) (h : (x = 1048576 ∧ y = 100000) ∨ e_tn n c x y) (h' : e_tn n c' x' y') : e_tn n c (if x' < x then x' else x) (if y < y' then y else y') := by
  obtain ⟨t', l', a1, a2, a3, rfl, rfl⟩ := h'
  rcases h with ⟨rfl, rfl⟩ | ⟨t, l, b1, b2, b3, rfl, rfl⟩
  · rw [if_pos (show Int32.ofNat (1024 * t' + l') < 1048576 from e_T (b := 1048576) (by omega) (by omega)), if_neg (show ¬ 100000 < Int32.ofNat (1000 * t' + l') from e_F (a := 100000) (by omega) (by omega))]
    exact ⟨t', l', a1, by omega, a3, rfl, rfl⟩
  · by_cases h1 : 1024 * t' + l' < 1024 * t + l
    · rw [if_pos (e_T h1 (by omega)), if_neg (e_F (by omega) (by omega))]
      exact ⟨t', l', a1, by omega, a3, rfl, rfl⟩
    · rw [if_neg (e_F (by omega) (by omega))]
      by_cases h2 : 1000 * t + l < 1000 * t' + l'
      · rw [if_pos (e_T h2 (by omega))]
        exact ⟨t, l, b1, b2, b3, rfl, rfl⟩
      · rw [if_neg (e_F (by omega) (by omega))]
        exact ⟨t, l, b1, b2, b3, rfl, congrArg Int32.ofNat (by omega)⟩
/-- one set -/
theorem e_tents_1 {g G : s_G} {nb ne n s : Nat} {f : Nat → Int32} {z z' : Int32} (hC : e_C3 nb ne g f) (hH : e_HW nb ne f) (hT : e_T17 g f) (hS : e_SW nb ne f) (hf : G.1 132 = f) (hn : n ≤ 400) (hL : ∀ b, b < nb → e_Ln f b ≤ n) (hs0 : 1 ≤ s) (hs : s < 2 ^ nb) (hp : g.1 126 0 = 0 ∧ G.1 146 0 = Int32.ofNat n) (hq : ∀ k, 1 ≤ k → k < s → e_tn n (e_bc k) (g.1 126 k) (G.1 146 k)) : ∃ g' G', s_lp (fun (x : Int32 × s_G) => fA_countTents_122_3_17_70 (Int32.ofNat n) z (Int32.ofNat s) x.1 x.2) (0, s_si g 126 s 1048576) = some (.inl (Int32.ofNat (s + 1), g')) ∧ s_lp (fun (x : Int32 × s_G) => fM_tents_130_84 (Int32.ofNat n) z' (Int32.ofNat s) x.1 x.2) (0, s_si G 146 s 100000) = some (.inl (Int32.ofNat (s + 1), G')) ∧ (g'.1 126 0 = 0 ∧ G'.1 146 0 = Int32.ofNat n) ∧ (∀ k, 1 ≤ k → k < s + 1 → e_tn n (e_bc k) (g'.1 126 k) (G'.1 146 k)) ∧ e_fx 126 126 g g' ∧ e_fx 146 146 G G' := by
  have hnb := hH.1.1
  have hs128 : s < 128 := Nat.lt_of_lt_of_le hs (show 2 ^ nb ≤ 2 ^ 7 from Nat.pow_le_pow_right (by omega) hnb)
  obtain ⟨x', y', ⟨h1, h2, h3, h4, h5, h6, h7⟩, h8, h9⟩ := e_lpJ (B := fun (x : Int32 × s_G) => fA_countTents_122_3_17_70 (Int32.ofNat n) z (Int32.ofNat s) x.1 x.2) (D := fun (x : Int32 × s_G) => fM_tents_130_84 (Int32.ofNat n) z' (Int32.ofNat s) x.1 x.2) (fun k (x : Int32 × s_G) (y : Int32 × s_G) => x.1 = Int32.ofNat k ∧ y.1 = Int32.ofNat k ∧ (x.2.1 126 0 = 0 ∧ y.2.1 146 0 = Int32.ofNat n) ∧ (∀ k, 1 ≤ k → k < s → e_tn n (e_bc k) (x.2.1 126 k) (y.2.1 146 k)) ∧ ((x.2.1 126 s = 1048576 ∧ y.2.1 146 s = 100000 ∧ ∀ b, b < k → s.testBit b = false) ∨ e_tn n (e_bc s) (x.2.1 126 s) (y.2.1 146 s)) ∧ e_fx 126 126 g x.2 ∧ e_fx 146 146 G y.2) nb (x := (0, s_si g 126 s 1048576)) (y := (0, s_si G 146 s 100000)) (by
    intro k x y hk hI
    obtain ⟨x1, x2⟩ := x
    obtain ⟨y1, y2⟩ := y
    obtain ⟨h1, h2, h3, h4, h5, h6, h7⟩ := hI
    dsimp only at h1 h2 h3 h4 h5 h6 h7
    subst h1 h2
    have e0 : x2.1 3 0 = Int32.ofNat nb := by rw [h6.1 3 (by omega), hC.1.1, hH.1.2]
    have e1 : y2.1 132 = f := by rw [h7.1 132 (by omega), hf]
    obtain ⟨l1, l2⟩ := e_Ln_c hS (show k < 7 by omega)
    have lk := hL k hk
    unfold fA_countTents_122_3_17_70 fM_tents_130_84
    dsimp only
    rw [e0, e1, hH.1.2, if_pos (e_T hk (by omega)), if_pos (e_T hk (by omega)), e_hasS (by omega), s_b1_s, e_inc]
    simp only [e_bit (Int32.ofNat s) (show k < 32 by omega), e_g_of s (show k < 32 by omega)]
    by_cases hb : s.testBit k = true
    · have hcl := e_cl_lt hb
      have hbc := e_bc_cl hb (show k < 7 by omega)
      rw [if_pos hb, if_neg (by rw [e_bi_t hb]; decide), e_and1n (by omega), e_ix (by omega) (by omega), s_b1_s, e_ix (by omega) (by omega), s_b1_s, e_ix (show k < 7 by omega) (by omega), s_b1_s, s_b1_s, s_b1_s, e_loadOf (by omega), s_b1_s, e1, l1, h6.1 19 (by omega), hT.2.2.1 k (by omega), l1]
      have hsub : (x2.1 126 (e_cl s k) = 0 ∧ y2.1 146 (e_cl s k) = Int32.ofNat n) ∨ e_tn n (e_bc (e_cl s k)) (x2.1 126 (e_cl s k)) (y2.1 146 (e_cl s k)) := by
        by_cases hz : e_cl s k = 0
        · left; rw [hz]; exact h3
        · exact Or.inr (h4 _ (by omega) hcl)
      have hb7 : e_bc s ≤ 7 := e_cn_le _ _
      obtain ⟨xx, yy, w1, w2, w3⟩ := e_w1 (g := x2) (G := y2) hn lk (show e_bc (e_cl s k) ≤ 7 by omega) hsub
      rw [w1, s_b1_s, w2, s_b1_s, e_least, s_b1_s]
      have h5' : (x2.1 126 s = 1048576 ∧ y2.1 146 s = 100000) ∨ e_tn n (e_bc s) (x2.1 126 s) (y2.1 146 s) := by
        rcases h5 with ⟨a, b, _⟩ | h
        · exact Or.inl ⟨a, b⟩
        · exact Or.inr h
      refine ⟨_, _, rfl, rfl, rfl, rfl, ?_, ?_, Or.inr ?_, h6.tr (e_fx.si (by omega) (by omega)), h7.tr (e_fx.si (by omega) (by omega))⟩
      · dsimp only
        rw [e_sS, e_sS, e_vn _ _ (by omega), e_vn _ _ (by omega)]; exact h3
      · intro j hj1 hj2
        dsimp only
        rw [e_sS, e_sS, e_vn _ _ (by omega), e_vn _ _ (by omega)]; exact h4 j hj1 hj2
      · dsimp only
        rw [e_sS, e_sS, e_ve, e_ve]
        exact e_w2 hn (by omega) (by omega) h5' w3
    · rw [if_neg hb, if_pos (e_bi_f hb)]
      refine ⟨_, _, rfl, rfl, rfl, rfl, h3, h4, ?_, h6, h7⟩
      rcases h5 with ⟨a, b, c⟩ | h
      · refine Or.inl ⟨a, b, fun j hj => ?_⟩
        by_cases hjk : j = k
        · subst hjk; exact Bool.eq_false_iff.mpr hb
        · exact c j (by omega)
      · exact Or.inr h) ⟨rfl, rfl, by
        dsimp only
        rw [e_sS, e_sS, e_vn _ _ (by omega), e_vn _ _ (by omega)]; exact hp, by
        intro j hj1 hj2
        dsimp only
        rw [e_sS, e_sS, e_vn _ _ (by omega), e_vn _ _ (by omega)]; exact hq j hj1 hj2, Or.inl ⟨by dsimp only; rw [e_sS, e_ve], by dsimp only; rw [e_sS, e_ve], fun b hb => absurd hb (by omega)⟩, e_fx.si (by omega) (by omega), e_fx.si (by omega) (by omega)⟩
  obtain ⟨x1, x2⟩ := x'
  obtain ⟨y1, y2⟩ := y'
  dsimp only at h1 h2 h3 h4 h5 h6 h7
  subst h1 h2
  have e0 : x2.1 3 0 = Int32.ofNat nb := by rw [h6.1 3 (by omega), hC.1.1, hH.1.2]
  have e1 : y2.1 132 = f := by rw [h7.1 132 (by omega), hf]
  refine ⟨x2, y2, ?_, ?_, h3, ?_, h6, h7⟩
  · rw [h8]
    apply s_lp_out
    dsimp only
    unfold fA_countTents_122_3_17_70
    rw [e0, if_neg (e_F (Nat.le_refl nb) (by omega)), e_inc]
    rfl
  · rw [h9]
    apply s_lp_out
    dsimp only
    unfold fM_tents_130_84
    rw [e1, hH.1.2, if_neg (e_F (Nat.le_refl nb) (by omega)), e_inc]
    rfl
  · intro j hj1 hj2
    by_cases hjs : j = s
    · subst hjs
      rcases h5 with ⟨_, _, c⟩ | h
      · obtain ⟨b, hb1, hb2⟩ := e_bit_ex (show ¬ j = 0 by omega) hs
        rw [c b hb1] at hb2
        exact absurd hb2 (by decide)
      · exact h
    · exact h4 j hj1 (by omega)
theorem e_tents_J {g G : s_G} {nb ne n : Nat} {f : Nat → Int32} (hC : e_C3 nb ne g f) (hH : e_HW nb ne f) (hT : e_T17 g f) (hS : e_SW nb ne f) (hf : G.1 132 = f) (hn : n ≤ 400) : ∃ v g' G', fA_countTents_122_3_17 (Int32.ofNat n) g = some (v, g') ∧ s_lp (fun (x : Int32) => fM_tents_130_20 (Int32.ofNat n) x G) 0 = some (v, G') ∧ e_fx 126 126 g g' ∧ e_fx 146 146 G G' := by
  have hnb := hH.1.1
  have e0 : g.1 3 0 = Int32.ofNat nb := by rw [hC.1.1, hH.1.2]
  have hLn := fun b (hb : b < nb) => e_Ln_c hS (show b < 7 by omega)
  have hstep1 : ∀ k, k < nb → fA_countTents_122_3_17_3 (Int32.ofNat n) (Int32.ofNat k) g = if n < e_Ln f k then some (.inr (-1, g)) else some (.inl (Int32.ofNat (k + 1))) := by
    intro k hk
    obtain ⟨l1, l2⟩ := hLn k hk
    unfold fA_countTents_122_3_17_3
    rw [e0, if_pos (e_T hk (by omega)), e_ix (by omega) (by omega), s_b1_s, hT.2.2.1 k (by omega), l1, e_inc]
    simp (disch := omega) only [e_lt]
    rfl
  have hstep2 : ∀ k, k < nb → fM_tents_130_20 (Int32.ofNat n) (Int32.ofNat k) G = if n < e_Ln f k then some (.inr (-1, G)) else some (.inl (Int32.ofNat (k + 1))) := by
    intro k hk
    obtain ⟨l1, l2⟩ := hLn k hk
    unfold fM_tents_130_20
    rw [hf, hH.1.2, if_pos (e_T hk (by omega)), e_loadOf (by omega), s_b1_s, hf, l1, e_inc]
    simp (disch := omega) only [e_lt]
    rfl
  unfold fA_countTents_122_3_17
  by_cases hL : ∀ b, b < nb → e_Ln f b ≤ n
  · have r1 : s_lp (fun (x : Int32) => fA_countTents_122_3_17_3 (Int32.ofNat n) x g) 0 = s_lp (fun (x : Int32) => fA_countTents_122_3_17_3 (Int32.ofNat n) x g) (Int32.ofNat nb) := by
      refine e_seq (fun k => Int32.ofNat k) nb (fun k hk => ?_)
      have := hL k hk
      rw [hstep1 k hk, if_neg (by omega)]
    have r2 : s_lp (fun (x : Int32) => fM_tents_130_20 (Int32.ofNat n) x G) 0 = s_lp (fun (x : Int32) => fM_tents_130_20 (Int32.ofNat n) x G) (Int32.ofNat nb) := by
      refine e_seq (fun k => Int32.ofNat k) nb (fun k hk => ?_)
      have := hL k hk
      rw [hstep2 k hk, if_neg (by omega)]
    have hp1 : 1 ≤ 2 ^ nb := Nat.one_le_two_pow
    have hp7 : 2 ^ nb ≤ 2 ^ 7 := Nat.pow_le_pow_right (by omega) hnb
    obtain ⟨x', y', ⟨h1, h2, h3, h4, h6, h7⟩, h8, h9⟩ := e_lpJ (B := fun (x : Int32 × s_G) => fA_countTents_122_3_17_51 (Int32.ofNat n) (Int32.ofNat (2 ^ nb - 1)) x.1 x.2) (D := fun (x : Int32 × s_G) => fM_tents_130_67 (Int32.ofNat n) (Int32.ofNat (2 ^ nb - 1)) x.1 x.2) (fun k (x : Int32 × s_G) (y : Int32 × s_G) => x.1 = Int32.ofNat (k + 1) ∧ y.1 = Int32.ofNat (k + 1) ∧ (x.2.1 126 0 = 0 ∧ y.2.1 146 0 = Int32.ofNat n) ∧ (∀ j, 1 ≤ j → j < k + 1 → e_tn n (e_bc j) (x.2.1 126 j) (y.2.1 146 j)) ∧ e_fx 126 126 g x.2 ∧ e_fx 146 146 G y.2) (2 ^ nb - 1) (x := (1, s_si g 126 0 0)) (y := (1, s_si G 146 0 (Int32.ofNat n))) (by
      intro k x y hk hI
      obtain ⟨x1, x2⟩ := x
      obtain ⟨y1, y2⟩ := y
      obtain ⟨h1, h2, h3, h4, h6, h7⟩ := hI
      dsimp only at h1 h2 h3 h4 h6 h7
      subst h1 h2
      obtain ⟨g', G', a1, a2, a3, a4, a5, a6⟩ := e_tents_1 (g := x2) (G := y2) (s := k + 1) (z := Int32.ofNat (2 ^ nb - 1)) (z' := Int32.ofNat (2 ^ nb - 1)) (e_C3_cg hnb hH.2.1.1 hC (fun a ha => h6.1 a (by omega)) (fun _ _ => rfl)) hH (e_TA_cg (a := 17) hT (fun a _ _ => h6.1 a (by omega)) (fun _ _ _ => rfl)) hS (by rw [h7.1 132 (by omega), hf]) hn hL (by omega) (by omega) h3 h4
      refine ⟨(Int32.ofNat (k + 1 + 1), g'), (Int32.ofNat (k + 1 + 1), G'), ?_, ?_, rfl, rfl, a3, a4, h6.tr a5, h7.tr a6⟩
      · dsimp only
        unfold fA_countTents_122_3_17_51
        rw [if_neg (e_F (by omega) (by omega)), e_ix (by omega) (by omega), s_b1_s, a1]
      · dsimp only
        unfold fM_tents_130_67
        rw [if_neg (e_F (by omega) (by omega)), e_ix (by omega) (by omega), s_b1_s, a2]) ⟨rfl, rfl, ⟨by dsimp only; rw [e_sS, e_ve], by dsimp only; rw [e_sS, e_ve]⟩, fun j h1 h2 => absurd h2 (by omega), e_fx.si (by omega) (by omega), e_fx.si (by omega) (by omega)⟩
    obtain ⟨x1, x2⟩ := x'
    obtain ⟨y1, y2⟩ := y'
    dsimp only at h1 h2 h3 h4 h6 h7
    subst h1 h2
    have hv : ∃ v, (x2.1 126 (2 ^ nb - 1)) / 1024 = v ∧ (if Int32.ofNat (2 ^ nb - 1) = 0 then (0 : Int32) else (y2.1 146 (2 ^ nb - 1)) / 1000) = v := by
      by_cases hz : 2 ^ nb - 1 = 0
      · rw [hz, h3.1]
        exact ⟨0, by decide, if_pos rfl⟩
      · obtain ⟨t, l, b1, b2, b3, b4, b5⟩ := h4 (2 ^ nb - 1) (by omega) (by omega)
        have hb7 : e_bc (2 ^ nb - 1) ≤ 7 := e_cn_le _ _
        refine ⟨Int32.ofNat t, ?_, ?_⟩
        · rw [b4, show (1024 : Int32) = Int32.ofNat 1024 from rfl, e_divN (by omega) (by omega), show (1024 * t + l) / 1024 = t by omega]
        · rw [if_neg (show ¬ Int32.ofNat (2 ^ nb - 1) = 0 from fun h => hz (e_in (b := 0) (by omega) (by omega) h)), b5, show (1000 : Int32) = Int32.ofNat 1000 from rfl, e_divN (by omega) (by omega), show (1000 * t + l) / 1000 = t by omega]
    obtain ⟨v, v1, v2⟩ := hv
    refine ⟨v, x2, y2, ?_, ?_, h6, h7⟩
    · rw [r1, s_lp_out (r := (v, x2)) ?_]
      unfold fA_countTents_122_3_17_3
      rw [e0, if_neg (e_F (Nat.le_refl nb) (by omega)), e_all nb (by omega), s_b1_s, h8, s_lp_out (r := (v, x2)) ?_]
      · rfl
      · dsimp only
        unfold fA_countTents_122_3_17_51
        rw [if_pos (e_T (by omega) (by omega)), e_ix (by omega) (by omega), s_b1_s, v1]
        rfl
    · rw [r2, s_lp_out (r := (v, y2)) ?_]
      unfold fM_tents_130_20
      rw [hf, hH.1.2, if_neg (e_F (Nat.le_refl nb) (by omega)), e_all nb (by omega), s_b1_s, h9, s_lp_out (r := (v, y2)) ?_]
      · rfl
      · dsimp only
        unfold fM_tents_130_67
        rw [if_pos (e_T (by omega) (by omega)), e_ix (by omega) (by omega), s_b1_s, ← v2]
        split <;> rfl
  · refine ⟨-1, g, G, ?_, ?_, e_fx.rf _ _ _, e_fx.rf _ _ _⟩
    · obtain ⟨r, h1, h2⟩ := e_lpM (B := fun (x : Int32) => fA_countTents_122_3_17_3 (Int32.ofNat n) x g) (fun x => ∃ k, k ≤ nb ∧ x = Int32.ofNat k ∧ ∀ j, j < k → e_Ln f j ≤ n) (fun x => 1000 - x.toNatClampNeg) (fun r => r = (-1, g)) (by
        intro x hx
        obtain ⟨k, hk, rfl, hj⟩ := hx
        by_cases hq : k < nb
        · rw [hstep1 k hq]
          by_cases hb : n < e_Ln f k
          · rw [if_pos hb]; exact Or.inr ⟨_, rfl, rfl⟩
          · rw [if_neg hb]
            refine Or.inl ⟨_, rfl, ⟨k + 1, by omega, rfl, fun j hj1 => ?_⟩, by rw [e_nt (by omega), e_nt (by omega)]; omega⟩
            by_cases hjk : j = k
            · subst hjk; omega
            · exact hj j (by omega)
        · exact absurd (fun b hb => hj b (by omega)) hL) (x := 0) ⟨0, by omega, rfl, fun j hj => absurd hj (by omega)⟩
      rw [h1, h2]
    · obtain ⟨r, h1, h2⟩ := e_lpM (B := fun (x : Int32) => fM_tents_130_20 (Int32.ofNat n) x G) (fun x => ∃ k, k ≤ nb ∧ x = Int32.ofNat k ∧ ∀ j, j < k → e_Ln f j ≤ n) (fun x => 1000 - x.toNatClampNeg) (fun r => r = (-1, G)) (by
        intro x hx
        obtain ⟨k, hk, rfl, hj⟩ := hx
        by_cases hq : k < nb
        · rw [hstep2 k hq]
          by_cases hb : n < e_Ln f k
          · rw [if_pos hb]; exact Or.inr ⟨_, rfl, rfl⟩
          · rw [if_neg hb]
            refine Or.inl ⟨_, rfl, ⟨k + 1, by omega, rfl, fun j hj1 => ?_⟩, by rw [e_nt (by omega), e_nt (by omega)]; omega⟩
            by_cases hjk : j = k
            · subst hjk; omega
            · exact hj j (by omega)
        · exact absurd (fun b hb => hj b (by omega)) hL) (x := 0) ⟨0, by omega, rfl, fun j hj => absurd hj (by omega)⟩
      rw [h1, h2]
theorem k_tents {g : s_G} (h : e_I g) (x : Int32) : e_k1 (fC_tents_0 x g) (fM_tents_130 x) := by
  obtain ⟨hR, nb, ne, n, p, hs, hJ⟩ := id h
  obtain ⟨hH, hC, hT, hS⟩ := e_I.jc hJ
  unfold fC_tents_0
  by_cases h4 : ¬ x < 1 ∧ ¬ Int32.ofNat 400 < x
  · rw [if_neg h4.1, if_neg (show ¬ 400 < x from h4.2)]
    obtain ⟨m, hm1, hm2, rfl⟩ := e_rng1 (by omega) h4.1 h4.2
    obtain ⟨v, g1, _, a1, _, a3, _⟩ := e_tents_J (G := g) hC hH hT hS rfl hm2
    obtain ⟨v', g1', g2, b1, b2, b3, b4⟩ := e_tents_J (G := s_si g1 130 0 0) hC hH hT hS (by rw [e_sN (by omega), a3.1 132 (by omega)]) hm2
    rw [a1] at b1
    have hv : v' = v := (congrArg Prod.fst (Option.some.inj b1)).symm
    rw [hv] at b2
    refine ⟨v, g1, g2, by rw [a1, s_b2_s], ?_, ?_⟩
    · unfold fM_tents_130
      rw [show (400 : Int32) = Int32.ofNat 400 from rfl, e_isIn_1 (by omega), s_b1_s, e_bi_t h4, e_i1, b2]
    · have e130 : g2.1 130 = va_up (g.1 130) 0 0 := by rw [b4.1 130 (by omega), e_sS, a3.1 130 (by omega)]
      refine e_I_cg h (fun a ha => ?_) (by rw [e130]; exact e_f130.up (by omega)) (by rw [e130, e_vn _ _ (by omega)]) (b4.2.trans a3.2)
      have : ¬ a = 130 ∧ ¬ a = 126 ∧ ¬ a = 146 := by unfold e_kc e_rc at ha; omega
      rw [b4.1 a (by omega), e_sN this.1, a3.1 a (by omega)]
  · refine e_no h (-1) ?_ ?_
    · by_cases h5 : x < 1
      · rw [if_pos h5]
      · rw [if_neg h5, if_pos (show 400 < x from Classical.byContradiction (fun h6 => h4 ⟨h5, h6⟩))]
    · unfold fM_tents_130
      rw [show (400 : Int32) = Int32.ofNat 400 from rfl, e_isIn_1 (by omega), s_b1_s, e_bi_f h4, e_i0]
