-- SPREAD
theorem e_subI {x y : Nat} (hx : x < 1000000) (hy : y < 1000000) : (Int32.ofNat x - Int32.ofNat y).toInt = (x : Int) - (y : Int) := by
  rw [Int32.toInt_sub, Int32.toInt_ofNat_of_lt (by omega), Int32.toInt_ofNat_of_lt (by omega)]
  exact Int.bmod_eq_of_le (by omega) (by omega)
theorem e_sub_n {x y : Nat} (hx : x < 1000000) (hy : y < 1000000) : (Int32.ofNat x - Int32.ofNat y < 0) = (x < y) := by
  apply propext
  rw [Int32.lt_iff_toInt_lt, e_subI hx hy]
  show (x : Int) - y < 0 ↔ _
  omega
theorem e_sub_p {x y : Nat} (hx : x < 1000000) (hy : y < 1000000) : (0 < Int32.ofNat x - Int32.ofNat y) = (y < x) := by
  apply propext
  rw [Int32.lt_iff_toInt_lt, e_subI hx hy]
  show 0 < (x : Int) - y ↔ _
  omega
theorem e_sub_s {x y z : Nat} (h : y ≤ z) : Int32.ofNat x - (Int32.ofNat y - Int32.ofNat z) = Int32.ofNat (x + (z - y)) := by
  rw [Int32.ofNat_add, Int32.ofNat_sub _ _ h, Int32.sub_eq_add_neg, Int32.neg_sub]
def e_Ln (f : Nat → Int32) (b : Nat) : Nat := (e_ld f b).toNatClampNeg
def e_Bn (f : Nat → Int32) (b : Nat) : Nat := (f (10 + b)).toNatClampNeg
theorem e_Ln_c {nb ne b : Nat} {f : Nat → Int32} (hS : e_SW nb ne f) (hb : b < 7) : e_ld f b = Int32.ofNat (e_Ln f b) ∧ e_Ln f b ≤ 990 := by
  obtain ⟨L, h1, h2, _⟩ := e_ld_c hS hb
  unfold e_Ln
  rw [h2, e_nt (by omega)]
  exact ⟨rfl, h1⟩
theorem e_Bn_c {nb ne b : Nat} {f : Nat → Int32} (hH : e_HW nb ne f) (hb : b < nb) : f (10 + b) = Int32.ofNat (e_Bn f b) ∧ e_Bn f b ≤ 60 := by
  obtain ⟨L, h1, h2⟩ := hH.2.2.2.2.1 b hb
  unfold e_Bn
  rw [h2, e_nt (by omega)]
  exact ⟨rfl, h1⟩
def e_ovn (f : Nat → Int32) : Nat → Nat
  | 0 => 0
  | n + 1 => e_ovn f n + (e_Ln f n - e_Bn f n)
def e_rmn (f : Nat → Int32) : Nat → Nat
  | 0 => 0
  | n + 1 => e_rmn f n + (e_Bn f n - e_Ln f n)
def e_lfn (f : Nat → Int32) (o : Nat) : Nat → Nat
  | 0 => o
  | n + 1 => e_lfn f o n - min (e_lfn f o n) (e_Bn f n - e_Ln f n)
theorem e_lfn_s (f : Nat → Int32) (o n : Nat) : e_lfn f o (n + 1) = e_lfn f o n - min (e_lfn f o n) (e_Bn f n - e_Ln f n) := rfl
theorem e_ovn_c {nb ne : Nat} {f : Nat → Int32} (hH : e_HW nb ne f) (hS : e_SW nb ne f) : ∀ n, n ≤ nb → e_ovn f n ≤ 990 * n ∧ e_rmn f n ≤ 60 * n := by
  intro n
  induction n with
  | zero => intro _; exact ⟨Nat.le_refl _, Nat.le_refl _⟩
  | succ n ih =>
    intro hn
    have hb := hH.1.1
    obtain ⟨h1, h2⟩ := ih (by omega)
    have h3 := (e_Ln_c hS (show n < 7 by omega)).2
    have h4 := (e_Bn_c hH (show n < nb by omega)).2
    unfold e_ovn e_rmn
    omega
theorem e_lfn_c {f : Nat → Int32} {o : Nat} : ∀ n, e_lfn f o n ≤ o := by
  intro n
  induction n with
  | zero => exact Nat.le_refl _
  | succ n ih => unfold e_lfn; omega
theorem e_ov_n {nb ne b : Nat} {f : Nat → Int32} (hH : e_HW nb ne f) (hS : e_SW nb ne f) (hb : b < nb) : e_ov f b ↔ e_Bn f b < e_Ln f b := by
  have hn := hH.1.1
  obtain ⟨h1, h2⟩ := e_Ln_c hS (show b < 7 by omega)
  obtain ⟨h3, h4⟩ := e_Bn_c hH hb
  unfold e_ov
  rw [h1, h3, e_lt (by omega) (by omega)]
theorem e_findSpread {g : s_G} {nb ne : Nat} {f : Nat → Int32} (hC : e_C3 nb ne g f) (hH : e_HW nb ne f) (hT : e_T17 g f) (hS : e_SW nb ne f) : ∃ g', fC_spread_0 g = some (if e_rmn f nb < e_ovn f nb then -1 else Int32.ofNat (e_ovn f nb), g') ∧ (e_rmn f nb < e_ovn f nb → g' = g) ∧ (¬ e_rmn f nb < e_ovn f nb → (∀ j, j < nb → g'.1 124 j = Int32.ofNat (min (e_lfn f (e_ovn f nb) j) (e_Bn f j - e_Ln f j))) ∧ g'.1 122 = va_up (g.1 122) 3 (Int32.ofNat nb) ∧ e_fr (fun a => ¬ a = 122 ∧ ¬ a = 124) g g') := by
  have hn := hH.1.1
  have e0 : g.1 3 0 = Int32.ofNat nb := by rw [hC.1.1, hH.1.2]
  unfold fC_spread_0 fA_findSpread_122_3_17
  have hL := fun b (hb : b < 7) => e_Ln_c hS hb
  have hB := fun b (hb : b < nb) => e_Bn_c hH hb
  have h1 : s_lp (fun (x : Int32 × Int32 × Int32) => fA_findSpread_122_3_17_8 x.1 x.2.1 x.2.2 g) (0, 0, 0) = s_lp (fun (x : Int32 × Int32 × Int32) => fA_findSpread_122_3_17_8 x.1 x.2.1 x.2.2 g) (Int32.ofNat (e_ovn f nb), Int32.ofNat (e_rmn f nb), Int32.ofNat nb) := by
    refine e_seq (fun k => (Int32.ofNat (e_ovn f k), Int32.ofNat (e_rmn f k), Int32.ofNat k)) nb ?_
    intro k hk
    obtain ⟨l1, l2⟩ := hL k (by omega)
    obtain ⟨b1, b2⟩ := hB k hk
    obtain ⟨q1, q2⟩ := e_ovn_c hH hS k (by omega)
    dsimp only
    unfold fA_findSpread_122_3_17_8
    rw [e0, if_pos (e_T hk (by omega)), e_ix (by omega) (by omega), s_b1_s, hC.2.2.1 k hk, hT.2.2.1 k (by omega), l1, b1, e_inc]
    conv => rhs; unfold e_ovn e_rmn
    by_cases hq : e_Bn f k < e_Ln f k
    · rw [if_pos (by rw [e_sub_n (by omega) (by omega)]; exact hq), e_sub_s (by omega), show e_Bn f k - e_Ln f k = 0 by omega]
      rfl
    · rw [if_neg (by rw [e_sub_n (by omega) (by omega)]; exact hq), ← Int32.ofNat_sub _ _ (by omega), ← Int32.ofNat_add, show e_Ln f k - e_Bn f k = 0 by omega]
      rfl
  obtain ⟨q1, q2⟩ := e_ovn_c hH hS nb (by omega)
  by_cases hr : e_rmn f nb < e_ovn f nb
  · refine ⟨g, ?_, fun _ => rfl, fun h => absurd hr h⟩
    rw [h1, s_lp_out (r := (-1, g)) ?_, s_b2_s, if_pos hr]
    dsimp only
    unfold fA_findSpread_122_3_17_8
    rw [e0, if_neg (e_F (Nat.le_refl nb) (by omega)), if_pos (e_T hr (by omega))]
    rfl
  · obtain ⟨g4, f1, f2, f3⟩ : ∃ g4, fJ_fill_124 0 g = some g4 ∧ (∀ j, j < 7 → g4.1 124 j = 0) ∧ e_fx 124 124 g g4 := by
      unfold fJ_fill_124
      obtain ⟨y, ⟨h1, h2, h3⟩, h4⟩ := e_lpN (B := fun (x : Int32 × s_G) => fJ_fill_124_5 0 x.1 7 x.2) (fun k (x : Int32 × s_G) => x.1 = Int32.ofNat k ∧ (∀ j, j < k → x.2.1 124 j = 0) ∧ e_fx 124 124 g x.2) 7 (x := (0, g)) (by
        intro k x hk hx
        obtain ⟨x1, x2⟩ := x
        obtain ⟨h1, h2, h3⟩ := hx
        dsimp only at h1 h2 h3
        subst h1
        refine ⟨(Int32.ofNat (k + 1), s_si x2 124 k 0), ?_, rfl, ?_, h3.tr (e_fx.si (by omega) (by omega))⟩
        · unfold fJ_fill_124_5
          simp (disch := omega) only [e_7, e_lt, hk, ↓reduceIte, e_ix, s_b1_s, e_inc]
        · intro j hj
          dsimp only
          rw [e_sS]
          by_cases hq : j = k
          · subst hq; rw [e_ve]
          · rw [e_vn _ _ hq]; exact h2 j (by omega)) ⟨rfl, fun j hj => absurd hj (by omega), e_fx.rf _ _ _⟩
      obtain ⟨y1, y2⟩ := y
      dsimp only at h1 h2 h3
      subst h1
      exact ⟨y2, h4.trans (s_lp_out rfl), h2, h3⟩
    obtain ⟨w, ⟨w1, w2, w3, w4, w5⟩, w6⟩ := e_lpN (B := fun (x : Int32 × Int32 × s_G) => fA_findSpread_122_3_17_82 (Int32.ofNat (e_ovn f nb)) x.1 x.2.1 x.2.2) (fun k (w : Int32 × Int32 × s_G) => w.1 = Int32.ofNat (e_lfn f (e_ovn f nb) k) ∧ w.2.1 = Int32.ofNat k ∧ (∀ j, j < k → w.2.2.1 124 j = Int32.ofNat (min (e_lfn f (e_ovn f nb) j) (e_Bn f j - e_Ln f j))) ∧ (∀ j, k ≤ j → j < 7 → w.2.2.1 124 j = 0) ∧ e_fx 124 124 g w.2.2) nb (x := (Int32.ofNat (e_ovn f nb), 0, g4)) (by
      intro k w hk hw
      obtain ⟨w1, w2, w3⟩ := w
      obtain ⟨c1, c2, c3, c4, c5⟩ := hw
      dsimp only at c1 c2 c3 c4 c5
      subst c1 c2
      obtain ⟨l1, l2⟩ := hL k (by omega)
      obtain ⟨b1, b2⟩ := hB k hk
      have lc := e_lfn_c (f := f) (o := e_ovn f nb) k
      have C2 : e_C3 nb ne w3 f := e_C3_cg hn hH.2.1.1 hC (fun a ha => c5.1 a (by omega)) (fun _ _ => rfl)
      have T2 : e_T17 w3 f := e_TA_cg (a := 17) hT (fun a _ _ => c5.1 a (by omega)) (fun _ _ _ => rfl)
      unfold fA_findSpread_122_3_17_82
      dsimp only
      rw [c5.1 3 (by omega), e0, if_pos (e_T hk (by omega)), e_isOver_17 C2 hH T2 hk, s_b1_s]
      by_cases ho : e_ov f k
      · have ho' := (e_ov_n hH hS hk).mp ho
        rw [if_neg (by rw [e_bi_t ho]; decide), e_inc]
        refine ⟨_, rfl, ?_, rfl, ?_, fun j h1 h2 => c4 j (by omega) h2, c5⟩
        · dsimp only
          rw [e_lfn_s, show e_Bn f k - e_Ln f k = 0 by omega, Nat.min_zero, Nat.sub_zero]
        · intro j hj
          by_cases hq : j = k
          · subst hq
            rw [show e_Bn f j - e_Ln f j = 0 by omega, Nat.min_zero]
            exact c4 j (by omega) (by omega)
          · exact c3 j (by omega)
      · have ho' : ¬ e_Bn f k < e_Ln f k := fun h => ho ((e_ov_n hH hS hk).mpr h)
        rw [if_pos (e_bi_f ho), e_ix (by omega) (by omega), s_b1_s, s_b1_s, C2.2.2.1 k hk, T2.2.2.1 k (by omega), l1, b1, ← Int32.ofNat_sub _ _ (show e_Ln f k ≤ e_Bn f k by omega), e_inc]
        have e3 : (if Int32.ofNat (e_Bn f k - e_Ln f k) < Int32.ofNat (e_lfn f (e_ovn f nb) k) then Int32.ofNat (e_Bn f k - e_Ln f k) else Int32.ofNat (e_lfn f (e_ovn f nb) k)) = Int32.ofNat (min (e_lfn f (e_ovn f nb) k) (e_Bn f k - e_Ln f k)) := by
          by_cases hq : e_Bn f k - e_Ln f k < e_lfn f (e_ovn f nb) k
          · rw [if_pos (e_T hq (by omega)), Nat.min_eq_right (by omega)]
          · rw [if_neg (e_F (by omega) (by omega)), Nat.min_eq_left (by omega)]
        rw [e3, e_sS, e_ve, ← Int32.ofNat_sub _ _ (Nat.min_le_left _ _)]
        refine ⟨_, rfl, rfl, rfl, ?_, ?_, c5.tr (e_fx.si (by omega) (by omega))⟩
        · intro j hj
          dsimp only
          rw [e_sS]
          by_cases hq : j = k
          · subst hq; rw [e_ve]
          · rw [e_vn _ _ hq]; exact c3 j (by omega)
        · intro j h1 h2
          dsimp only
          rw [e_sS, e_vn _ _ (by omega)]; exact c4 j (by omega) h2) ⟨rfl, rfl, fun j hj => absurd hj (by omega), fun j _ h2 => f2 j h2, f3⟩
    obtain ⟨x1, x2, g5⟩ := w
    dsimp only at w1 w2 w3 w4 w5
    subst w1 w2
    refine ⟨s_si g5 122 3 (Int32.ofNat nb), ?_, fun h => absurd h hr, fun _ => ⟨?_, ?_, ?_⟩⟩
    · rw [h1, s_lp_out (r := (Int32.ofNat (e_ovn f nb), s_si g5 122 3 (Int32.ofNat nb))) ?_, s_b2_s, if_neg hr]
      dsimp only
      unfold fA_findSpread_122_3_17_8
      rw [e0, if_neg (e_F (Nat.le_refl nb) (by omega)), if_neg (e_F (by omega) (by omega)), f1, s_b1_s, w6, s_lp_out (r := (Int32.ofNat (e_ovn f nb), s_si g5 122 3 (Int32.ofNat nb))) ?_]
      · rfl
      · dsimp only
        unfold fA_findSpread_122_3_17_82
        rw [w5.1 3 (by omega), e0, if_neg (e_F (Nat.le_refl nb) (by omega))]
        rfl
    · intro j hj
      rw [e_sN (by omega)]; exact w3 j hj
    · rw [e_sS, w5.1 122 (by omega)]
    · refine ⟨fun a ha => ?_, w5.2⟩
      rw [e_sN ha.1]; exact w5.1 a (by omega)
theorem e_mSpread {g : s_G} {nb ne : Nat} {f : Nat → Int32} (hH : e_HW nb ne f) (hS : e_SW nb ne f) (hf : g.1 132 = f) : ∃ g', fM_spread_130 g = some (if e_rmn f nb < e_ovn f nb then -1 else Int32.ofNat (e_ovn f nb), g') ∧ (e_rmn f nb < e_ovn f nb → g' = s_si g 130 0 0) ∧ (¬ e_rmn f nb < e_ovn f nb → (∀ j, j < nb → g'.1 145 j = Int32.ofNat (min (e_lfn f (e_ovn f nb) j) (e_Bn f j - e_Ln f j))) ∧ g'.1 130 = va_up (va_up (va_up (g.1 130) 0 0) 30 (Int32.ofNat nb)) 31 1 ∧ e_fr (fun a => ¬ a = 130 ∧ ¬ a = 145) g g') := by
  have hn := hH.1.1
  unfold fM_spread_130
  generalize hG : s_si g 130 0 0 = G
  have G132 : G.1 132 = f := by rw [← hG, e_sN (by omega), hf]
  have G130 : G.1 130 = va_up (g.1 130) 0 0 := by rw [← hG, e_sS]
  have Gfr : e_fr (fun a => ¬ a = 130) g G := by rw [← hG]; exact ⟨fun a ha => e_sN ha, rfl⟩
  have e0 : G.1 132 0 = Int32.ofNat nb := by rw [G132, hH.1.2]
  have hL := fun b (hb : b < 7) => e_Ln_c hS hb
  have hB := fun b (hb : b < nb) => e_Bn_c hH hb
  have h1 : s_lp (fun (x : Int32 × Int32 × Int32) => fM_spread_130_11 x.1 x.2.1 x.2.2 G) (0, 0, 0) = s_lp (fun (x : Int32 × Int32 × Int32) => fM_spread_130_11 x.1 x.2.1 x.2.2 G) (Int32.ofNat (e_ovn f nb), Int32.ofNat (e_rmn f nb), Int32.ofNat nb) := by
    refine e_seq (fun k => (Int32.ofNat (e_ovn f k), Int32.ofNat (e_rmn f k), Int32.ofNat k)) nb ?_
    intro k hk
    obtain ⟨l1, l2⟩ := hL k (by omega)
    obtain ⟨b1, b2⟩ := hB k hk
    obtain ⟨q1, q2⟩ := e_ovn_c hH hS k (by omega)
    dsimp only
    unfold fM_spread_130_11
    rw [e0, if_pos (e_T hk (by omega)), e_loadOf (by omega), s_b1_s, G132, l1, show (10 : Int32) + Int32.ofNat k = Int32.ofNat (10 + k) by rw [Int32.ofNat_add]; rfl, e_ix (by omega) (by omega), s_b1_s, b1, e_inc]
    conv => rhs; unfold e_ovn e_rmn
    by_cases hq : e_Bn f k < e_Ln f k
    · rw [if_pos (by rw [e_sub_p (by omega) (by omega)]; exact hq), ← Int32.ofNat_sub _ _ (by omega), ← Int32.ofNat_add, show e_Bn f k - e_Ln f k = 0 by omega]
      rfl
    · rw [if_neg (by rw [e_sub_p (by omega) (by omega)]; exact hq), e_sub_s (by omega), show e_Ln f k - e_Bn f k = 0 by omega]
      rfl
  obtain ⟨q1, q2⟩ := e_ovn_c hH hS nb (by omega)
  by_cases hr : e_rmn f nb < e_ovn f nb
  · refine ⟨G, ?_, fun _ => rfl, fun h => absurd hr h⟩
    rw [h1, s_lp_out (r := (-1, G)) ?_, if_pos hr]
    dsimp only
    unfold fM_spread_130_11
    rw [e0, if_neg (e_F (Nat.le_refl nb) (by omega)), if_pos (e_T hr (by omega))]
    rfl
  · obtain ⟨w, ⟨w1, w2, w3, w5⟩, w6⟩ := e_lpN (B := fun (x : Int32 × Int32 × s_G) => fM_spread_130_74 (Int32.ofNat (e_ovn f nb)) x.1 x.2.1 x.2.2) (fun k (w : Int32 × Int32 × s_G) => w.1 = Int32.ofNat (e_lfn f (e_ovn f nb) k) ∧ w.2.1 = Int32.ofNat k ∧ (∀ j, j < k → w.2.2.1 145 j = Int32.ofNat (min (e_lfn f (e_ovn f nb) j) (e_Bn f j - e_Ln f j))) ∧ e_fx 145 145 G w.2.2) nb (x := (Int32.ofNat (e_ovn f nb), 0, G)) (by
      intro k w hk hw
      obtain ⟨w1, w2, w3⟩ := w
      obtain ⟨c1, c2, c3, c5⟩ := hw
      dsimp only at c1 c2 c3 c5
      subst c1 c2
      obtain ⟨l1, l2⟩ := hL k (by omega)
      obtain ⟨b1, b2⟩ := hB k hk
      have lc := e_lfn_c (f := f) (o := e_ovn f nb) k
      have e132 : w3.1 132 = f := by rw [c5.1 132 (by omega), G132]
      refine ⟨(Int32.ofNat (e_lfn f (e_ovn f nb) (k + 1)), Int32.ofNat (k + 1), s_si w3 145 k (Int32.ofNat (min (e_lfn f (e_ovn f nb) k) (e_Bn f k - e_Ln f k)))), ?_, rfl, rfl, ?_, c5.tr (e_fx.si (by omega) (by omega))⟩
      · unfold fM_spread_130_74 fM_spread_130_125
        dsimp only
        rw [e132, hH.1.2, if_pos (e_T hk (by omega)), e_isOver (by omega), s_b1_s, e132, show (10 : Int32) + Int32.ofNat k = Int32.ofNat (10 + k) by rw [Int32.ofNat_add]; rfl, e_ix (by omega) (by omega), s_b1_s, e_loadOf (by omega), s_b1_s, e132, l1, b1, e_least, s_b1_s, e_ix (by omega) (by omega), s_b1_s, s_b1_s, s_b1_s, s_b1_s, e_inc, e_sS, e_sS, e_ve, e_ve]
        rw [e_lfn_s]
        by_cases ho : e_ov f k
        · have ho' := (e_ov_n hH hS hk).mp ho
          rw [if_neg (by rw [e_bi_t ho]; decide), show e_Bn f k - e_Ln f k = 0 by omega, Nat.min_zero, Nat.sub_zero, Int32.sub_zero]
          rfl
        · have ho' : ¬ e_Bn f k < e_Ln f k := fun h => ho ((e_ov_n hH hS hk).mpr h)
          have e3 : (if Int32.ofNat (e_lfn f (e_ovn f nb) k) < Int32.ofNat (e_Bn f k - e_Ln f k) then Int32.ofNat (e_lfn f (e_ovn f nb) k) else Int32.ofNat (e_Bn f k - e_Ln f k)) = Int32.ofNat (min (e_lfn f (e_ovn f nb) k) (e_Bn f k - e_Ln f k)) := by
            by_cases hq : e_lfn f (e_ovn f nb) k < e_Bn f k - e_Ln f k
            · rw [if_pos (e_T hq (by omega)), Nat.min_eq_left (by omega)]
            · rw [if_neg (e_F (by omega) (by omega)), Nat.min_eq_right (by omega)]
          rw [if_pos (e_bi_f ho), ← Int32.ofNat_sub _ _ (show e_Ln f k ≤ e_Bn f k by omega), e3, ← Int32.ofNat_sub _ _ (Nat.min_le_left _ _)]
      · intro j hj
        dsimp only
        rw [e_sS]
        by_cases hq : j = k
        · subst hq; rw [e_ve]
        · rw [e_vn _ _ hq]; exact c3 j (by omega)) ⟨rfl, rfl, fun j hj => absurd hj (by omega), e_fx.rf _ _ _⟩
    obtain ⟨x1, x2, g5⟩ := w
    dsimp only at w1 w2 w3 w5
    subst w1 w2
    have g5' : g5.1 132 0 = Int32.ofNat nb := by rw [w5.1 132 (by omega), e0]
    refine ⟨s_si (s_si g5 130 30 (Int32.ofNat nb)) 130 31 1, ?_, fun h => absurd h hr, fun _ => ⟨?_, ?_, ?_⟩⟩
    · rw [h1, s_lp_out (r := (Int32.ofNat (e_ovn f nb), s_si (s_si g5 130 30 (Int32.ofNat nb)) 130 31 1)) ?_, if_neg hr]
      dsimp only
      unfold fM_spread_130_11
      rw [e0, if_neg (e_F (Nat.le_refl nb) (by omega)), if_neg (e_F (by omega) (by omega)), w6, s_lp_out (r := (Int32.ofNat (e_ovn f nb), s_si (s_si g5 130 30 (Int32.ofNat nb)) 130 31 1)) ?_]
      · rfl
      · dsimp only
        unfold fM_spread_130_74
        rw [g5', if_neg (e_F (Nat.le_refl nb) (by omega))]
        rfl
    · intro j hj
      rw [e_sN (by omega), e_sN (by omega)]; exact w3 j hj
    · rw [e_sS, e_sS, w5.1 130 (by omega), G130]
    · refine ⟨fun a ha => ?_, w5.2.trans Gfr.2⟩
      rw [e_sN ha.1, e_sN ha.1, w5.1 a (by omega), Gfr.1 a ha.1]
theorem k_spread {g : s_G} (h : e_I g) : e_k1 (fC_spread_0 g) fM_spread_130 := by
  obtain ⟨hR, nb, ne, n, p, hs, hJ⟩ := id h
  obtain ⟨hH, hC, hT, hS⟩ := e_I.jc hJ
  have hn := hH.1.1
  obtain ⟨g1, a1, a2, a3⟩ := e_findSpread hC hH hT hS
  by_cases hr : e_rmn (g.1 132) nb < e_ovn (g.1 132) nb
  · obtain ⟨g2, b1, b2, b3⟩ := e_mSpread (g := g) hH hS rfl
    refine ⟨_, g1, g2, a1, by rw [a2 hr, b1], ?_⟩
    rw [b2 hr]
    exact e_I_0 h 0
  · obtain ⟨a3, a4, a5⟩ := a3 hr
    obtain ⟨g2, b1, b2, b3⟩ := e_mSpread (g := g1) hH hS (a5.1 132 (by omega))
    obtain ⟨b3, b4, b5⟩ := b3 hr
    refine ⟨_, g1, g2, a1, b1, ?_⟩
    have q : ∀ a, ¬ a = 122 ∧ ¬ a = 124 ∧ ¬ a = 130 ∧ ¬ a = 145 → g2.1 a = g.1 a := fun a ha => by rw [b5.1 a ⟨ha.2.2.1, ha.2.2.2⟩, a5.1 a ⟨ha.1, ha.2.1⟩]
    have o0 : ∀ k, k < 1000 → g2.1 0 k = g.1 0 k := fun k _ => by rw [q 0 (by omega)]
    have o1 : ∀ k, k < 1000 → g2.1 1 k = g.1 1 k := fun k _ => by rw [q 1 (by omega)]
    have o122 : ∀ k, ¬ k = 3 → g2.1 122 k = g.1 122 k := fun k hk => by rw [b5.1 122 (by omega), a4, e_vn _ _ hk]
    have o130 : ∀ k, ¬ k = 0 ∧ ¬ k = 30 ∧ ¬ k = 31 → g2.1 130 k = g.1 130 k := fun k hk => by rw [b4, e_vn _ _ hk.2.2, e_vn _ _ hk.2.1, e_vn _ _ hk.1, a5.1 130 (by omega)]
    have h2 : g2.2 = g.2 := b5.2.trans a5.2
    have hl : e_lr g g2 := e_lr.of h2
    refine ⟨?_, nb, ne, n, p, hs, e_J_cg hJ (fun a ha => q a (by omega)) (o130 25 (by omega)) h2⟩
    refine ⟨⟨?_, ?_⟩, ⟨?_, ?_, ?_⟩, ⟨?_, ?_, ?_⟩, ⟨?_, ?_⟩, ?_⟩
    · rw [o1 1 (by omega), q 2 (by omega), q 131 (by omega), o130 2 (by omega)]; exact hR.1.1
    · rw [o0 1 (by omega), o130 10 (by omega)]; exact hR.1.2
    · rw [o122 1 (by omega), q 123 (by omega), q 144 (by omega), o130 28 (by omega)]; exact hR.2.1.1
    · refine Or.inr ⟨by rw [b4, e_ve]; decide, nb, hn, ?_, ?_, ?_⟩
      · rw [b5.1 122 (by omega), a4, e_ve]
      · rw [b4, e_vn _ _ (by omega), e_ve]
      · intro k hk
        rw [b5.1 124 (by omega), a3 k hk, b3 k hk]
    · rw [o122 4 (by omega), o130 32 (by omega)]; exact hR.2.1.2.2
    · rw [q 127 (by omega), o130 34 (by omega)]; exact hR.2.2.1.1
    · rw [o0 15 (by omega), q 129 (by omega), q 148 (by omega), o130 37 (by omega)]; exact hR.2.2.1.2.1
    · rw [q 37 (by omega), q 150 (by omega), o130 42 (by omega)]; exact hR.2.2.1.2.2
    · exact e_im_cg hR.2.2.2.1.1 (by omega) (fun a _ _ => q a (by omega)) (q 134 (by omega)) (q 140 (by omega)) hl.1.1 hl.1.2.2 hl.2.1
    · exact e_im_cg hR.2.2.2.1.2 (by omega) (fun a _ _ => q a (by omega)) (q 134 (by omega)) (q 140 (by omega)) hl.1.2.1 hl.1.2.2 hl.2.2.1
    · rw [hl.2.2.2]; exact hR.2.2.2.2
