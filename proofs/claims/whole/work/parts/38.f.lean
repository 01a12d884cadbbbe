-- BOOK: judged
def t_jC (X Y : s_G) : Prop := (∀ a, ¬ a = 37 ∧ (a < 22 ∨ 26 < a) → Y.1 a = X.1 a) ∧ (∀ k, ¬ k = 7 ∧ ¬ k = 8 → Y.1 37 k = X.1 37 k) ∧ Y.2 = X.2
theorem t_jC.rf (X : s_G) : t_jC X X := ⟨fun _ _ => rfl, fun _ _ => rfl, rfl⟩
theorem t_jC.tr {X Y Z : s_G} (h1 : t_jC X Y) (h2 : t_jC Y Z) : t_jC X Z := ⟨fun a ha => (h2.1 a ha).trans (h1.1 a ha), fun k hk => (h2.2.1 k hk).trans (h1.2.1 k hk), h2.2.2.trans h1.2.2⟩
theorem t_jC.fx {X Y : s_G} (h : e_fx 22 26 X Y) : t_jC X Y := ⟨fun a ha => h.1 a (by omega), fun k _ => by rw [h.1 37 (by omega)], h.2⟩
theorem t_jC.si {X : s_G} {k : Nat} {v : Int32} (h : k = 7 ∨ k = 8) : t_jC X (s_si X 37 k v) := ⟨fun a ha => e_sN ha.1, fun j hj => by rw [e_sS, e_vn _ _ (by omega)], rfl⟩
theorem t_T22_7 {X : s_G} {f : Nat → Int32} {k : Nat} {v : Int32} (h : e_T22 X f) : e_T22 (s_si X 37 k v) f := by
  unfold e_T22
  rw [e_sN (by omega), e_sN (by omega), e_sN (by omega), e_sN (by omega), e_sN (by omega)]
  exact h
theorem t_judge {nb ne lc : Nat} {x1 : Int32} (hlc : lc ≤ 40) : ∀ (r i : Nat) (f : Nat → Int32) (Y G : s_G), i + r = lc → Y.1 37 5 = Int32.ofNat lc → Y.1 37 7 = 0 → Y.1 37 8 = Int32.ofNat i → (∀ j, j < lc → t_b1 nb ne j (Y.1 38) (Y.1 39) (Y.1 40) (Y.1 41) (Y.1 42) (G.1 149)) → e_HW nb ne f → e_SW nb ne f → e_C3 nb ne Y f → e_T22 Y f → G.1 132 = f → G.1 130 41 = Int32.ofNat lc →
    ∃ K W fe Ye Ge, K ≤ lc ∧ (∀ R, fB_judge_37_22_69 Ye = some R → s_lp (fun (x : Int32 × s_G) => fB_judge_37_22_12 x.1 x.2) (Int32.ofNat i, Y) = some R) ∧ (∀ R, fM_book_130_103 x1 (Int32.ofNat K) W Ge = some R → s_lp (fun (x : Int32 × Int32 × s_G) => fM_book_130_73 x1 x.1 x.2.1 x.2.2) (Int32.ofNat i, 0, G) = some R) ∧ Ye.1 37 7 = W ∧ Ye.1 37 8 = Int32.ofNat K ∧ e_T22 Ye fe ∧ Ge.1 132 = fe ∧ e_so f fe ∧ e_SW nb ne fe ∧ t_jC Y Ye ∧ e_fx 132 132 G Ge := by
  intro r
  induction r with
  | zero =>
    intro i f Y G hir h5 h7 h8 hL hH hS hC hT hG hM
    have hil : i = lc := by omega
    subst hil
    refine ⟨i, 0, f, Y, G, Nat.le_refl _, fun R hR => s_lp_out ?_, fun R hR => s_lp_out ?_, h7, h8, hT, hG, e_so.rf f, hS, t_jC.rf Y, e_fx.rf _ _ _⟩
    · dsimp only
      unfold fB_judge_37_22_12
      rw [h5, if_neg (e_F (Nat.le_refl i) (by omega)), hR]; rfl
    · dsimp only
      unfold fM_book_130_73
      rw [hM, if_neg (e_F (Nat.le_refl i) (by omega)), hR]; rfl
  | succ r ih =>
    intro i f Y G hir h5 h7 h8 hL hH hS hC hT hG hM
    have hn := hH.1.1
    have hm := hH.2.1.1
    obtain ⟨u, w, f', Y1, G1, hu, hw, r8, a1, a2, a3, a4, a5, a6⟩ := t_goBy (i := i) (by omega) (hL i (by omega)) hH hS hC hT hG
    have sC : fB_judge_37_22_12 (Int32.ofNat i) Y = if Int32.ofNat u = 0 then (some (.inl (Int32.ofNat (i + 1), (s_si Y1 37 8 ((Y1.1 37 8) + (1 : Int32)))))) else some (.inl (Int32.ofNat (i + 1), (s_si Y1 37 7 ((Y1.1 38 i) + Int32.ofNat u)))) := by
      unfold fB_judge_37_22_12
      rw [h5, if_pos (e_T (show i < lc by omega) (by omega)), h7, if_pos rfl, a1, s_b2_s, e_ix (show i < 40 by omega) (by omega), s_b1_s, e_inc]
    have sM : fM_book_130_73 x1 (Int32.ofNat i) 0 G = s_b2 (fM_goBy_130 (Int32.ofNat (5 * i)) G) fun v5 g4 => if v5 = 0 then (some (.inl (Int32.ofNat (i + 1), v5, g4))) else some (.inl (Int32.ofNat i, v5, g4)) := by
      unfold fM_book_130_73
      rw [hM, if_pos (e_T (show i < lc by omega) (by omega)), if_pos rfl, show (5 : Int32) * Int32.ofNat i = Int32.ofNat (5 * i) from by rw [Int32.ofNat_mul]; rfl, e_inc]
    by_cases hu0 : u = 0
    · subst hu0
      obtain ⟨b1, b2, b3, b4⟩ := a5 rfl
      rw [if_pos (show Int32.ofNat 0 = 0 from rfl)] at sC
      rw [if_pos rfl] at a2
      rw [a2, s_b2_s, if_pos rfl] at sM
      have y8 : Y1.1 37 8 + 1 = Int32.ofNat (i + 1) := by rw [a3.1 37 (by omega), h8, e_inc]
      rw [y8] at sC
      have hH' : e_HW nb ne f' := e_HW_cg hH (fun k hk => b3 k (by omega))
      have fr : ∀ a, ¬ a = 37 ∧ (a < 22 ∨ 26 < a) → (s_si Y1 37 8 (Int32.ofNat (i + 1))).1 a = Y.1 a := fun a ha => by rw [e_sN ha.1, a3.1 a (by omega)]
      obtain ⟨K, W, fe, Ye, Ge, c1, c2, c3, c4, c5, c6, c7, c8, c9, c10, c11⟩ := ih (i + 1) f' (s_si Y1 37 8 (Int32.ofNat (i + 1))) G1 (by omega) (by rw [e_sS, e_vn _ _ (by omega), a3.1 37 (by omega)]; exact h5) (by rw [e_sS, e_vn _ _ (by omega), a3.1 37 (by omega)]; exact h7) (by rw [e_sS, e_ve]) (fun j hj => by
          rw [fr 38 (by omega), fr 39 (by omega), fr 40 (by omega), fr 41 (by omega), fr 42 (by omega), a4.1 149 (by omega)]; exact hL j hj) hH' b4 (e_C3_cg hn hm hC (fun a ha => fr a (by omega)) (fun k hk => b3 k (by omega))) (t_T22_7 b1) b2 (by rw [a4.1 130 (by omega)]; exact hM)
      exact ⟨K, W, fe, Ye, Ge, c1, fun R hR => (s_lp_in sC).trans (c2 R hR), fun R hR => (s_lp_in sM).trans (c3 R hR), c4, c5, c6, c7, b3.tr c8, c9, ((t_jC.fx a3).tr (t_jC.si (by omega))).tr c10, a4.tr c11⟩
    · have hY := a6 hu0
      subst hY
      rw [if_neg (show ¬ Int32.ofNat u = 0 from fun hh => hu0 (e_in (b := 0) (by omega) (by omega) hh)), r8, ← Int32.ofNat_add] at sC
      rw [if_neg hu0, ← Int32.ofNat_add] at a2
      have hne : ¬ Int32.ofNat (10 * w + u) = 0 := fun hh => by have := e_in (b := 0) (by omega) (by omega) hh; omega
      rw [a2, s_b2_s, if_neg hne] at sM
      refine ⟨i, Int32.ofNat (10 * w + u), f, s_si Y1 37 7 (Int32.ofNat (10 * w + u)), G, by omega, fun R hR => (s_lp_in sC).trans (s_lp_out ?_), fun R hR => (s_lp_in sM).trans (s_lp_out ?_), by rw [e_sS, e_ve], by rw [e_sS, e_vn _ _ (by omega)]; exact h8, t_T22_7 hT, hG, e_so.rf f, hS, t_jC.si (by omega), e_fx.rf _ _ _⟩
      · dsimp only
        unfold fB_judge_37_22_12
        rw [show (s_si Y1 37 7 (Int32.ofNat (10 * w + u))).1 37 7 = Int32.ofNat (10 * w + u) from by rw [e_sS, e_ve], if_neg hne, hR]
        split <;> rfl
      · dsimp only
        unfold fM_book_130_73
        rw [if_neg hne, hR]
        split <;> rfl
-- what stays, or goes
theorem t_swap {G : s_G} {f fe : Nat → Int32} {x1 : Int32} (h1 : ∀ k, k < 86 → G.1 136 k = f (47 + k)) (h2 : G.1 132 = fe) (hso : e_so f fe) : ∃ S, S.1 132 = f ∧ (∀ k, k < 86 → S.1 136 k = fe (47 + k)) ∧ (∀ a, ¬ a = 132 ∧ ¬ a = 136 → S.1 a = G.1 a) ∧ S.2 = G.2 ∧ ∀ R, (if x1 = 0 then (some S) else s_b1 (fM_snap_130 S) fun g7 => s_b1 (fM_takeBack_130 g7) fun g8 => some g8) = some R → fM_stay_130 x1 G = some R := by
  obtain ⟨⟨i, Y⟩, ⟨i1, i2, i3, i4, i5⟩, hlp⟩ := e_lpN (B := fun (y : Int32 × s_G) => fM_stay_130_2 x1 y.1 y.2) (fun k (y : Int32 × s_G) => y.1 = Int32.ofNat k ∧ (∀ j, y.2.1 132 j = if 47 ≤ j ∧ j < 47 + k then f j else fe j) ∧ (∀ j, j < 86 → y.2.1 136 j = if j < k then fe (47 + j) else f (47 + j)) ∧ (∀ a, ¬ a = 132 ∧ ¬ a = 136 → y.2.1 a = G.1 a) ∧ y.2.2 = G.2) 86 (x := (0, G)) (by
    intro k y hk hy
    obtain ⟨i, Y⟩ := y
    obtain ⟨i1, i2, i3, i4, i5⟩ := hy
    dsimp only at i1 i2 i3 i4 i5
    subst i1
    have v1 : Y.1 132 (47 + k) = fe (47 + k) := by rw [i2, if_neg (by omega)]
    have v2 : Y.1 136 k = f (47 + k) := by rw [i3 k hk, if_neg (by omega)]
    refine ⟨(Int32.ofNat (k + 1), s_si (s_si Y 132 (47 + k) (f (47 + k))) 136 k (fe (47 + k))), ?_, rfl, ?_, ?_, ?_, i5⟩
    · unfold fM_stay_130_2
      rw [if_pos (show Int32.ofNat k < 86 from e_T (b := 86) hk (by omega)), show (47 : Int32) + Int32.ofNat k = Int32.ofNat (47 + k) from by rw [Int32.ofNat_add]; rfl, e_ix (show 47 + k < 375 by omega) (by omega), s_b1_s, e_ix hk (by omega), s_b1_s, e_inc, v1, v2]
    · intro j
      dsimp only
      rw [e_sN (by omega), e_sS]
      by_cases hq : j = 47 + k
      · subst hq; rw [e_ve, if_pos (by omega)]
      · rw [e_vn _ _ hq, i2]
        by_cases hj : 47 ≤ j ∧ j < 47 + k
        · rw [if_pos hj, if_pos (by omega)]
        · rw [if_neg hj, if_neg (by omega)]
    · intro j hj
      dsimp only
      rw [e_sS]
      by_cases hq : j = k
      · subst hq; rw [e_ve, if_pos (by omega)]
      · rw [e_vn _ _ hq, e_sN (by omega), i3 j hj]
        by_cases hj2 : j < k
        · rw [if_pos hj2, if_pos (by omega)]
        · rw [if_neg hj2, if_neg (by omega)]
    · intro a ha
      dsimp only
      rw [e_sN ha.2, e_sN ha.1]; exact i4 a ha) ⟨rfl, fun j => by rw [if_neg (by omega), h2], fun j hj => by rw [if_neg (by omega)]; exact h1 j hj, fun _ _ => rfl, rfl⟩
  dsimp only at i1 i2 i3 i4 i5
  subst i1
  refine ⟨Y, ?_, fun k hk => by rw [i3 k hk, if_pos hk], i4, i5, fun R hR => ?_⟩
  · funext j
    rw [i2]
    by_cases hj : 47 ≤ j ∧ j < 47 + 86
    · rw [if_pos hj]
    · rw [if_neg hj]; exact hso j (by omega)
  · unfold fM_stay_130
    rw [hlp]
    apply s_lp_out
    dsimp only
    unfold fM_stay_130_2
    rw [if_neg (by decide), hR]
    rfl
