-- CAMP: how a text begins
theorem t_begin {N m : Nat} {C M : s_G} (hm : m ≤ 900) (hN : N ≤ 940) (h1 : C.1 1 1 = Int32.ofNat N) (h2 : M.1 130 2 = Int32.ofNat N) (hby : e_by (C.1 2) (M.1 131)) : ∃ C' M' t a p, fQ_startText_1 (Int32.ofNat m) C = some C' ∧ fM_begin_130 (Int32.ofNat m) M = some M' ∧ t_P N m t a p C' M' ∧ t_wC C C' ∧ t_wM (s_si M 130 0 0) M' := by
  generalize hX : s_si (s_si (s_si (s_si (s_si (s_si C 1 2 (C.1 1 1)) 1 1 (0 : Int32)) 1 3 (Int32.ofNat m)) 1 4 (0 : Int32)) 1 10 (0 : Int32)) 1 11 (0 : Int32) = X
  generalize hY : s_si (s_si (s_si (s_si (s_si (s_si M 130 0 0) 130 2 0) 130 3 (Int32.ofNat N)) 130 4 (Int32.ofNat m)) 130 10 (0 : Int32)) 130 5 (0 : Int32) = Y
  have wX : t_wC C X := by
    rw [← hX]
    intro a ha
    refine ⟨?_, rfl, rfl⟩
    rw [e_sN ha, e_sN ha, e_sN ha, e_sN ha, e_sN ha, e_sN ha]
  have wY : t_wM (s_si M 130 0 0) Y := by
    rw [← hY]
    refine ⟨fun a ha => ⟨?_, rfl⟩, rfl, fun k hk => ?_⟩
    · rw [e_sN ha, e_sN ha, e_sN ha, e_sN ha, e_sN ha]
    · simp (disch := omega) only [e_sS, e_vn]
  have fX : ∀ k, X.1 1 k = va_up (va_up (va_up (va_up (va_up (va_up (C.1 1) 2 (Int32.ofNat N)) 1 0) 3 (Int32.ofNat m)) 4 0) 10 0) 11 0 k := by
    intro k
    rw [← hX, e_sS, e_sS, e_sS, e_sS, e_sS, e_sS, h1]
  have fY : ∀ k, Y.1 130 k = va_up (va_up (va_up (va_up (va_up (va_up (M.1 130) 0 0) 2 0) 3 (Int32.ofNat N)) 4 (Int32.ofNat m)) 10 0) 5 0 k := by
    intro k
    rw [← hY, e_sS, e_sS, e_sS, e_sS, e_sS, e_sS]
  have hB : t_B N m X Y := by
    refine ⟨⟨hN, hm⟩, ?_, ⟨?_, ?_⟩, ⟨?_, ?_⟩, ⟨?_, ?_⟩, ?_, ?_⟩
    · rw [(wX 2 (by omega)).1, (wY.1 131 (by omega)).1, e_sN (by omega)]; exact hby
    · rw [fX]; simp (disch := omega) only [e_vn, e_ve]
    · rw [fY]; simp (disch := omega) only [e_vn, e_ve]
    · rw [fX]; simp (disch := omega) only [e_vn, e_ve]
    · rw [fY]; simp (disch := omega) only [e_vn, e_ve]
    · rw [fX]; simp (disch := omega) only [e_vn, e_ve]
    · rw [fY]; simp (disch := omega) only [e_vn, e_ve]
    · rw [fX]; simp (disch := omega) only [e_vn, e_ve]
    · rw [fY]; simp (disch := omega) only [e_vn, e_ve]
  obtain ⟨C', M', t, a, p, x1, x2, x3, -, x5, x6⟩ := t_next0 (p := 0) hB (by rw [fX]; simp (disch := omega) only [e_vn, e_ve]; rfl) (by rw [fY]; simp (disch := omega) only [e_ve]; rfl) (by omega)
  refine ⟨C', M', t, a, p, ?_, ?_, x3, wX.tr x5.w, wY.tr x6.w⟩
  · unfold fQ_startText_1
    rw [hX, x1, s_b1_s]
  · unfold fM_begin_130 fM_take_130
    rw [s_b2_s, show (s_si M 130 0 0).1 130 2 = Int32.ofNat N from by rw [e_sS, e_vn _ _ (by omega), h2], hY, x2, s_b1_s]
theorem t_fill_16 (x : Int32) (C : s_G) : ∃ C', fJ_fill_16 x C = some C' ∧ (∀ k, k < 4 → C'.1 16 k = x) ∧ e_fx 16 16 C C' := by
  obtain ⟨⟨i, Y⟩, ⟨h1, h2, h3⟩, hlp⟩ := e_lpN (B := fun (y : Int32 × s_G) => fJ_fill_16_5 x y.1 4 y.2) (fun k (y : Int32 × s_G) => y.1 = Int32.ofNat k ∧ (∀ j, j < k → y.2.1 16 j = x) ∧ e_fx 16 16 C y.2) 4 (x := (0, C)) (by
    intro k y hk hy
    obtain ⟨i, Y⟩ := y
    obtain ⟨h1, h2, h3⟩ := hy
    dsimp only at h1 h2 h3
    subst h1
    refine ⟨(Int32.ofNat (k + 1), s_si Y 16 k x), ?_, rfl, ?_, h3.tr (e_fx.si (by omega) (by omega))⟩
    · unfold fJ_fill_16_5
      rw [if_pos (show Int32.ofNat k < 4 from e_T (b := 4) hk (by omega)), e_ix hk (by omega), s_b1_s, e_inc]
    · intro j hj
      dsimp only
      rw [e_sS]
      by_cases hq : j = k
      · subst hq; rw [e_ve]
      · rw [e_vn _ _ hq]; exact h2 j (by omega)) ⟨rfl, fun j hj => absurd hj (by omega), e_fx.rf _ _ _⟩
  dsimp only at h1 h2 h3
  subst h1
  refine ⟨Y, ?_, h2, h3⟩
  unfold fJ_fill_16
  rw [hlp]
  apply s_lp_out
  dsimp only
  unfold fJ_fill_16_5
  rw [if_neg (by decide)]
  rfl
theorem t_fill_18 (x : Int32) (C : s_G) : ∃ C', fJ_fill_18 x C = some C' ∧ (∀ k, k < 70 → C'.1 18 k = x) ∧ e_fx 18 18 C C' := by
  obtain ⟨⟨i, Y⟩, ⟨h1, h2, h3⟩, hlp⟩ := e_lpN (B := fun (y : Int32 × s_G) => fJ_fill_18_5 x y.1 70 y.2) (fun k (y : Int32 × s_G) => y.1 = Int32.ofNat k ∧ (∀ j, j < k → y.2.1 18 j = x) ∧ e_fx 18 18 C y.2) 70 (x := (0, C)) (by
    intro k y hk hy
    obtain ⟨i, Y⟩ := y
    obtain ⟨h1, h2, h3⟩ := hy
    dsimp only at h1 h2 h3
    subst h1
    refine ⟨(Int32.ofNat (k + 1), s_si Y 18 k x), ?_, rfl, ?_, h3.tr (e_fx.si (by omega) (by omega))⟩
    · unfold fJ_fill_18_5
      rw [if_pos (show Int32.ofNat k < 70 from e_T (b := 70) hk (by omega)), e_ix hk (by omega), s_b1_s, e_inc]
    · intro j hj
      dsimp only
      rw [e_sS]
      by_cases hq : j = k
      · subst hq; rw [e_ve]
      · rw [e_vn _ _ hq]; exact h2 j (by omega)) ⟨rfl, fun j hj => absurd hj (by omega), e_fx.rf _ _ _⟩
  dsimp only at h1 h2 h3
  subst h1
  refine ⟨Y, ?_, h2, h3⟩
  unfold fJ_fill_18
  rw [hlp]
  apply s_lp_out
  dsimp only
  unfold fJ_fill_18_5
  rw [if_neg (by decide)]
  rfl
theorem t_fill_19 (x : Int32) (C : s_G) : ∃ C', fJ_fill_19 x C = some C' ∧ (∀ k, k < 7 → C'.1 19 k = x) ∧ e_fx 19 19 C C' := by
  obtain ⟨⟨i, Y⟩, ⟨h1, h2, h3⟩, hlp⟩ := e_lpN (B := fun (y : Int32 × s_G) => fJ_fill_19_5 x y.1 7 y.2) (fun k (y : Int32 × s_G) => y.1 = Int32.ofNat k ∧ (∀ j, j < k → y.2.1 19 j = x) ∧ e_fx 19 19 C y.2) 7 (x := (0, C)) (by
    intro k y hk hy
    obtain ⟨i, Y⟩ := y
    obtain ⟨h1, h2, h3⟩ := hy
    dsimp only at h1 h2 h3
    subst h1
    refine ⟨(Int32.ofNat (k + 1), s_si Y 19 k x), ?_, rfl, ?_, h3.tr (e_fx.si (by omega) (by omega))⟩
    · unfold fJ_fill_19_5
      rw [if_pos (show Int32.ofNat k < 7 from e_T (b := 7) hk (by omega)), e_ix hk (by omega), s_b1_s, e_inc]
    · intro j hj
      dsimp only
      rw [e_sS]
      by_cases hq : j = k
      · subst hq; rw [e_ve]
      · rw [e_vn _ _ hq]; exact h2 j (by omega)) ⟨rfl, fun j hj => absurd hj (by omega), e_fx.rf _ _ _⟩
  dsimp only at h1 h2 h3
  subst h1
  refine ⟨Y, ?_, h2, h3⟩
  unfold fJ_fill_19
  rw [hlp]
  apply s_lp_out
  dsimp only
  unfold fJ_fill_19_5
  rw [if_neg (by decide)]
  rfl
theorem t_fill_20 (x : Int32) (C : s_G) : ∃ C', fJ_fill_20 x C = some C' ∧ (∀ k, k < 4 → C'.1 20 k = x) ∧ e_fx 20 20 C C' := by
  obtain ⟨⟨i, Y⟩, ⟨h1, h2, h3⟩, hlp⟩ := e_lpN (B := fun (y : Int32 × s_G) => fJ_fill_20_5 x y.1 4 y.2) (fun k (y : Int32 × s_G) => y.1 = Int32.ofNat k ∧ (∀ j, j < k → y.2.1 20 j = x) ∧ e_fx 20 20 C y.2) 4 (x := (0, C)) (by
    intro k y hk hy
    obtain ⟨i, Y⟩ := y
    obtain ⟨h1, h2, h3⟩ := hy
    dsimp only at h1 h2 h3
    subst h1
    refine ⟨(Int32.ofNat (k + 1), s_si Y 20 k x), ?_, rfl, ?_, h3.tr (e_fx.si (by omega) (by omega))⟩
    · unfold fJ_fill_20_5
      rw [if_pos (show Int32.ofNat k < 4 from e_T (b := 4) hk (by omega)), e_ix hk (by omega), s_b1_s, e_inc]
    · intro j hj
      dsimp only
      rw [e_sS]
      by_cases hq : j = k
      · subst hq; rw [e_ve]
      · rw [e_vn _ _ hq]; exact h2 j (by omega)) ⟨rfl, fun j hj => absurd hj (by omega), e_fx.rf _ _ _⟩
  dsimp only at h1 h2 h3
  subst h1
  refine ⟨Y, ?_, h2, h3⟩
  unfold fJ_fill_20
  rw [hlp]
  apply s_lp_out
  dsimp only
  unfold fJ_fill_20_5
  rw [if_neg (by decide)]
  rfl
theorem t_fill_21 (x : Int32) (C : s_G) : ∃ C', fJ_fill_21 x C = some C' ∧ (∀ k, k < 7 → C'.1 21 k = x) ∧ e_fx 21 21 C C' := by
  obtain ⟨⟨i, Y⟩, ⟨h1, h2, h3⟩, hlp⟩ := e_lpN (B := fun (y : Int32 × s_G) => fJ_fill_21_5 x y.1 7 y.2) (fun k (y : Int32 × s_G) => y.1 = Int32.ofNat k ∧ (∀ j, j < k → y.2.1 21 j = x) ∧ e_fx 21 21 C y.2) 7 (x := (0, C)) (by
    intro k y hk hy
    obtain ⟨i, Y⟩ := y
    obtain ⟨h1, h2, h3⟩ := hy
    dsimp only at h1 h2 h3
    subst h1
    refine ⟨(Int32.ofNat (k + 1), s_si Y 21 k x), ?_, rfl, ?_, h3.tr (e_fx.si (by omega) (by omega))⟩
    · unfold fJ_fill_21_5
      rw [if_pos (show Int32.ofNat k < 7 from e_T (b := 7) hk (by omega)), e_ix hk (by omega), s_b1_s, e_inc]
    · intro j hj
      dsimp only
      rw [e_sS]
      by_cases hq : j = k
      · subst hq; rw [e_ve]
      · rw [e_vn _ _ hq]; exact h2 j (by omega)) ⟨rfl, fun j hj => absurd hj (by omega), e_fx.rf _ _ _⟩
  dsimp only at h1 h2 h3
  subst h1
  refine ⟨Y, ?_, h2, h3⟩
  unfold fJ_fill_21
  rw [hlp]
  apply s_lp_out
  dsimp only
  unfold fJ_fill_21_5
  rw [if_neg (by decide)]
  rfl
/-- what is read of an empty text -/
def t_r0 (k : Nat) : Int32 := if k = 2 then 10 else if k = 3 then 2 else if k = 4 then 1 else if 6 ≤ k ∧ k < 10 then 3 else 0
theorem t_startRead (M : s_G) : ∃ M', fM_startRead_130 M = some M' ∧ (∀ k, k < 47 → M'.1 133 k = t_r0 k) ∧ (∀ k, k < 4 → M'.1 141 k = 0 ∧ M'.1 142 k = 0) ∧ (∀ a, ¬ a = 133 ∧ ¬ a = 141 ∧ ¬ a = 142 → M'.1 a = M.1 a) ∧ M'.2 = M.2 := by
  obtain ⟨⟨i, Y⟩, ⟨h1, h2, h3⟩, hlp⟩ := e_lpN (B := fun (y : Int32 × s_G) => fM_startRead_130_2 y.1 y.2) (fun k (y : Int32 × s_G) => y.1 = Int32.ofNat k ∧ (∀ j, j < k → y.2.1 133 j = 0) ∧ e_fx 133 133 M y.2) 47 (x := (0, M)) (by
    intro k y hk hy
    obtain ⟨i, Y⟩ := y
    obtain ⟨h1, h2, h3⟩ := hy
    dsimp only at h1 h2 h3
    subst h1
    refine ⟨(Int32.ofNat (k + 1), s_si Y 133 k 0), ?_, rfl, ?_, h3.tr (e_fx.si (by omega) (by omega))⟩
    · unfold fM_startRead_130_2
      rw [if_pos (show Int32.ofNat k < 47 from e_T (b := 47) hk (by omega)), e_ix hk (by omega), s_b1_s, e_inc]
    · intro j hj
      dsimp only
      rw [e_sS]
      by_cases hq : j = k
      · subst hq; rw [e_ve]
      · rw [e_vn _ _ hq]; exact h2 j (by omega)) ⟨rfl, fun j hj => absurd hj (by omega), e_fx.rf _ _ _⟩
  dsimp only at h1 h2 h3
  subst h1
  obtain ⟨⟨i, Z⟩, ⟨g1, g2, g3, g4, g5, g6⟩, hlp2⟩ := e_lpN (B := fun (y : Int32 × s_G) => fM_startRead_130_23 y.1 y.2) (fun k (y : Int32 × s_G) => y.1 = Int32.ofNat k ∧ (∀ j, j < k → y.2.1 133 (6 + j) = 3) ∧ (∀ j, j < 47 → (j < 6 ∨ 6 + k ≤ j) → y.2.1 133 j = 0) ∧ (∀ j, j < k → y.2.1 141 j = 0 ∧ y.2.1 142 j = 0) ∧ (∀ a, ¬ a = 133 ∧ ¬ a = 141 ∧ ¬ a = 142 → y.2.1 a = M.1 a) ∧ y.2.2 = M.2) 4 (x := (0, Y)) (by
    intro k y hk hy
    obtain ⟨i, Z⟩ := y
    obtain ⟨g1, g2, g3, g4, g5, g6⟩ := hy
    dsimp only at g1 g2 g3 g4 g5 g6
    subst g1
    refine ⟨(Int32.ofNat (k + 1), s_si (s_si (s_si Z 141 k 0) 142 k 0) 133 (6 + k) 3), ?_, rfl, ?_, ?_, ?_, ?_, g6⟩
    · unfold fM_startRead_130_23
      rw [if_pos (show Int32.ofNat k < 4 from e_T (b := 4) hk (by omega)), e_ix hk (by omega), s_b1_s, show (6 : Int32) + Int32.ofNat k = Int32.ofNat (6 + k) from by rw [Int32.ofNat_add]; rfl, e_ix (show 6 + k < 47 by omega) (by omega), s_b1_s, e_inc]
      rfl
    · intro j hj
      dsimp only
      rw [e_sS]
      by_cases hq : j = k
      · subst hq; rw [e_ve]
      · rw [e_vn _ _ (by omega), e_sN (by omega), e_sN (by omega)]; exact g2 j (by omega)
    · intro j hj hj2
      dsimp only
      rw [e_sS, e_vn _ _ (by omega), e_sN (by omega), e_sN (by omega)]; exact g3 j hj (by omega)
    · intro j hj
      dsimp only
      simp (disch := omega) only [e_sS, e_sN]
      by_cases hq : j = k
      · subst hq; rw [e_ve, e_ve]; exact ⟨rfl, rfl⟩
      · rw [e_vn _ _ hq, e_vn _ _ hq]; exact g4 j (by omega)
    · intro a ha
      dsimp only
      rw [e_sN ha.1, e_sN ha.2.2, e_sN ha.2.1]; exact g5 a ha) ⟨rfl, fun j hj => absurd hj (by omega), fun j hj _ => h2 j hj, fun j hj => absurd hj (by omega), fun a ha => h3.1 a (by omega), h3.2⟩
  dsimp only at g1 g2 g3 g4 g5 g6
  subst g1
  refine ⟨s_si (s_si (s_si Z 133 2 10) 133 3 2) 133 4 1, ?_, ?_, ?_, ?_, g6⟩
  · unfold fM_startRead_130
    rw [hlp]
    apply s_lp_out
    dsimp only
    unfold fM_startRead_130_2
    rw [if_neg (by decide), hlp2]
    have : s_lp (fun (y : Int32 × s_G) => fM_startRead_130_23 y.1 y.2) (Int32.ofNat 4, Z) = some (s_si (s_si (s_si Z 133 2 10) 133 3 2) 133 4 1) := by
      apply s_lp_out
      dsimp only
      unfold fM_startRead_130_23
      rw [if_neg (by decide)]
      rfl
    rw [this]
    rfl
  · intro k hk
    rw [e_sS, e_sS, e_sS]
    unfold t_r0
    by_cases q4 : k = 4
    · subst q4; rw [e_ve]; rfl
    · rw [e_vn _ _ q4]
      by_cases q3 : k = 3
      · subst q3; rw [e_ve]; rfl
      · rw [e_vn _ _ q3]
        by_cases q2 : k = 2
        · subst q2; rw [e_ve]; rfl
        · rw [e_vn _ _ q2, if_neg q2, if_neg q3, if_neg q4]
          by_cases q6 : 6 ≤ k ∧ k < 10
          · rw [if_pos q6]
            have := g2 (k - 6) (by omega)
            rw [show 6 + (k - 6) = k by omega] at this
            exact this
          · rw [if_neg q6]; exact g3 k hk (by omega)
  · intro k hk
    rw [e_sN (by omega), e_sN (by omega), e_sN (by omega), e_sN (by omega), e_sN (by omega), e_sN (by omega)]; exact g4 k hk
  · intro a ha
    rw [e_sN ha.1, e_sN ha.1, e_sN ha.1]; exact g5 a ha
theorem t_clear (C : s_G) : ∃ C', fP_clear_10 C = some C' ∧ (C'.1 10 0 = 0 ∧ C'.1 10 1 = 0 ∧ C'.1 10 8 = 10 ∧ C'.1 10 9 = 2 ∧ C'.1 10 10 = 1 ∧ C'.1 10 11 = 0 ∧ C'.1 10 12 = 0 ∧ C'.1 10 13 = 0) ∧ (∀ k, k < 4 → C'.1 16 k = 3) ∧ (∀ a, ¬ a = 10 ∧ ¬ a = 16 → C'.1 a = C.1 a) ∧ C'.2 = C.2 := by
  obtain ⟨Y, y1, y2, y3⟩ := t_fill_16 3 (s_si (s_si C 10 0 0) 10 1 0)
  refine ⟨_, by unfold fP_clear_10; rw [y1, s_b1_s], ?_, ?_, ?_, ?_⟩
  · simp (disch := omega) only [e_sS, e_vn, e_ve, y3.1 10 (by omega)]
    exact ⟨trivial, trivial, trivial, trivial, trivial, trivial, trivial, trivial⟩
  · intro k hk
    simp (disch := omega) only [e_sN]; exact y2 k hk
  · intro a ha
    simp (disch := omega) only [e_sN]; rw [y3.1 a (by omega), e_sN ha.1, e_sN ha.1]
  · exact y3.2
theorem t_D_0 {C M : s_G} (c1 : C.1 10 0 = 0 ∧ C.1 10 1 = 0 ∧ C.1 10 8 = 10 ∧ C.1 10 9 = 2 ∧ C.1 10 10 = 1 ∧ C.1 10 11 = 0 ∧ C.1 10 12 = 0 ∧ C.1 10 13 = 0) (c2 : ∀ k, k < 4 → C.1 16 k = 3) (m1 : ∀ k, k < 47 → M.1 133 k = t_r0 k) (m2 : ∀ k, k < 4 → M.1 141 k = 0 ∧ M.1 142 k = 0) : t_D 0 0 C M := by
  obtain ⟨c10, c11, c12, c13, c14, c15, c16, c17⟩ := c1
  refine ⟨⟨⟨by omega, ?_⟩, ⟨by omega, ?_⟩, ⟨?_, ?_, ?_, ?_⟩, ?_, ?_, ?_⟩, ⟨⟨?_, ?_, ?_, ?_, ?_, ?_⟩, ?_, ?_, ?_⟩, ⟨fun b hb => absurd hb (by omega), fun b hb => absurd hb (by omega)⟩, ⟨0, by omega, c16, ?_⟩, 0, by omega, c17, ?_⟩
  · rw [m1 0 (by omega)]; rfl
  · rw [m1 1 (by omega)]; rfl
  · rw [m1 2 (by omega)]; exact ⟨10, by omega, rfl⟩
  · rw [m1 3 (by omega)]; exact ⟨2, by omega, rfl⟩
  · rw [m1 4 (by omega)]; exact ⟨1, by omega, rfl⟩
  · rw [m1 5 (by omega)]; exact ⟨0, by omega, rfl⟩
  · intro k hk
    rw [m1 _ (by omega)]
    unfold t_r0
    rw [if_neg (by omega), if_neg (by omega), if_neg (by omega), if_pos (by omega)]
    exact ⟨3, by omega, rfl⟩
  · intro b hb; omega
  · intro b hb; omega
  · rw [c10, m1 0 (by omega)]; rfl
  · rw [c11, m1 1 (by omega)]; rfl
  · rw [c12, m1 2 (by omega)]; rfl
  · rw [c13, m1 3 (by omega)]; rfl
  · rw [c14, m1 4 (by omega)]; rfl
  · rw [c15, m1 5 (by omega)]; rfl
  · intro k hk
    rw [c2 k hk, m1 _ (by omega)]
    unfold t_r0
    rw [if_neg (by omega), if_neg (by omega), if_neg (by omega), if_pos (by omega)]
  · intro b hb; omega
  · intro b hb; omega
  · intro k hk
    rw [(m2 k hk).2, Nat.zero_testBit]; rfl
  · intro k hk
    rw [(m2 k hk).1, Nat.zero_testBit]; rfl
/-- a camp's text, by both -/
theorem t_campT {N : Nat} {C M : s_G} (hN : N ≤ 940) (h1 : C.1 1 1 = Int32.ofNat N) (h2 : M.1 130 2 = Int32.ofNat N) (hby : e_by (C.1 2) (M.1 131)) :
    (∃ L C' M' nb ne, L ≤ 901 ∧ s_b1 (fQ_startText_1 900 C) (fun g1 => fP_readText_10_1 g1) = some (Int32.ofNat L, C') ∧ (∀ R, s_lp (fun (x : Int32 × s_G) => fM_camp_130_49 (Int32.ofNat L) x.1 x.2) (0, M') = some R → fM_camp_130 M = some R) ∧ t_B N 900 C' M' ∧ t_D nb ne C' M' ∧ t_xC C C' ∧ t_xM (s_si M 130 0 0) M') ∨
    (∃ C' M', s_b1 (fQ_startText_1 900 C) (fun g1 => fP_readText_10_1 g1) = some (-1, C') ∧ fM_camp_130 M = some (-1 - M'.1 130 11, M') ∧ t_F C' M' ∧ t_xC C C' ∧ t_xM (s_si M 130 0 0) M') := by
  obtain ⟨C1, M1, t, a, p, x1, x2, x3, x4, x5⟩ := t_begin (m := 900) (by omega) hN h1 h2 hby
  obtain ⟨C2, c1, c2, c3, c4, c5⟩ := t_clear C1
  obtain ⟨M2, m1, m2, m3, m4, m5⟩ := t_startRead M1
  have P2 : t_P N 900 t a p C2 M2 := t_P_cg x3 (c4 1 (by omega)) (c4 2 (by omega)) (by rw [c5]) (by rw [c5]) (fun k _ => by rw [m4 130 (by omega)]) (m4 131 (by omega)) (by rw [m5])
  have D2 : t_D 0 0 C2 M2 := t_D_0 c2 c3 m2 m3
  have xC : t_xC C C2 := x4.x.tr (fun b hb => ⟨c4 b (by omega), by rw [c5], by rw [c5]⟩)
  have xM : t_xM (s_si M 130 0 0) M2 := x5.x.tr ⟨fun b hb => ⟨m4 b (by omega), by rw [m5]⟩, by rw [m5], fun k hk => by rw [m4 130 (by omega)]⟩
  have eC : s_b1 (fQ_startText_1 900 C) (fun g1 => fP_readText_10_1 g1) = s_lp (fun (x : Int32 × s_G) => fP_readText_10_1_6 x.1 x.2) (Int32.ofNat 0, C2) := by
    rw [show fQ_startText_1 900 C = _ from x1, s_b1_s]
    unfold fP_readText_10_1
    rw [c1, s_b1_s]
    rfl
  have eM : fM_camp_130 M = s_lp (fun (x : Int32 × s_G) => fM_camp_130_13 x.1 x.2) (Int32.ofNat 0, M2) := by
    unfold fM_camp_130
    rw [show fM_begin_130 900 M = _ from x2, s_b1_s, m1, s_b1_s]
    rfl
  rw [eC, eM]
  rcases t_lines 902 0 0 0 a p t C2 M2 rfl (by omega) P2 D2 (fun _ => by omega) with ⟨L, C', M', nb', ne', y1, y2, y3, y4, y5, y6, y7⟩ | ⟨C', M', y1, y2, y3, y4, y5⟩
  · exact Or.inl ⟨L, C', M', nb', ne', y1, y2, y3, y4, y5, xC.tr y6, xM.tr y7⟩
  · exact Or.inr ⟨C', M', y1, y2, y3, xC.tr y4, xM.tr y5⟩
