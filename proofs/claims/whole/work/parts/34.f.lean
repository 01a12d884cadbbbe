-- CAMP: what is so at first
def t_b0 (f : Nat → Int32) : Nat → Int32 := fun j => if 47 ≤ j ∧ j < 375 then 0 else f j
def t_so (f : Nat → Int32) : Nat → Nat → Int32
  | 0 => va_up (va_up (t_b0 f) 48 (f 2)) 49 (f 3)
  | e + 1 => va_up (t_so f e) (63 + 10 * (f (17 + e)).toNatClampNeg + e) (f (37 + e))
theorem t_own {nb ne e : Nat} {f : Nat → Int32} (hH : e_HW nb ne f) (he : e < ne) : (f (17 + e)).toNatClampNeg < nb ∧ f (17 + e) = Int32.ofNat (f (17 + e)).toNatClampNeg := by
  obtain ⟨⟨k, h1, h2⟩, -⟩ := hH.2.2.2.2.2 e he
  have h7 := hH.1.1
  rw [h2, Int32.toNatClampNeg_ofNat_of_lt (by omega)]
  exact ⟨h1, rfl⟩
theorem t_so_lo {f : Nat → Int32} : ∀ e k, k < 63 → t_so f e k = if k = 49 then f 3 else if k = 48 then f 2 else t_b0 f k := by
  intro e
  induction e with
  | zero =>
    intro k hk
    unfold t_so
    by_cases h1 : k = 49
    · subst h1; rw [e_ve]; rfl
    · rw [e_vn _ _ h1, if_neg h1]
      by_cases h2 : k = 48
      · subst h2; rw [e_ve]; rfl
      · rw [e_vn _ _ h2, if_neg h2]
  | succ e ih =>
    intro k hk
    unfold t_so
    rw [e_vn _ _ (by omega)]
    exact ih k hk
theorem t_so_hd {f : Nat → Int32} {e k : Nat} (hk : k < 47) : t_so f e k = f k := by
  rw [t_so_lo e k (by omega), if_neg (by omega), if_neg (by omega)]
  unfold t_b0
  rw [if_neg (by omega)]
theorem t_so_hi {nb ne : Nat} {f : Nat → Int32} (hH : e_HW nb ne f) : ∀ e k, e ≤ ne → 133 ≤ k → k < 375 → t_so f e k = 0 := by
  intro e
  induction e with
  | zero =>
    intro k _ h1 h2
    unfold t_so t_b0
    rw [e_vn _ _ (by omega), e_vn _ _ (by omega), if_pos (by omega)]
  | succ e ih =>
    intro k he h1 h2
    have h3 := (t_own hH (show e < ne by omega)).1
    have h7 := hH.1.1
    have h10 := hH.2.1.1
    unfold t_so
    rw [e_vn _ _ (by omega)]
    exact ih k (by omega) h1 h2
theorem t_so_on {nb ne : Nat} {f : Nat → Int32} (hH : e_HW nb ne f) : ∀ e b j, e ≤ ne → b < 7 → j < 10 → t_so f e (63 + 10 * b + j) = if j < e ∧ b = (f (17 + j)).toNatClampNeg then f (37 + j) else 0 := by
  intro e
  induction e with
  | zero =>
    intro b j _ hb hj
    unfold t_so t_b0
    rw [e_vn _ _ (by omega), e_vn _ _ (by omega), if_pos (by omega), if_neg (by omega)]
  | succ e ih =>
    intro b j he hb hj
    have h3 := (t_own hH (show e < ne by omega)).1
    have h7 := hH.1.1
    have h10 := hH.2.1.1
    unfold t_so
    by_cases hq : 63 + 10 * b + j = 63 + 10 * (f (17 + e)).toNatClampNeg + e
    · have h4 : j = e ∧ b = (f (17 + e)).toNatClampNeg := by omega
      obtain ⟨rfl, h5⟩ := h4
      rw [hq, e_ve, if_pos ⟨by omega, h5⟩]
    · rw [e_vn _ _ hq, ih b j (by omega) hb hj]
      by_cases hj2 : j = e
      · subst hj2
        rw [if_neg (by omega), if_neg (by omega)]
      · by_cases hj3 : j < e
        · by_cases hb2 : b = (f (17 + j)).toNatClampNeg
          · rw [if_pos ⟨hj3, hb2⟩, if_pos ⟨by omega, hb2⟩]
          · rw [if_neg (fun h => hb2 h.2), if_neg (fun h => hb2 h.2)]
        · rw [if_neg (by omega), if_neg (by omega)]
theorem t_so_cg {f f' : Nat → Int32} (h : ∀ k, k < 47 → f' k = f k) : ∀ e k, e ≤ 10 → k < 375 → t_so f' e k = t_so f e k := by
  intro e
  induction e with
  | zero =>
    intro k _ hk
    unfold t_so
    rw [h 2 (by omega), h 3 (by omega)]
    by_cases h1 : k = 49
    · subst h1; rw [e_ve, e_ve]
    · rw [e_vn _ _ h1, e_vn _ _ h1]
      by_cases h2 : k = 48
      · subst h2; rw [e_ve, e_ve]
      · rw [e_vn _ _ h2, e_vn _ _ h2]
        unfold t_b0
        by_cases h3 : 47 ≤ k ∧ k < 375
        · rw [if_pos h3, if_pos h3]
        · rw [if_neg h3, if_neg h3]; exact h k (by omega)
  | succ e ih =>
    intro k he hk
    unfold t_so
    rw [h (17 + e) (by omega), h (37 + e) (by omega)]
    by_cases h1 : k = 63 + 10 * (f (17 + e)).toNatClampNeg + e
    · rw [h1, e_ve, e_ve]
    · rw [e_vn _ _ h1, e_vn _ _ h1]; exact ih k (by omega) hk
theorem t_so_SW {nb ne : Nat} {f : Nat → Int32} (hH : e_HW nb ne f) : e_SW nb ne (t_so f ne) := by
  have h7 := hH.1.1
  have h10 := hH.2.1.1
  refine ⟨?_, ?_, ?_, ?_, ?_⟩
  · intro b e hb he
    rw [t_so_on hH ne b e (Nat.le_refl _) hb he]
    by_cases hq : e < ne ∧ b = (f (17 + e)).toNatClampNeg
    · rw [if_pos hq]
      obtain ⟨k, h1, h2⟩ := (hH.2.2.2.2.2 e hq.1).2.2
      exact ⟨k, by omega, h2⟩
    · rw [if_neg hq]; exact ⟨0, by omega, rfl⟩
  · intro b e hb he hq
    rw [t_so_on hH ne b e (Nat.le_refl _) hb he, if_neg]
    intro h
    have := (t_own hH h.1).1
    omega
  · rw [t_so_lo ne 47 (by omega), if_neg (by omega), if_neg (by omega)]
    exact ⟨0, by omega, rfl⟩
  · rw [t_so_lo ne 48 (by omega), if_neg (by omega), if_pos rfl]; exact hH.2.2.1.1
  · rw [t_so_lo ne 49 (by omega), if_pos rfl]; exact hH.2.2.1.2.1
theorem t_su_0 {h : Nat → Int32} {a : Nat} (n : Nat) (hz : ∀ k, k < n → h (a + k) = 0) : e_su h a n = 0 := by
  rw [e_su_z (m := 0) n (by omega) (fun k _ hk => hz k hk)]; rfl
/-- the class's state at first -/
theorem t_beginC {C : s_G} {nb ne : Nat} {f : Nat → Int32} (hH : e_HW nb ne f) (hC : e_C3 nb ne C f) : ∃ C', fT_begin_17 C = some C' ∧ e_T17 C' (t_so f ne) ∧ e_fx 17 21 C C' := by
  have h7 := hH.1.1
  have h10 := hH.2.1.1
  obtain ⟨C1, a1, a2, a3⟩ := t_fill_18 0 C
  obtain ⟨C2, b1, b2, b3⟩ := t_fill_19 0 C1
  obtain ⟨C3, c1, c2, c3⟩ := t_fill_20 0 C2
  obtain ⟨C4, d1, d2, d3⟩ := t_fill_21 0 C3
  have f4 : e_fx 17 21 C C4 := (((a3.wd (by omega) (by omega)).tr (b3.wd (by omega) (by omega))).tr (c3.wd (by omega) (by omega))).tr (d3.wd (by omega) (by omega))
  generalize hX : s_si (s_si (s_si (s_si (s_si C4 17 5 (0 : Int32)) 17 6 (C4.1 3 8)) 17 7 (C4.1 3 9)) 17 8 (0 : Int32)) 17 9 (0 : Int32) = X
  have fX : e_fx 17 21 C X := by
    rw [← hX]
    exact ((((f4.tr (e_fx.si (by omega) (by omega))).tr (e_fx.si (by omega) (by omega))).tr (e_fx.si (by omega) (by omega))).tr (e_fx.si (by omega) (by omega))).tr (e_fx.si (by omega) (by omega))
  have x17 : X.1 17 = va_up (va_up (va_up (va_up (va_up (C4.1 17) 5 0) 6 (f 2)) 7 (f 3)) 8 0) 9 0 := by
    rw [← hX, e_sS, e_sS, e_sS, e_sS, e_sS, f4.1 3 (by omega), hC.1.2.2.1, hC.1.2.2.2.1]
  have x18 : X.1 18 = C1.1 18 := by
    rw [← hX]; simp (disch := omega) only [e_sN]
    rw [d3.1 18 (by omega), c3.1 18 (by omega), b3.1 18 (by omega)]
  have x19 : X.1 19 = C2.1 19 := by
    rw [← hX]; simp (disch := omega) only [e_sN]
    rw [d3.1 19 (by omega), c3.1 19 (by omega)]
  have x20 : X.1 20 = C3.1 20 := by
    rw [← hX]; simp (disch := omega) only [e_sN]
    rw [d3.1 20 (by omega)]
  have x21 : X.1 21 = C4.1 21 := by
    rw [← hX]; simp (disch := omega) only [e_sN]
  have lo : ∀ k, 47 ≤ k → k < 63 → ¬ k = 48 → ¬ k = 49 → t_so f 0 k = 0 := by
    intro k k1 k2 k3 k4
    rw [t_so_lo 0 k k2, if_neg k4, if_neg k3]
    unfold t_b0
    rw [if_pos (by omega)]
  have hT0 : e_T17 X (t_so f 0) := by
    unfold e_T17
    rw [x17, x18, x19, x20, x21]
    refine ⟨⟨?_, ?_, ?_, ?_, ?_⟩, ?_, ?_, ?_, ?_⟩
    · simp (disch := omega) only [e_vn, e_ve]; rw [lo 50 (by omega) (by omega) (by omega) (by omega)]
    · simp (disch := omega) only [e_vn, e_ve]; rw [t_so_lo 0 48 (by omega), if_neg (by omega), if_pos rfl]
    · simp (disch := omega) only [e_vn, e_ve]; rw [t_so_lo 0 49 (by omega), if_pos rfl]
    · simp (disch := omega) only [e_vn, e_ve]; rw [lo 47 (by omega) (by omega) (by omega) (by omega)]
    · simp (disch := omega) only [e_ve]; rw [lo 51 (by omega) (by omega) (by omega) (by omega)]
    · intro b e hb he
      rw [a2 _ (by omega), t_so_on hH 0 b e (by omega) hb he, if_neg (by omega)]
    · intro b hb
      rw [b2 _ (by omega)]
      unfold e_ld
      rw [t_su_0 10 (fun k hk => by rw [t_so_on hH 0 b k (by omega) hb hk, if_neg (by omega)])]
    · intro k hk
      rw [c2 _ (by omega), lo (52 + k) (by omega) (by omega) (by omega) (by omega)]
    · intro b hb
      rw [d2 _ (by omega), lo (56 + b) (by omega) (by omega) (by omega) (by omega)]
  obtain ⟨⟨i, Y⟩, ⟨g1, g2, g3⟩, hlp⟩ := e_lpN (B := fun (y : Int32 × s_G) => fT_begin_17_71 y.1 y.2) (fun k (y : Int32 × s_G) => y.1 = Int32.ofNat k ∧ e_T17 y.2 (t_so f k) ∧ e_fx 17 21 C y.2) ne (x := (0, X)) (by
    intro k y hk hy
    obtain ⟨i, Y⟩ := y
    obtain ⟨g1, g2, g3⟩ := hy
    dsimp only at g1 g2 g3
    subst g1
    obtain ⟨o1, o2⟩ := t_own hH hk
    have hc := hC.2.2.2 k hk
    have y6 : Y.1 6 k = Int32.ofNat (f (17 + k)).toNatClampNeg := by rw [g3.1 6 (by omega), hc.1]; exact o2
    have y8 : Y.1 8 k = f (37 + k) := by rw [g3.1 8 (by omega), hc.2.2]
    have y31 : Y.1 3 1 = Int32.ofNat ne := by rw [g3.1 3 (by omega), hC.1.2.1, hH.2.1.2]
    have hz : t_so f k (63 + 10 * (f (17 + k)).toNatClampNeg + k) = 0 := by rw [t_so_on hH k _ k (by omega) (by omega) (by omega), if_neg (by omega)]
    refine ⟨(Int32.ofNat (k + 1), s_si (s_si Y 18 (7 * k + (f (17 + k)).toNatClampNeg) (Y.1 18 (7 * k + (f (17 + k)).toNatClampNeg) + f (37 + k))) 19 (f (17 + k)).toNatClampNeg (Y.1 19 (f (17 + k)).toNatClampNeg + f (37 + k))), ?_, rfl, ?_, (g3.tr (e_fx.si (by omega) (by omega))).tr (e_fx.si (by omega) (by omega))⟩
    · unfold fT_begin_17_71 fT_putOn_17
      rw [y31, if_pos (e_T hk (by omega)), e_ix (show k < 10 by omega) (by omega), s_b1_s, y6, y8, show Int32.ofNat k * 7 + Int32.ofNat (f (17 + k)).toNatClampNeg = Int32.ofNat (7 * k + (f (17 + k)).toNatClampNeg) from by rw [Int32.ofNat_add, Int32.ofNat_mul, Int32.mul_comm]; rfl, e_ix (show 7 * k + (f (17 + k)).toNatClampNeg < 70 by omega) (by omega), s_b1_s, e_ix (show (f (17 + k)).toNatClampNeg < 7 by omega) (by omega), s_b1_s, s_b1_s, e_inc]
    · dsimp only
      unfold e_T17
      simp (disch := omega) only [e_sS, e_sN]
      have := e_TR_on g2 (b := (f (17 + k)).toNatClampNeg) (e := k) (by omega) (by omega) (f (37 + k))
      rw [hz, Int32.zero_add] at this
      exact this) ⟨rfl, hT0, fX⟩
  dsimp only at g1 g2 g3
  subst g1
  refine ⟨Y, ?_, g2, g3⟩
  unfold fT_begin_17
  rw [a1, s_b1_s, b1, s_b1_s, c1, s_b1_s, d1, s_b1_s, hX, show (0 : Int32) = Int32.ofNat 0 from rfl]
  rw [show s_lp (fun (x : Int32 × s_G) => fT_begin_17_71 x.1 x.2) (Int32.ofNat 0, X) = _ from hlp]
  apply s_lp_out
  dsimp only
  unfold fT_begin_17_71
  rw [show Y.1 3 1 = Int32.ofNat ne from by rw [g3.1 3 (by omega), hC.1.2.1, hH.2.1.2], if_neg (e_F (Nat.le_refl ne) (by omega))]
  rfl
/-- the reference's -/
theorem t_startSo {G : s_G} {nb ne : Nat} (hH : e_HW nb ne (G.1 132)) : ∃ G', fM_startSo_130 G = some G' ∧ G'.1 132 = t_so (G.1 132) ne ∧ e_fx 132 132 G G' := by
  have h7 := hH.1.1
  have h10 := hH.2.1.1
  obtain ⟨⟨i, Y⟩, ⟨h1, h2, h3⟩, hlp⟩ := e_lpN (B := fun (y : Int32 × s_G) => fM_startSo_130_3 y.1 y.2) (fun k (y : Int32 × s_G) => y.1 = Int32.ofNat (47 + k) ∧ (∀ j, y.2.1 132 j = if 47 ≤ j ∧ j < 47 + k then 0 else G.1 132 j) ∧ e_fx 132 132 G y.2) 328 (x := (47, G)) (by
    intro k y hk hy
    obtain ⟨i, Y⟩ := y
    obtain ⟨h1, h2, h3⟩ := hy
    dsimp only at h1 h2 h3
    subst h1
    refine ⟨(Int32.ofNat (47 + (k + 1)), s_si Y 132 (47 + k) 0), ?_, rfl, ?_, h3.tr (e_fx.si (by omega) (by omega))⟩
    · unfold fM_startSo_130_3
      rw [if_pos (show Int32.ofNat (47 + k) < 375 from e_T (b := 375) (by omega) (by omega)), e_ix (show 47 + k < 375 by omega) (by omega), s_b1_s, e_inc]
      rfl
    · intro j
      dsimp only
      rw [e_sS]
      by_cases hq : j = 47 + k
      · subst hq; rw [e_ve, if_pos (by omega)]
      · rw [e_vn _ _ hq, h2 j]
        by_cases hq2 : 47 ≤ j ∧ j < 47 + k
        · rw [if_pos hq2, if_pos (by omega)]
        · rw [if_neg hq2, if_neg (by omega)]) ⟨rfl, fun j => by rw [if_neg (by omega)], e_fx.rf _ _ _⟩
  dsimp only at h1 h2 h3
  subst h1
  have y2 : Y.1 132 2 = G.1 132 2 := by rw [h2, if_neg (by omega)]
  have y3 : (s_si Y 132 48 (Y.1 132 2)).1 132 3 = G.1 132 3 := by rw [e_sS, e_vn _ _ (by omega), h2, if_neg (by omega)]
  generalize hX : s_si (s_si Y 132 48 (G.1 132 2)) 132 49 (G.1 132 3) = X
  have x132 : X.1 132 = t_so (G.1 132) 0 := by
    rw [← hX, e_sS, e_sS]
    unfold t_so
    congr 2
    funext j
    rw [h2]
    rfl
  have fX : e_fx 132 132 G X := by rw [← hX]; exact (h3.tr (e_fx.si (by omega) (by omega))).tr (e_fx.si (by omega) (by omega))
  obtain ⟨⟨i, Z⟩, ⟨g1, g2, g3⟩, hlp2⟩ := e_lpN (B := fun (y : Int32 × s_G) => fM_startSo_130_51 y.1 y.2) (fun k (y : Int32 × s_G) => y.1 = Int32.ofNat k ∧ y.2.1 132 = t_so (G.1 132) k ∧ e_fx 132 132 G y.2) ne (x := (0, X)) (by
    intro k y hk hy
    obtain ⟨i, Z⟩ := y
    obtain ⟨g1, g2, g3⟩ := hy
    dsimp only at g1 g2 g3
    subst g1
    obtain ⟨o1, o2⟩ := t_own hH hk
    have z17 : Z.1 132 (17 + k) = Int32.ofNat (G.1 132 (17 + k)).toNatClampNeg := by rw [g2, t_so_hd (by omega)]; exact o2
    have z37 : Z.1 132 (37 + k) = G.1 132 (37 + k) := by rw [g2, t_so_hd (by omega)]
    have z1 : Z.1 132 1 = Int32.ofNat ne := by rw [g2, t_so_hd (by omega), hH.2.1.2]
    refine ⟨(Int32.ofNat (k + 1), s_si Z 132 (63 + 10 * (G.1 132 (17 + k)).toNatClampNeg + k) (G.1 132 (37 + k))), ?_, rfl, ?_, g3.tr (e_fx.si (by omega) (by omega))⟩
    · unfold fM_startSo_130_51
      rw [z1, if_pos (e_T hk (by omega)), show (17 : Int32) + Int32.ofNat k = Int32.ofNat (17 + k) from by rw [Int32.ofNat_add]; rfl, e_ix (show 17 + k < 375 by omega) (by omega), s_b1_s, show (37 : Int32) + Int32.ofNat k = Int32.ofNat (37 + k) from by rw [Int32.ofNat_add]; rfl, e_ix (show 37 + k < 375 by omega) (by omega), s_b1_s, z17, z37, show (63 : Int32) + 10 * Int32.ofNat (G.1 132 (17 + k)).toNatClampNeg + Int32.ofNat k = Int32.ofNat (63 + 10 * (G.1 132 (17 + k)).toNatClampNeg + k) from by rw [Int32.ofNat_add, Int32.ofNat_add, Int32.ofNat_mul]; rfl, e_ix (show 63 + 10 * (G.1 132 (17 + k)).toNatClampNeg + k < 375 by omega) (by omega), s_b1_s, e_inc]
    · dsimp only
      rw [e_sS, g2]
      rfl) ⟨rfl, x132, fX⟩
  dsimp only at g1 g2 g3
  subst g1
  refine ⟨Z, ?_, g2, g3⟩
  unfold fM_startSo_130
  rw [show s_lp (fun (x : Int32 × s_G) => fM_startSo_130_3 x.1 x.2) (47, G) = _ from hlp]
  apply s_lp_out
  dsimp only
  unfold fM_startSo_130_3
  rw [if_neg (by decide), y2, show Y.1 132 3 = G.1 132 3 from by rw [h2, if_neg (by omega)], hX, hlp2]
  have : s_lp (fun (y : Int32 × s_G) => fM_startSo_130_51 y.1 y.2) (Int32.ofNat ne, Z) = some Z := by
    apply s_lp_out
    dsimp only
    unfold fM_startSo_130_51
    rw [show Z.1 132 1 = Int32.ofNat ne from by rw [g2, t_so_hd (by omega), hH.2.1.2], if_neg (e_F (Nat.le_refl ne) (by omega))]
    rfl
  rw [this]
  rfl
