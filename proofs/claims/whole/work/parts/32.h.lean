-- RESTORE
theorem e_gB_0 (g : s_G) : fI_giveBack_86_3_17_27 g = e_cp3 3 17 27 87 94 99 g := rfl
theorem e_gB_1 (g : s_G) : fI_giveBack_104_3_17_27 g = e_cp3 3 17 27 105 112 117 g := rfl
theorem e_mRestore {G : s_G} {k : Nat} (hk : k < 2) : ∃ G', s_lp (fun (x : Int32 × s_G) => fM_restore_130_27 (Int32.ofNat k) x.1 x.2) (0, G) = some (1, G') ∧ (∀ i, i < 375 → G'.1 132 i = G.1 134 (375 * k + i)) ∧ (∀ i, i < 17 → G'.2.1 137 i = G.2.1 139 (17 * k + i)) ∧ G'.1 130 = va_up (G.1 130) 25 0 ∧ (∀ a, ¬ a = 130 ∧ ¬ a = 132 → G'.1 a = G.1 a) ∧ (∀ a, ¬ a = 137 → G'.2.1 a = G.2.1 a) ∧ G'.2.2 = G.2.2 := by
  obtain ⟨w, ⟨h1, h2, h4⟩, h5⟩ := e_lpN (B := fun (x : Int32 × s_G) => fM_restore_130_27 (Int32.ofNat k) x.1 x.2) (fun i (x : Int32 × s_G) => x.1 = Int32.ofNat i ∧ (∀ j, j < i → x.2.1 132 j = G.1 134 (375 * k + j)) ∧ e_fx 132 132 G x.2) 375 (x := (0, G)) (by
    intro i x hi hI
    obtain ⟨x1, x2⟩ := x
    obtain ⟨h1, h2, h4⟩ := hI
    dsimp only at h1 h2 h4
    subst h1
    refine ⟨(Int32.ofNat (i + 1), s_si x2 132 i (G.1 134 (375 * k + i))), ?_, rfl, ?_, h4.tr (e_fx.si (by omega) (by omega))⟩
    · dsimp only
      unfold fM_restore_130_27
      simp (disch := omega) only [e_375, e_lt, hi, ↓reduceIte, ← Int32.ofNat_mul, ← Int32.ofNat_add, e_ix, s_b1_s, e_inc]
      rw [h4.1 134 (by omega)]
    · intro j hj
      dsimp only
      rw [e_sS]
      by_cases hq : j = i
      · subst hq; rw [e_ve]
      · rw [e_vn _ _ (by omega)]; exact h2 j (by omega)) ⟨rfl, fun j hj => absurd hj (by omega), e_fx.rf _ _ _⟩
  obtain ⟨x1, x2⟩ := w
  dsimp only at h1 h2 h4
  subst h1
  obtain ⟨w, ⟨m1, m2, m4, m5, m6⟩, m7⟩ := e_lpN (B := fun (x : Int32 × s_G) => fM_restore_130_60 (Int32.ofNat k) x.1 x.2) (fun i (x : Int32 × s_G) => x.1 = Int32.ofNat i ∧ (∀ j, j < i → x.2.2.1 137 j = G.2.1 139 (17 * k + j)) ∧ (∀ a, ¬ a = 137 → x.2.2.1 a = G.2.1 a) ∧ x.2.1 = x2.1 ∧ x.2.2.2 = G.2.2) 17 (x := (0, x2)) (by
    intro i x hi hI
    obtain ⟨y1, y2⟩ := x
    obtain ⟨h1, h2, h4, h5, h6⟩ := hI
    dsimp only at h1 h2 h4 h5 h6
    subst h1
    refine ⟨(Int32.ofNat (i + 1), s_sl y2 137 i (G.2.1 139 (17 * k + i))), ?_, rfl, ?_, ?_, h5, h6⟩
    · dsimp only
      unfold fM_restore_130_60
      simp (disch := omega) only [e_17, e_lt, hi, ↓reduceIte, ← Int32.ofNat_mul, ← Int32.ofNat_add, e_ix, s_b1_s, e_inc]
      rw [h4 139 (by omega)]
    · intro j hj
      dsimp only
      rw [e_lS]
      by_cases hq : j = i
      · subst hq; rw [e_ve]
      · rw [e_vn _ _ (by omega)]; exact h2 j (by omega)
    · intro a ha
      dsimp only
      rw [e_lN ha]; exact h4 a ha) ⟨rfl, fun j hj => absurd hj (by omega), fun a _ => by dsimp only; rw [h4.2], rfl, by dsimp only; rw [h4.2]⟩
  obtain ⟨y1, y2⟩ := w
  dsimp only at m1 m2 m4 m5 m6
  subst m1
  refine ⟨s_si y2 130 25 0, ?_, ?_, m2, ?_, ?_, m4, m6⟩
  · rw [h5, s_lp_out (r := (1, s_si y2 130 25 0)) ?_]
    dsimp only
    unfold fM_restore_130_27
    rw [if_neg (show ¬ Int32.ofNat 375 < 375 by decide), m7, s_lp_out (r := (1, s_si y2 130 25 0)) ?_]
    · rfl
    · dsimp only
      unfold fM_restore_130_60
      rw [if_neg (show ¬ Int32.ofNat 17 < 17 by decide)]
      rfl
  · intro i hi
    rw [e_sN (by omega), m5]; exact h2 i hi
  · rw [e_sS, m5, h4.1 130 (by omega)]
  · intro a ha
    rw [e_sN ha.1, m5, h4.1 a (by omega)]
theorem e_restore_k {g : s_G} {k : Nat} (h : e_I g) (hk : k < 2) (hi : g.1 140 k = 1) : ∃ g0 g1 g2, e_cp3 3 17 27 (87 + 18 * k) (94 + 18 * k) (99 + 18 * k) g = some g0 ∧ fH_clear_43 g0 = some g1 ∧ fM_restore_130 (Int32.ofNat k) g1 = some (1, g2) ∧ e_I g2 := by
  obtain ⟨hR, nb0, ne0, n, p, hs, hJ⟩ := id h
  have him : e_im k g := by
    have : k = 0 ∨ k = 1 := by omega
    rcases this with rfl | rfl
    · exact hR.2.2.2.1.1
    · exact hR.2.2.2.1.2
  rcases him with ⟨_, h0⟩ | ⟨_, _, nb, ne, hco⟩
  · rw [hi] at h0; exact absurd h0 (by decide)
  · obtain ⟨g0, a1, a2, a3, a4, a5⟩ := e_cp3_c (cd := 3) (td := 17) (sd := 27) (by omega) (by omega) (by omega) (by omega) (by omega) hco
    generalize hg1 : s_si g0 43 1 0 = g1
    have q1 : ∀ a, (a < 3 ∨ 9 < a) ∧ (a < 17 ∨ 21 < a) ∧ (a < 27 ∨ 30 < a) ∧ ¬ a = 43 → g1.1 a = g.1 a := fun a ha => by rw [← hg1, e_sN ha.2.2.2, a3 a ⟨ha.1, ha.2.1, ha.2.2.1⟩]
    have l1 : g1.2 = g0.2 := by rw [← hg1]; rfl
    obtain ⟨g2, b1, b2, b3, b4, b5, b6, b7⟩ := e_mRestore (G := s_si g1 130 0 0) hk
    have e134 : (s_si g1 130 0 0).1 134 = g.1 134 := by rw [e_sN (by omega), q1 134 (by omega)]
    have el : ∀ a, ¬ a = 4 → (s_si g1 130 0 0).2.1 a = g.2.1 a := fun a ha => by
      show g1.2.1 a = _
      rw [l1]; exact a4 a ha
    rw [e134] at b2
    rw [el 139 (by omega)] at b3
    refine ⟨g0, g1, g2, a1, by rw [← hg1]; rfl, ?_, ?_⟩
    · unfold fM_restore_130
      rw [show fM_isIn_s (Int32.ofNat k) 0 1 (s_si g1 130 0 0) = _ from e_isIn_0 (n := 2) (by omega), s_b1_s, e_bi_t (e_hs_of (by omega) hk), e_i1, e_ix (by omega) (by omega), s_b1_s, q1 140 (by omega), hi, if_neg (by decide), b1]
    · have q : ∀ a, (a < 3 ∨ 9 < a) ∧ (a < 17 ∨ 21 < a) ∧ (a < 27 ∨ 30 < a) ∧ ¬ a = 43 ∧ ¬ a = 130 ∧ ¬ a = 132 → g2.1 a = g.1 a := fun a ha => by rw [b5 a ⟨ha.2.2.2.2.1, ha.2.2.2.2.2⟩, e_sN ha.2.2.2.2.1, q1 a ⟨ha.1, ha.2.1, ha.2.2.1, ha.2.2.2.1⟩]
      have q0 : ∀ a, ¬ a = 43 ∧ ¬ a = 130 ∧ ¬ a = 132 → g2.1 a = g0.1 a := fun a ha => by rw [b5 a ⟨ha.2.1, ha.2.2⟩, e_sN ha.2.1, ← hg1, e_sN ha.1]
      have e130 : g2.1 130 = va_up (va_up (g.1 130) 0 0) 25 0 := by rw [b4, e_sS, q1 130 (by omega)]
      have lo : ∀ a, ¬ a = 4 ∧ ¬ a = 137 → g2.2.1 a = g.2.1 a := fun a ha => by rw [b6 a ha.2, el a ha.1]
      have lr0 : g2.2.2 = g0.2.2 := by
        rw [b7]
        show g1.2.2 = _
        rw [l1]
      have lr : ∀ a, ¬ a = 28 → g2.2.2 a = g.2.2 a := fun a ha => by rw [lr0]; exact a5 a ha
      refine ⟨e_R_cl hR (fun a ha => q a (by unfold e_rc at ha; omega)) (by rw [e130]; exact (e_f130.up (by omega)).tr (e_f130.up (by omega))) ⟨⟨lo _ (by omega), lo _ (by omega), lo _ (by omega)⟩, lr _ (by omega), lr _ (by omega), lr _ (by omega)⟩, nb, ne, 0, p, hs, ?_, ?_, ?_, ?_⟩
      · refine e_core_cg a2 (fun a h1 h2 => q0 a (by omega)) ?_ (fun a h1 h2 => q0 a (by omega)) ⟨q0 _ (by omega), by rw [lr0], q0 _ (by omega), q0 _ (by omega)⟩ (fun i hi => b2 i hi) (fun i hi => b3 i hi)
        rw [b6 _ (by omega)]
        show g1.2.1 4 = _
        rw [l1]
      · refine ⟨⟨by omega, hJ.2.1.1.2⟩, ⟨?_, ?_⟩, fun j hj => absurd hj (by omega)⟩
        · rw [b5 43 (by omega), e_sN (by omega), ← hg1, e_sS, e_ve]; rfl
        · rw [b5 43 (by omega), e_sN (by omega), ← hg1, e_sS, e_vn _ _ (by omega), a3 43 (by omega)]; exact hJ.2.1.2.1.2
      · exact ⟨by rw [e130, e_ve]; rfl, fun j i hj => absurd hj (by omega)⟩
      · exact fun j hj => absurd hj (by omega)
theorem k_restore {g : s_G} (h : e_I g) (x : Int32) : e_k1 (fC_restore_0 x g) (fM_restore_130 x) := by
  have hR := h.1
  unfold fC_restore_0
  by_cases hs : e_hs 2 x
  · obtain ⟨k, hk, rfl⟩ := e_hs_k (by omega) hs
    rw [if_neg hs.1, if_pos (show Int32.ofNat k < 2 from hs.2)]
    have him : e_im k g := by
      have : k = 0 ∨ k = 1 := by omega
      rcases this with rfl | rfl
      · exact hR.2.2.2.1.1
      · exact hR.2.2.2.1.2
    have no : g.1 140 k = 0 → fM_restore_130 (Int32.ofNat k) g = some (0, s_si g 130 0 0) := by
      intro h0
      unfold fM_restore_130
      rw [show fM_isIn_s (Int32.ofNat k) 0 1 (s_si g 130 0 0) = _ from e_isIn_0 (n := 2) (by omega), s_b1_s, e_bi_t hs, e_i1, e_ix (by omega) (by omega), s_b1_s, h0, if_pos rfl]
    have : k = 0 ∨ k = 1 := by omega
    rcases him with ⟨c1, c2⟩ | ⟨c1, c2, _⟩
    · rcases this with rfl | rfl
      · rw [if_pos (show Int32.ofNat 0 = 0 from rfl), if_pos (show g.1 86 3 = 0 from c1)]
        exact e_no h 0 rfl (no c2)
      · rw [if_neg (by decide), if_pos (show Int32.ofNat 1 = 1 from rfl), if_pos (show g.1 104 3 = 0 from c1)]
        exact e_no h 0 rfl (no c2)
    · obtain ⟨g0, g1, g2, a1, a2, a3, a4⟩ := e_restore_k h hk c2
      refine ⟨1, g1, g2, ?_, a3, a4⟩
      rcases this with rfl | rfl
      · rw [if_pos (show Int32.ofNat 0 = 0 from rfl), if_neg (show ¬ g.1 86 3 = 0 by rw [show g.1 86 3 = 1 from c1]; decide), e_gB_0, show e_cp3 3 17 27 87 94 99 g = some g0 from a1, s_b1_s, a2, s_b1_s, if_pos (show Int32.ofNat 0 = 0 from rfl)]
      · rw [if_neg (show ¬ Int32.ofNat 1 = 0 by decide), if_pos (show Int32.ofNat 1 = 1 from rfl), if_neg (show ¬ g.1 104 3 = 0 by rw [show g.1 104 3 = 1 from c1]; decide), if_neg (show ¬ Int32.ofNat 1 = 0 by decide), e_gB_1, show e_cp3 3 17 27 105 112 117 g = some g0 from a1, s_b1_s, a2, s_b1_s, if_pos (show Int32.ofNat 1 = 1 from rfl)]
  · refine e_no h 0 ?_ ?_
    · by_cases h0 : x < 0
      · rw [if_pos h0]
      · rw [if_neg h0, if_neg (show ¬ x < 2 from fun h1 => hs ⟨h0, h1⟩)]
    · unfold fM_restore_130
      rw [show fM_isIn_s x 0 1 (s_si g 130 0 0) = _ from e_isIn_0 (n := 2) (by omega), s_b1_s, e_bi_f hs, e_i0]
