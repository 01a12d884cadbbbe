-- DRAWS, the reference's side; drawn and odds
theorem e_draw_130 {g : s_G} {m : Nat} (h0 : 0 < m) (hm : m ≤ 1000) : fM_draw_130 (Int32.ofNat m) g = some (e_dv (g.1 130 38) (Int32.ofNat m), s_si g 130 38 (e_dq (g.1 130 38))) := by
  unfold fM_draw_130
  rw [if_neg (show ¬ Int32.ofNat m = 0 from fun h => absurd (e_in (b := 0) (by omega) (by omega) h) (by omega))]
  unfold e_dv e_dy
  rw [e_dq_sp]
def e_MD (g : s_G) (x : (Nat → Int32) × Int32) : Prop := g.1 132 = x.1 ∧ g.1 130 38 = x.2
/-- row 132 and the seed alone have changed -/
def e_md (g g' : s_G) : Prop := e_fr (fun a => ¬ a = 130 ∧ ¬ a = 132) g g' ∧ ∀ k, ¬ k = 38 → g'.1 130 k = g.1 130 k
theorem e_md.rf (g : s_G) : e_md g g := ⟨⟨fun _ _ => rfl, rfl⟩, fun _ _ => rfl⟩
theorem e_md.tr {g g' g'' : s_G} (h : e_md g g') (h' : e_md g' g'') : e_md g g'' := ⟨h.1.tr h'.1, fun k hk => (h'.2 k hk).trans (h.2 k hk)⟩
theorem e_md.si {g : s_G} {v : Int32} : e_md g (s_si g 130 38 v) := ⟨⟨fun a ha => e_sN ha.1, rfl⟩, fun k hk => by rw [e_sS, e_vn _ _ hk]⟩
theorem e_md.fx {g g' : s_G} (h : e_fx 132 132 g g') : e_md g g' := ⟨h.fr (fun a ha => by omega), fun k hk => by rw [h.1 130 (by omega)]⟩
theorem e_drawsFor {g : s_G} {nb ne b : Nat} {x : (Nat → Int32) × Int32} (hH : e_HW nb ne x.1) (hS : e_SW nb ne x.1) (hb : b < nb) (hM : e_MD g x) : ∃ g', fM_drawsFor_130 (Int32.ofNat b) g = some g' ∧ e_MD g' (e_da ne b x) ∧ e_md g g' := by
  have hn := hH.1.1
  have hm := hH.2.1.1
  unfold fM_drawsFor_130 e_da
  rw [show fM_draw_130 4 g = _ from e_draw_130 (m := 4) (by omega) (by omega), s_b2_s, hM.2]
  have f1 : e_md g (s_si g 130 38 (e_dq x.2)) := e_md.si
  have e1 : (s_si g 130 38 (e_dq x.2)).1 132 = x.1 := by rw [e_sN (by omega)]; exact hM.1
  have s1 : (s_si g 130 38 (e_dq x.2)).1 130 38 = e_dq x.2 := by rw [e_sS, e_ve]
  rw [show Int32.ofNat 4 = (4 : Int32) from rfl]
  by_cases h3 : e_dv x.2 4 = 3
  · rw [if_pos h3, if_pos h3]
    exact ⟨_, rfl, ⟨e1, s1⟩, f1⟩
  · rw [if_neg h3, if_neg h3, e1, hH.2.1.2]
    by_cases h0 : ne = 0
    · rw [if_pos (show Int32.ofNat ne = 0 by rw [h0]; rfl), if_pos h0]
      exact ⟨_, rfl, ⟨e1, s1⟩, f1⟩
    · rw [if_neg (show ¬ Int32.ofNat ne = 0 from fun h => h0 (e_in (b := 0) (by omega) (by omega) h)), if_neg h0, e_draw_130 (by omega) (by omega), s_b2_s, s1]
      obtain ⟨he, ee⟩ := e_de_c (e_dq x.2) (show 0 < ne by omega) hm
      rw [ee]
      generalize hG : s_si (s_si g 130 38 (e_dq x.2)) 130 38 (e_dq (e_dq x.2)) = G
      have f2 : e_md g G := by rw [← hG]; exact f1.tr e_md.si
      have e2 : G.1 132 = x.1 := by rw [← hG, e_sN (by omega)]; exact e1
      have s2 : G.1 130 38 = e_dq (e_dq x.2) := by rw [← hG, e_sS, e_ve]
      rw [e_whySay (by omega) (by omega), s_b1_s, e2]
      by_cases hw : e_why x.1 b (e_de ne (e_dq x.2)) = 0
      · rw [if_pos hw, if_pos hw]
        by_cases h2 : e_dv x.2 4 = 2
        · rw [if_pos h2, if_pos h2]
          obtain ⟨g', a1, a2, a3⟩ := e_live1 (g := G) (b := b) (e := e_de ne (e_dq x.2)) (x := 0) (y := 0) (by omega) (by omega)
          rw [a1, s_b1_s]
          exact ⟨g', rfl, ⟨by rw [a2, e2], by rw [a3.1 130 (by omega)]; exact s2⟩, f2.tr (e_md.fx a3)⟩
        · rw [if_neg h2, if_neg h2]
          obtain ⟨hk, ek⟩ := e_kd hH he
          obtain ⟨g', a1, a2, a3⟩ := e_live0 (g := G) (b := b) (e := e_de ne (e_dq x.2)) (x := 0) (y := 0) (by omega) (by omega) hk (by rw [e2]; exact ek)
          rw [a1, s_b1_s]
          exact ⟨g', rfl, ⟨by rw [a2, e2]; rfl, by rw [a3.1 130 (by omega)]; exact s2⟩, f2.tr (e_md.fx a3)⟩
      · rw [if_neg hw, if_neg hw]
        exact ⟨G, rfl, ⟨e2, s2⟩, f2⟩
theorem e_mDay {g : s_G} {nb ne : Nat} {x : (Nat → Int32) × Int32} {y z : Int32} (hH : e_HW nb ne x.1) (hS : e_SW nb ne x.1) (hM : e_MD g x) (hyz : z < y) : ∃ g', fM_drawDays_130_24 y z g = some (.inl (z + 1, g')) ∧ e_MD g' (e_d1 nb ne x) ∧ e_md g g' := by
  have hn := hH.1.1
  have hm := hH.2.1.1
  have hok := e_ok.rf hH hS
  have key : ∀ G, e_MD G (e_d0 x) → e_md g G → ∃ g', fM_drawDays_130_59 y z G = some (.inl (z + 1, g')) ∧ e_MD g' (e_d1 nb ne x) ∧ e_md g g' := by
    intro G hG hf
    unfold fM_drawDays_130_59
    obtain ⟨h0, _⟩ := e_d0_ok hok
    obtain ⟨w, ⟨h1, h2, h3⟩, h4⟩ := e_lpN (B := fun (x : Int32 × s_G) => fM_drawDays_130_62 y z x.1 x.2) (fun k (w : Int32 × s_G) => w.1 = Int32.ofNat k ∧ e_MD w.2 (e_das ne (e_d0 x) k) ∧ e_md g w.2) nb (x := (0, G)) (by
      intro k w hk hw
      obtain ⟨w1, w2⟩ := w
      obtain ⟨h1, h2, h3⟩ := hw
      dsimp only at h1 h2 h3
      subst h1
      obtain ⟨ok, _⟩ := e_das_ok h0 k (by omega)
      obtain ⟨g', a1, a2, a3⟩ := e_drawsFor ok.2.2 ok.2.1 hk h2
      refine ⟨(Int32.ofNat (k + 1), g'), ?_, rfl, a2, h3.tr a3⟩
      unfold fM_drawDays_130_62
      rw [h2.1, ok.2.2.1.2, if_pos (e_T hk (by omega)), a1, s_b1_s, e_inc]) ⟨rfl, hG, hf⟩
    obtain ⟨w1, w2⟩ := w
    dsimp only at h1 h2 h3
    subst h1
    obtain ⟨ok, _⟩ := e_das_ok h0 nb (Nat.le_refl _)
    obtain ⟨g', a1, a2, a3⟩ := e_oneDay (g := w2) hn (by rw [h2.1]; exact ok.2.2.1.2)
    refine ⟨g', ?_, ⟨by rw [a2, h2.1]; rfl, by rw [a3.1 130 (by omega)]; exact h2.2⟩, h3.tr (e_md.fx a3)⟩
    rw [h4]
    apply s_lp_out
    dsimp only
    unfold fM_drawDays_130_62
    rw [h2.1, ok.2.2.1.2, if_neg (e_F (Nat.le_refl nb) (by omega)), a1, s_b1_s]
    rfl
  unfold fM_drawDays_130_24
  rw [if_pos hyz, show fM_draw_130 4 g = _ from e_draw_130 (m := 4) (by omega) (by omega), s_b2_s, hM.2, show Int32.ofNat 4 = (4 : Int32) from rfl]
  have f1 : e_md g (s_si g 130 38 (e_dq x.2)) := e_md.si
  have e1 : (s_si g 130 38 (e_dq x.2)).1 132 = x.1 := by rw [e_sN (by omega)]; exact hM.1
  have s1 : (s_si g 130 38 (e_dq x.2)).1 130 38 = e_dq x.2 := by rw [e_sS, e_ve]
  generalize hG : s_si g 130 38 (e_dq x.2) = G at f1 e1 s1
  have hwy : fM_why_130 3 0 0 0 0 G = some (e_why3 x.1) := by
    unfold fM_why_130 e_why3
    rw [if_neg (by decide), if_neg (by decide), if_neg (by decide), if_pos rfl, e1]
    split
    · rfl
    · split <;> rfl
  by_cases h0 : e_dv x.2 4 = 0
  · rw [if_pos h0, hwy, s_b1_s]
    by_cases hw : e_why3 x.1 = 0
    · rw [if_pos hw]
      obtain ⟨g', a1, a2, a3⟩ := e_live3 (g := G) (x := 0) (y := 0) (z := 0) (w := 0)
      rw [a1, s_b1_s]
      refine key g' ⟨?_, ?_⟩ (f1.tr (e_md.fx a3))
      · unfold e_d0
        dsimp only
        rw [if_pos h0, if_pos hw, a2, e1]
      · rw [a3.1 130 (by omega)]; exact s1
    · rw [if_neg hw]
      refine key G ⟨?_, s1⟩ f1
      unfold e_d0
      dsimp only
      rw [if_pos h0, if_neg hw]; exact e1
  · rw [if_neg h0]
    refine key G ⟨?_, s1⟩ f1
    unfold e_d0
    dsimp only
    rw [if_neg h0]; exact e1
theorem e_mDays {g : s_G} {nb ne n d : Nat} {f : Nat → Int32} {s : Int32} (hH : e_HW nb ne f) (hS : e_SW nb ne f) (hf : g.1 132 = f) (hd : f 47 = Int32.ofNat d) (hd4 : d ≤ 400) (hN : n ≤ 1000) : ∃ g', fM_drawDays_130 (Int32.ofNat n) s g = some (Int32.ofNat (min n (400 - d)), g') ∧ e_MD g' (e_dd nb ne (f, s) (min n (400 - d))) ∧ e_md g g' := by
  have hn := hH.1.1
  have hm := hH.2.1.1
  unfold fM_drawDays_130
  have e1 : (400 : Int32) - Int32.ofNat d = Int32.ofNat (400 - d) := (Int32.ofNat_sub 400 d hd4).symm
  have e2 : (if Int32.ofNat n < Int32.ofNat (400 - d) then Int32.ofNat n else Int32.ofNat (400 - d)) = Int32.ofNat (min n (400 - d)) := by
    by_cases h : n < 400 - d
    · rw [if_pos (e_T h (by omega)), Nat.min_eq_left (by omega)]
    · rw [if_neg (e_F (by omega) (by omega)), Nat.min_eq_right (by omega)]
  rw [hf, hd, e1, e_least, s_b1_s, e2]
  generalize hmm : min n (400 - d) = m
  have hm4 : d + m ≤ 400 := by omega
  obtain ⟨w, ⟨h1, h2, h3⟩, h4⟩ := e_lpN (B := fun (x : Int32 × s_G) => fM_drawDays_130_24 (Int32.ofNat m) x.1 x.2) (fun k (w : Int32 × s_G) => w.1 = Int32.ofNat k ∧ e_MD w.2 (e_dd nb ne (f, s) k) ∧ e_md g w.2) m (x := (0, s_si g 130 38 s)) (by
    intro k w hk hw
    obtain ⟨w1, w2⟩ := w
    obtain ⟨h1, h2, h3⟩ := hw
    dsimp only at h1 h2 h3
    subst h1
    obtain ⟨ok, _⟩ := e_dd_ok (x := (f, s)) (e_ok.rf hH hS) hd k (by omega)
    obtain ⟨g', a1, a2, a3⟩ := e_mDay ok.2.2 ok.2.1 h2 (show Int32.ofNat k < Int32.ofNat m from e_T hk (by omega))
    exact ⟨(Int32.ofNat (k + 1), g'), by dsimp only; rw [a1, e_inc], rfl, a2, h3.tr a3⟩) ⟨rfl, ⟨by rw [e_sN (by omega)]; exact hf, by rw [e_sS, e_ve]; rfl⟩, e_md.si⟩
  obtain ⟨w1, w2⟩ := w
  dsimp only at h1 h2 h3
  subst h1
  refine ⟨w2, ?_, h2, h3⟩
  rw [h4]
  apply s_lp_out
  dsimp only
  unfold fM_drawDays_130_24
  rw [if_neg (e_F (Nat.le_refl m) (by omega))]
  rfl
theorem k_drawn {g : s_G} (h : e_I g) (x s : Int32) : e_k1 (fC_drawn_0 x s g) (fM_drawn_130 x s) := by
  obtain ⟨hR, nb, ne, n, p, hs, hJ⟩ := id h
  obtain ⟨hH, hC, hT, hS⟩ := e_I.jc hJ
  have hn8 := hJ.2.1.1.1
  have hn := hH.1.1
  have hm := hH.2.1.1
  obtain ⟨d, hd, ed⟩ := hS.2.2.1
  unfold fC_drawn_0
  by_cases h4 : ¬ x < 1 ∧ ¬ Int32.ofNat 60 < x
  · rw [if_neg h4.1, if_neg (show ¬ 60 < x from h4.2)]
    obtain ⟨m, hm1, hm2, rfl⟩ := e_rng1 (by omega) h4.1 h4.2
    have f1 := e_cpA_fx 22 17 g
    have f1' : e_fr e_nd g (s_si (e_cpA 22 17 g) 128 0 s) := (e_nd_fx f1).tr e_nd_si
    obtain ⟨g4, a1, a2, a3⟩ := e_drawDays (g := s_si (e_cpA 22 17 g) 128 0 s) (x := (g.1 132, s)) (n := m) (e_C3_cg hn hm hC (fun a ha => f1'.1 a ⟨by omega, by omega⟩) (fun _ _ => rfl)) hH hS ⟨e_TA_cg (a := 22) (e_cpA_TA (d := 22) (s := 17) (by omega) hT) (fun c _ _ => e_sN (by omega)) (fun _ _ _ => rfl), by rw [e_sS, e_ve]⟩ ed hd (by omega)
    have f2 : e_fr e_nd g g4 := f1'.tr a3
    rw [e_cp_22_17, s_b1_s, show fD_start_128 s (e_cpA 22 17 g) = some (s_si (e_cpA 22 17 g) 128 0 s) from rfl, s_b1_s, a1, s_b2_s]
    have q : ∀ a, (a < 22 ∨ 26 < a) ∧ ¬ a = 128 → g4.1 a = g.1 a := fun a ha => f2.1 a ha
    by_cases hz : d = 400
    · rw [if_neg (show ¬ (0 : Int32) < Int32.ofNat (min m (400 - d)) by rw [show min m (400 - d) = 0 by omega]; decide)]
      refine ⟨_, _, _, rfl, ?_, e_I_0 (e_I_cg h (fun a ha => q a (by unfold e_kc e_rc at ha; omega)) (by rw [q 130 (by omega)]; exact e_f130.rf _) (by rw [q 130 (by omega)]) f2.2) 0⟩
      unfold fM_drawn_130
      rw [show (60 : Int32) = Int32.ofNat 60 from rfl, e_isIn_1 (by omega), s_b1_s, e_bi_t h4, e_i1, q 132 (by omega), ed, hz, if_pos (show Int32.ofNat 400 = 400 from rfl)]
      rw [show min m (400 - 400) = 0 by omega]; rfl
    · have hpos : 0 < min m (400 - d) := by omega
      rw [if_pos (show (0 : Int32) < Int32.ofNat (min m (400 - d)) from e_T (a := 0) hpos (by omega))]
      obtain ⟨g5, b1, b2, b3, b4⟩ := e_keepTrial (f := g.1 132) (f' := (e_dd nb ne (g.1 132, s) (min m (400 - d))).1) (e_HC_cg hJ.2.1 (fun a _ _ => q a (by omega))) (e_TA_cg (a := 17) hT (fun b _ _ => q b (by omega)) (fun _ _ _ => rfl)) a2.1
      rw [b1, s_b1_s]
      have c3 : ∀ a, (a < 17 ∨ 26 < a ∧ a < 43 ∨ 84 < a) ∧ ¬ a = 128 → g5.1 a = g.1 a := by
        intro a ha
        rw [b4.1 a (by omega), q a (by omega)]
      have e132 : (s_si g5 130 0 0).1 132 = g.1 132 := by rw [e_sN (by omega), c3 132 (by omega)]
      have hM : e_HM n hs (s_si g5 130 0 0) := e_HM_cg hJ.2.2.1 (by rw [e_sS, e_vn _ _ (by omega), c3 130 (by omega)]) (by rw [e_sN (by omega), c3 135 (by omega)])
      obtain ⟨g6, s1, s2, s3, s4⟩ := e_snap hn8 hM
      have e6 : g6.1 132 = g.1 132 := (s4.1 132 (by omega)).trans e132
      obtain ⟨g7, p1, p2, p3⟩ := e_mDays (g := g6) (s := s) (n := m) hH hS e6 ed hd (by omega)
      refine ⟨_, g5, g7, rfl, ?_, ?_⟩
      · unfold fM_drawn_130
        rw [show (60 : Int32) = Int32.ofNat 60 from rfl, e_isIn_1 (by omega), s_b1_s, e_bi_t h4, e_i1, c3 132 (by omega), ed, if_neg (show ¬ Int32.ofNat d = 400 from fun hq => hz (e_in (b := 400) (by omega) (by omega) hq)), s1, s_b1_s, p1, s_b2_s]
      · rw [e132] at s2
        obtain ⟨ok, _⟩ := e_dd_ok (x := (g.1 132, s)) (e_ok.rf hH hS) ed (min m (400 - d)) (by omega)
        -- the draws' cell is no part of what is agreed in
        have G1 : ∃ g', e_fr (fun a => ¬ a = 128) g5 g' ∧ e_fr (fun a => a < 17 ∨ 26 < a ∧ a < 43 ∨ 84 < a) g g' ∧ g'.1 128 = g.1 128 := by
          refine ⟨(s_row g5.1 128 (g.1 128), g5.2.1, g5.2.2), ⟨fun a ha => e_ra _ _ ha, rfl⟩, ⟨fun a ha => ?_, b4.2.trans f2.2⟩, e_rs g5.1 128 (g.1 128)⟩
          by_cases hq : a = 128
          · subst hq; exact e_rs g5.1 128 (g.1 128)
          · show s_row g5.1 128 _ a = _
            rw [e_ra _ _ hq, c3 a ⟨ha, hq⟩]
        obtain ⟨gx, x1, x2, x3⟩ := G1
        have G2 : e_fr (fun a => ¬ a = 128) g7 (s_row g7.1 128 (g.1 128), g7.2.1, g7.2.2) := ⟨fun a ha => e_ra _ _ ha, rfl⟩
        generalize hy : (s_row g7.1 128 (g.1 128), g7.2.1, g7.2.2) = gy at G2
        have y3 : gy.1 128 = g.1 128 := by rw [← hy]; exact e_rs g7.1 128 (g.1 128)
        have hI : e_I gy := by
          refine e_done (g1 := gx) hR hJ (e_TA_cg (a := 17) b2 (fun a _ _ => x1.1 a (by omega)) (fun _ _ _ => rfl)) (e_HC_cg b3 (fun a _ _ => x1.1 a (by omega))) x2 (by rw [G2.1 132 (by omega)]; exact p2.1) (e_HM_cg s2 (by rw [G2.1 130 (by omega), p3.2 25 (by omega)]) (by rw [G2.1 135 (by omega), p3.1.1 135 (by omega)])) ?_ ?_ ok.1 ok.2.1 (e_psh_SW hS hn8 hJ.2.2.2)
          · rw [G2.1 130 (by omega), x1.1 130 (by omega)]
            have q6 : e_f130 (g5.1 130) (g6.1 130) := by
              rw [s3, e_sS]
              exact (e_f130.up (by omega)).tr (e_f130.up (by omega))
            refine q6.tr ⟨⟨?_, ?_, ?_, ?_⟩, ?_, ?_, ?_, ?_, ?_⟩ <;> exact p3.2 _ (by omega)
          · refine ⟨fun a ha => ?_, ?_⟩
            · by_cases hq : a = 128
              · subst hq; rw [y3, x3]
              · rw [G2.1 a hq, p3.1.1 a ⟨ha.1, ha.2.1⟩, s4.1 a ⟨ha.1, ha.2.2⟩, e_sN ha.1, x1.1 a hq]
            · rw [G2.2, p3.1.2, s4.2, x1.2]; rfl
        refine e_I_cg hI (fun a ha => ?_) ?_ ?_ ?_
        · exact (G2.1 a (by unfold e_kc e_rc at ha; omega)).symm
        · rw [G2.1 130 (by omega)]; exact e_f130.rf _
        · rw [G2.1 130 (by omega)]
        · exact G2.2.symm
  · refine e_no h (-1) ?_ ?_
    · by_cases h5 : x < 1
      · rw [if_pos h5]
      · rw [if_neg h5, if_pos (show 60 < x from Classical.byContradiction (fun h6 => h4 ⟨h5, h6⟩))]
    · unfold fM_drawn_130
      rw [show (60 : Int32) = Int32.ofNat 60 from rfl, e_isIn_1 (by omega), s_b1_s, e_bi_f h4, e_i0]
-- laid aside, and taken back
theorem e_layAside {g : s_G} : ∃ g', fM_layAside_130 g = some g' ∧ (∀ k, k < 86 → g'.1 136 k = g.1 132 (47 + k)) ∧ e_fx 136 136 g g' := by
  unfold fM_layAside_130
  obtain ⟨y, ⟨h1, h2, h3⟩, h4⟩ := e_lpN (B := fun (x : Int32 × s_G) => fM_layAside_130_2 x.1 x.2) (fun k (x : Int32 × s_G) => x.1 = Int32.ofNat k ∧ (∀ j, j < k → x.2.1 136 j = g.1 132 (47 + j)) ∧ e_fx 136 136 g x.2) 86 (x := (0, g)) (by
    intro k x hk hx
    obtain ⟨x1, x2⟩ := x
    obtain ⟨h1, h2, h3⟩ := hx
    dsimp only at h1 h2 h3
    subst h1
    refine ⟨(Int32.ofNat (k + 1), s_si x2 136 k (g.1 132 (47 + k))), ?_, rfl, ?_, h3.tr (e_fx.si (by omega) (by omega))⟩
    · unfold fM_layAside_130_2
      simp (disch := omega) only [e_86, e_47, e_lt, hk, ↓reduceIte, ← Int32.ofNat_add, e_ix, s_b1_s, e_inc]
      rw [h3.1 132 (by omega)]
    · intro j hj
      dsimp only
      rw [e_sS]
      by_cases hq : j = k
      · subst hq; rw [e_ve]
      · rw [e_vn _ _ hq]; exact h2 j (by omega)) ⟨rfl, fun j hj => absurd hj (by omega), e_fx.rf _ _ _⟩
  obtain ⟨y1, y2⟩ := y
  dsimp only at h1 h2 h3
  subst h1
  refine ⟨y2, ?_, h2, h3⟩
  rw [h4]
  exact s_lp_out rfl
theorem e_takeBack {g : s_G} {f : Nat → Int32} (hf : ∀ k, k < 86 → g.1 136 k = f (47 + k)) : ∃ g', fM_takeBack_130 g = some g' ∧ g'.1 132 = e_mx (g.1 132) f ∧ e_fx 132 132 g g' := by
  unfold fM_takeBack_130
  obtain ⟨y, ⟨h1, h2, h3⟩, h4⟩ := e_lpN (B := fun (x : Int32 × s_G) => fM_takeBack_130_2 x.1 x.2) (fun k (x : Int32 × s_G) => x.1 = Int32.ofNat k ∧ (∀ j, x.2.1 132 j = if 47 ≤ j ∧ j < 47 + k then f j else g.1 132 j) ∧ e_fx 132 132 g x.2) 86 (x := (0, g)) (by
    intro k x hk hx
    obtain ⟨x1, x2⟩ := x
    obtain ⟨h1, h2, h3⟩ := hx
    dsimp only at h1 h2 h3
    subst h1
    refine ⟨(Int32.ofNat (k + 1), s_si x2 132 (47 + k) (f (47 + k))), ?_, rfl, ?_, h3.tr (e_fx.si (by omega) (by omega))⟩
    · unfold fM_takeBack_130_2
      simp (disch := omega) only [e_86, e_47, e_lt, hk, ↓reduceIte, ← Int32.ofNat_add, e_ix, s_b1_s, e_inc]
      rw [h3.1 136 (by omega), hf k hk]
    · intro j
      dsimp only
      rw [e_sS]
      by_cases hq : j = 47 + k
      · subst hq; rw [e_ve, if_pos (by omega)]
      · rw [e_vn _ _ hq, h2]
        by_cases hj : 47 ≤ j ∧ j < 47 + k
        · rw [if_pos hj, if_pos (by omega)]
        · rw [if_neg hj, if_neg (by omega)]) ⟨rfl, fun j => by rw [if_neg (by omega)], e_fx.rf _ _ _⟩
  obtain ⟨y1, y2⟩ := y
  dsimp only at h1 h2 h3
  subst h1
  refine ⟨y2, ?_, ?_, h3⟩
  · rw [h4]
    exact s_lp_out rfl
  · funext j
    rw [h2]
    rfl
theorem e_mx_id {f f' : Nat → Int32} (h : e_so f f') : e_mx f' f = f := by
  funext k
  unfold e_mx
  by_cases hk : 47 ≤ k ∧ k < 133
  · rw [if_pos hk]
  · rw [if_neg hk]; exact h k (by omega)
