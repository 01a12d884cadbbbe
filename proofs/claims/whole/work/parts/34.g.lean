-- CAMP: the call
theorem e_R_p {g g' : s_G} (h : e_R g) (q : ∀ a, (85 ≤ a ∧ a ≤ 124) ∨ a = 127 ∨ a = 129 ∨ a = 134 ∨ a = 140 ∨ a = 144 ∨ a = 145 ∨ a = 148 → g'.1 a = g.1 a) (h0 : g'.1 0 15 = g.1 0 15) (hk : ∀ k, k = 28 ∨ k = 30 ∨ k = 31 ∨ k = 32 ∨ k = 34 ∨ k = 37 → g'.1 130 k = g.1 130 k) (tp : e_tp (g'.1 1 1) (g'.1 130 2) (g'.1 2) (g'.1 131)) (fa : g'.1 0 1 = g'.1 130 10) (bo : e_bo (g'.1 37) (g'.1 130 42) (g'.1 150)) (hl : (g'.2.1 88 = g.2.1 88 ∧ g'.2.1 106 = g.2.1 106 ∧ g'.2.1 139 = g.2.1 139) ∧ g'.2.2 100 = g.2.2 100 ∧ g'.2.2 118 = g.2.2 118) (ok : ∀ k, k < 40 → s_okw (g'.2.2 33 k) = true) : e_R g' := by
  obtain ⟨⟨a1, a2⟩, ⟨b1, b2, b3⟩, ⟨c1, c2, c3⟩, ⟨d1, d2⟩, d3⟩ := h
  obtain ⟨⟨l1, l2, l3⟩, l4, l5⟩ := hl
  refine ⟨⟨tp, fa⟩, ⟨?_, ?_, ?_⟩, ⟨?_, ?_, bo⟩, ⟨e_im_cg d1 (by omega) (fun a _ _ => q a (by omega)) (q _ (by omega)) (q _ (by omega)) l1 l3 l4, e_im_cg d2 (by omega) (fun a _ _ => q a (by omega)) (q _ (by omega)) (q _ (by omega)) l2 l3 l5⟩, ok⟩
  · rw [q 122 (by omega), q 123 (by omega), q 144 (by omega), hk 28 (by omega)]; exact b1
  · rw [q 122 (by omega), q 124 (by omega), q 145 (by omega), hk 30 (by omega), hk 31 (by omega)]; exact b2
  · rw [q 122 (by omega), hk 32 (by omega)]; exact b3
  · rw [q 127 (by omega), hk 34 (by omega)]; exact c1
  · rw [h0, q 129 (by omega), q 148 (by omega), hk 37 (by omega)]; exact c2
/-- what the reference does of a text that is as told -/
theorem t_campM {M : s_G} {L : Int32} {nb ne : Nat} (hH : e_HW nb ne (M.1 133)) : ∃ M', s_lp (fun (x : Int32 × s_G) => fM_camp_130_49 L x.1 x.2) (0, M) = some (L, M') ∧ M'.1 132 = t_so (fun k => if k < 47 then M.1 133 k else M.1 132 k) ne ∧ (∀ k, k < 17 → M'.2.1 137 k = M.2.1 138 k) ∧ M'.1 130 = va_up (M.1 130) 25 0 ∧ (∀ a, ¬ a = 130 ∧ ¬ a = 132 → M'.1 a = M.1 a) ∧ (∀ a, ¬ a = 137 → M'.2.1 a = M.2.1 a) ∧ M'.2.2 = M.2.2 := by
  obtain ⟨⟨i, Y⟩, ⟨h1, h2, h3⟩, hlp⟩ := e_lpN (B := fun (y : Int32 × s_G) => fM_camp_130_49 L y.1 y.2) (fun k (y : Int32 × s_G) => y.1 = Int32.ofNat k ∧ (∀ j, y.2.1 132 j = if j < k then M.1 133 j else M.1 132 j) ∧ e_fx 132 132 M y.2) 47 (x := (0, M)) (by
    intro k y hk hy
    obtain ⟨i, Y⟩ := y
    obtain ⟨h1, h2, h3⟩ := hy
    dsimp only at h1 h2 h3
    subst h1
    refine ⟨(Int32.ofNat (k + 1), s_si Y 132 k (M.1 133 k)), ?_, rfl, ?_, h3.tr (e_fx.si (by omega) (by omega))⟩
    · unfold fM_camp_130_49
      rw [if_pos (show Int32.ofNat k < 47 from e_T (b := 47) hk (by omega)), e_ix hk (by omega), s_b1_s, e_ix (show k < 375 by omega) (by omega), s_b1_s, e_inc, h3.1 133 (by omega)]
    · intro j
      dsimp only
      rw [e_sS]
      by_cases hq : j = k
      · subst hq; rw [e_ve, if_pos (by omega)]
      · rw [e_vn _ _ hq, h2 j]
        by_cases hq2 : j < k
        · rw [if_pos hq2, if_pos (by omega)]
        · rw [if_neg hq2, if_neg (by omega)]) ⟨rfl, fun j => by rw [if_neg (by omega)], e_fx.rf _ _ _⟩
  dsimp only at h1 h2 h3
  subst h1
  obtain ⟨⟨i, Z⟩, ⟨g1, g2, g3, g4, g5⟩, hlp2⟩ := e_lpN (B := fun (y : Int32 × s_G) => fM_camp_130_75 L y.1 y.2) (fun k (y : Int32 × s_G) => y.1 = Int32.ofNat k ∧ (∀ j, j < k → y.2.2.1 137 j = M.2.1 138 j) ∧ y.2.1 = Y.1 ∧ (∀ a, ¬ a = 137 → y.2.2.1 a = M.2.1 a) ∧ y.2.2.2 = M.2.2) 17 (x := (0, Y)) (by
    intro k y hk hy
    obtain ⟨i, Z⟩ := y
    obtain ⟨g1, g2, g3, g4, g5⟩ := hy
    dsimp only at g1 g2 g3 g4 g5
    subst g1
    refine ⟨(Int32.ofNat (k + 1), s_sl Z 137 k (M.2.1 138 k)), ?_, rfl, ?_, g3, ?_, g5⟩
    · unfold fM_camp_130_75
      rw [if_pos (show Int32.ofNat k < 17 from e_T (b := 17) hk (by omega)), e_ix hk (by omega), s_b1_s, e_inc, g4 138 (by omega)]
    · intro j hj
      dsimp only
      rw [e_lS]
      by_cases hq : j = k
      · subst hq; rw [e_ve]
      · rw [e_vn _ _ hq]; exact g2 j (by omega)
    · intro a ha
      dsimp only
      rw [e_lN ha]; exact g4 a ha) ⟨rfl, fun j hj => absurd hj (by omega), rfl, fun a _ => by rw [show (0, Y).2.2.1 a = M.2.1 a from by rw [h3.2]], by rw [show (0, Y).2.2.2 = M.2.2 from by rw [h3.2]]⟩
  dsimp only at g1 g2 g3 g4 g5
  subst g1
  have z132 : Z.1 132 = fun k => if k < 47 then M.1 133 k else M.1 132 k := by
    rw [g3]; funext j; exact h2 j
  have hHz : e_HW nb ne (Z.1 132) := e_HW_cg hH (fun k hk => by rw [z132]; exact if_pos hk)
  obtain ⟨W, w1, w2, w3⟩ := t_startSo hHz
  refine ⟨s_si W 130 25 0, ?_, ?_, ?_, ?_, ?_, ?_, ?_⟩
  · rw [hlp]
    apply s_lp_out
    dsimp only
    unfold fM_camp_130_49
    rw [if_neg (by decide), hlp2]
    have : s_lp (fun (y : Int32 × s_G) => fM_camp_130_75 L y.1 y.2) (Int32.ofNat 17, Z) = some (L, s_si W 130 25 0) := by
      apply s_lp_out
      dsimp only
      unfold fM_camp_130_75
      rw [if_neg (by decide), w1, s_b1_s]
      rfl
    rw [this]
    rfl
  · rw [e_sN (by omega), w2, z132]
  · intro k hk
    show W.2.1 137 k = _
    rw [w3.2]; exact g2 k hk
  · rw [e_sS, w3.1 130 (by omega), g3, h3.1 130 (by omega)]
  · intro a ha
    rw [e_sN ha.1, w3.1 a (by omega), g3, h3.1 a (by omega)]
  · intro a ha
    show W.2.1 a = _
    rw [w3.2]; exact g4 a ha
  · show W.2.2 = _
    rw [w3.2]; exact g5
/-- what the class does of it -/
theorem t_campC {C' M' : s_G} {nb ne : Nat} {v : Int32} (hD : t_D nb ne C' M') : ∃ g7, (s_b1 (fP_copyFrom_3_10 (s_si C' 0 1 (C'.1 1 10))) fun g4 => s_b1 (fT_begin_17 g4) fun g5 => s_b1 (fS_clear_27 g5) fun g6 => s_b1 (fH_clear_43 g6) fun g7 => some (v, g7)) = some (v, g7) ∧ e_C3 nb ne g7 (M'.1 133) ∧ e_NM nb ne (g7.2.1 4) (M'.2.1 138) ∧ e_T17 g7 (t_so (M'.1 133) ne) ∧ g7.1 27 6 = 0 ∧ g7.1 43 = va_up (C'.1 43) 1 0 ∧ g7.1 0 = va_up (C'.1 0) 1 (C'.1 1 10) ∧ (∀ a, ¬ a = 0 ∧ (a < 3 ∨ 9 < a) ∧ (a < 17 ∨ 21 < a) ∧ ¬ a = 27 ∧ ¬ a = 43 → g7.1 a = C'.1 a) ∧ (∀ a, ¬ a = 4 → g7.2.1 a = C'.2.1 a) ∧ g7.2.2 = C'.2.2 := by
  obtain ⟨hH, hCR, hN, -, -⟩ := hD
  have h7 := hH.1.1
  have h10 := hH.2.1.1
  generalize hX : s_si C' 0 1 (C'.1 1 10) = X
  have fX : ∀ a, ¬ a = 0 → X.1 a = C'.1 a := fun a ha => by rw [← hX, e_sN ha]
  have lX : X.2 = C'.2 := by rw [← hX]; rfl
  obtain ⟨k1, k2, k3⟩ := e_cpC_fr 3 10 X
  have c1 := e_cpC_CR (d := 3) (s := 10) (g := X) (f := M'.1 133) (by omega) h7 h10 (by rw [fX 10 (by omega), fX 12 (by omega), fX 13 (by omega), fX 14 (by omega), fX 15 (by omega), fX 16 (by omega)]; exact hCR)
  have c2 := e_cpC_NM (d := 3) (s := 10) (g := X) (mn := M'.2.1 138) (by omega) h7 h10 (by rw [lX]; exact hN)
  obtain ⟨Y, y1, y2, y3⟩ := t_beginC (C := e_cpC 3 10 X) hH c1
  refine ⟨s_si (s_si (s_si (s_si Y 27 4 0) 27 5 0) 27 6 0) 43 1 0, ?_, ?_, ?_, ?_, ?_, ?_, ?_, ?_, ?_, ?_⟩
  · rw [show fP_copyFrom_3_10 X = some (e_cpC 3 10 X) from rfl, s_b1_s, y1, s_b1_s]
    rfl
  · unfold e_C3
    simp (disch := omega) only [e_sN]
    rw [y3.1 3 (by omega), y3.1 5 (by omega), y3.1 6 (by omega), y3.1 7 (by omega), y3.1 8 (by omega), y3.1 9 (by omega)]
    exact c1
  · show e_NM nb ne (Y.2.1 4) _
    rw [y3.2]; exact c2
  · unfold e_T17
    simp (disch := omega) only [e_sN]
    exact y2
  · rw [e_sN (by omega), e_sS, e_ve]
  · simp (disch := omega) only [e_sS, e_sN]
    rw [y3.1 43 (by omega), k1 43 (by omega), fX 43 (by omega)]
  · simp (disch := omega) only [e_sN]
    rw [y3.1 0 (by omega), k1 0 (by omega), ← hX, e_sS]
  · intro a ha
    simp (disch := omega) only [e_sN]
    rw [y3.1 a (by omega), k1 a (by omega), fX a ha.1]
  · intro a ha
    show Y.2.1 a = _
    rw [y3.2, k2 a ha, lX]
  · show Y.2.2 = _
    rw [y3.2, k3, lX]
theorem k_camp {g : s_G} (h : e_I g) : e_k1 (fC_camp_0 g) fM_camp_130 := by
  obtain ⟨hR, nb0, ne0, n0, p0, hs0, hJ⟩ := id h
  obtain ⟨⟨N, hN, t1, t2⟩, hby⟩ := hR.1.1
  have hok := hR.2.2.2.2
  have ebo := hR.2.2.1.2.2
  have eC : fC_camp_0 g = s_b2 (s_b1 (fQ_startText_1 900 g) (fun g1 => fP_readText_10_1 g1)) fun v3 g2 => if v3 = (-1 : Int32) then (some ((-1 : Int32) - (g2.1 1 11), (s_si g2 0 1 (g2.1 1 10)))) else s_b1 (fP_copyFrom_3_10 (s_si g2 0 1 (g2.1 1 10))) fun g4 => s_b1 (fT_begin_17 g4) fun g5 => s_b1 (fS_clear_27 g5) fun g6 => s_b1 (fH_clear_43 g6) fun g7 => some (v3, g7) := by
    unfold fC_camp_0
    rw [t_b1_b2]
  rcases t_campT (C := g) (M := g) hN t1 t2 hby with ⟨L, C', M0, nb, ne, x1, x2, -, -, x5, x6, -⟩ | ⟨C', M0, x2, -, -, x6, -⟩
  · obtain ⟨g7, w1, -, -, -, w5, w6, w7, w8, w9, w10⟩ := t_campC (v := Int32.ofNat L) x5
    have k130 : g7.1 130 = g.1 130 := by rw [w8 130 (by omega), (x6 130 (by omega)).1]
    rcases t_campT (C := g) (M := g7) hN t1 (by rw [k130]; exact t2) (by rw [w8 131 (by omega), (x6 131 (by omega)).1]; exact hby) with ⟨L', C'', M', nb', ne', z1, z2, z3, z4, z5, z6, z7⟩ | ⟨C'', M', z2, -⟩
    · rw [x2] at z2
      obtain ⟨e1, e2⟩ := Prod.mk.inj (Option.some.inj z2)
      obtain rfl : L = L' := e_in (by omega) (by omega) e1
      subst e2
      obtain ⟨g7', v1, v2, v3, v4, -⟩ := t_campC (v := Int32.ofNat L) z5
      rw [w1] at v1
      obtain rfl : g7 = g7' := (Prod.mk.inj (Option.some.inj v1)).2
      obtain ⟨G, u1, u2, u3, u4, u5, u6, u7⟩ := t_campM (L := Int32.ofNat L) z5.1
      have hH := z5.1
      have h7 := hH.1.1
      have h10 := hH.2.1.1
      generalize hF : (fun k => if k < 47 then M'.1 133 k else M'.1 132 k) = F at u2
      have eF : ∀ k, k < 47 → F k = M'.1 133 k := fun k hk => by rw [← hF]; exact if_pos hk
      have hHF : e_HW nb' ne' F := e_HW_cg hH eF
      -- what is unchanged, from the first to the last
      have q7 : ∀ a, ¬ a = 130 ∧ ¬ a = 132 ∧ ¬ a = 133 ∧ ¬ a = 138 ∧ ¬ a = 141 ∧ ¬ a = 142 → G.1 a = g7.1 a := fun a ha => by
        rw [u5 a ⟨ha.1, ha.2.1⟩, (z7.1 a ⟨ha.1, ha.2.2.1, ha.2.2.2.1, ha.2.2.2.2.1, ha.2.2.2.2.2⟩).1, e_sN ha.1]
      have q : ∀ a, ¬ a ≤ 16 ∧ (a < 17 ∨ 21 < a) ∧ ¬ a = 27 ∧ ¬ a = 43 ∧ ¬ a = 130 ∧ ¬ a = 132 ∧ ¬ a = 133 ∧ ¬ a = 138 ∧ ¬ a = 141 ∧ ¬ a = 142 → G.1 a = g.1 a := fun a ha => by
        rw [q7 a (by omega), w8 a (by omega), (x6 a (by omega)).1]
      have lq : ∀ a, ¬ a = 1 ∧ ¬ a = 4 ∧ ¬ a = 137 ∧ (a < 10 ∨ 16 < a) ∧ ¬ a = 130 ∧ ¬ a = 133 ∧ ¬ a = 138 ∧ ¬ a = 141 ∧ ¬ a = 142 → G.2.1 a = g.2.1 a := fun a ha => by
        rw [u6 a (by omega), (z7.1 a (by omega)).2]
        show g7.2.1 a = _
        rw [w9 a (by omega), (x6 a (by omega)).2.1]
      have lr : ∀ a, ¬ a = 1 ∧ (a < 10 ∨ 16 < a) → G.2.2 a = g.2.2 a := fun a ha => by
        rw [u7, z7.2.1]
        show g7.2.2 a = _
        rw [w10, (x6 a ha).2.2]
      have k : ∀ j, ¬ j = 25 → (j = 1 ∨ 13 < j) → G.1 130 j = g.1 130 j := fun j h1 h2 => by
        rw [u4, e_vn _ _ h1, z7.2.2 j (by omega), e_sS, e_vn _ _ (by omega), k130]
      have g17 : ∀ b, 17 ≤ b → b ≤ 21 → G.1 b = g7.1 b := fun b b1 b2 => q7 b (by omega)
      obtain ⟨B1, B2, ⟨B3, B4⟩, B5, B6, B7, B8⟩ := z4
      refine ⟨Int32.ofNat L, g7, G, ?_, ?_, ?_, nb', ne', 0, p0, hs0, ⟨?_, ?_, ?_, ?_, ?_, ?_⟩, ?_, ?_, ?_⟩
      · rw [eC, x2, s_b2_s, if_neg (t_ne_m1 (by omega)), w1]
      · exact z3 _ u1
      · refine e_R_p hR (fun a ha => q a (by omega)) ?_ (fun j hj => k j (by omega) (by omega)) ?_ ?_ ?_ ⟨⟨lq _ (by omega), lq _ (by omega), lq _ (by omega)⟩, lr _ (by omega), lr _ (by omega)⟩ (by rw [lr 33 (by omega)]; exact hok)
        · rw [q7 0 (by omega), w7, e_vn _ _ (by omega), (x6 0 (by omega)).1]
        · refine ⟨⟨0, by omega, ?_, ?_⟩, ?_⟩
          · rw [q7 1 (by omega), w8 1 (by omega)]; exact B3
          · rw [u4, e_vn _ _ (by omega)]; exact B4
          · rw [q7 2 (by omega), w8 2 (by omega), u5 131 (by omega)]; exact B2
        · rw [q7 0 (by omega), w7, e_ve, u4, e_vn _ _ (by omega), B7, B8]
        · rw [q 37 (by omega), k 42 (by omega) (by omega), q 150 (by omega)]; exact ebo
      · rw [u2]; exact e_HW_cg hHF (fun j hj => t_so_hd hj)
      · rw [u2]
        refine e_CR_cg (f := M'.1 133) h7 h10 ?_ (fun j hj => by rw [t_so_hd hj]; exact eF j hj)
        rw [q7 3 (by omega), q7 (3 + 2) (by omega), q7 (3 + 3) (by omega), q7 (3 + 4) (by omega), q7 (3 + 5) (by omega), q7 (3 + 6) (by omega)]
        exact v2
      · have e4 : G.2.1 (3 + 1) = g7.2.1 4 := by
          rw [u6 _ (by omega), (z7.1 _ (by omega)).2]; rfl
        rw [e4]
        refine ⟨fun b hb => ?_, fun b hb => ?_⟩
        · rw [u3 b (by omega)]; exact v3.1 b hb
        · rw [u3 (7 + b) (by omega)]; exact v3.2 b hb
      · rw [u2]
        exact e_TA_cg (a := 17) v4 (fun b b1 b2 => g17 b b1 (by omega)) (fun j j1 j2 => t_so_cg eF ne' j h10 (by omega))
      · rw [u2]; exact t_so_SW hHF
      · refine ⟨fun j hj => ?_, Or.inl ⟨?_, ?_⟩⟩
        · rw [lr _ (by omega)]; exact hJ.1.2.2.2.2.2.1 j hj
        · rw [q7 27 (by omega)]; exact w5
        · rw [u2]; exact t_so_hi hHF ne' 133 (Nat.le_refl _) (by omega) (by omega)
      · refine ⟨⟨by omega, hJ.2.1.1.2⟩, ⟨?_, ?_⟩, fun j hj => absurd hj (by omega)⟩
        · rw [q7 43 (by omega), w6, e_ve]; rfl
        · rw [q7 43 (by omega), w6, e_vn _ _ (by omega), (x6 43 (by omega)).1]; exact hJ.2.1.2.1.2
      · exact ⟨by rw [u4, e_ve]; rfl, fun j i hj => absurd hj (by omega)⟩
      · exact fun j hj => absurd hj (by omega)
    · rw [x2] at z2
      exact absurd (Prod.mk.inj (Option.some.inj z2)).1 (t_ne_m1 (by omega))
  · generalize hg1 : s_si C' 0 1 (C'.1 1 10) = g1
    have f1 : ∀ a, ¬ a = 0 → g1.1 a = C'.1 a := fun a ha => by rw [← hg1, e_sN ha]
    have l1 : g1.2 = C'.2 := by rw [← hg1]; rfl
    have k130 : g1.1 130 = g.1 130 := by rw [f1 130 (by omega), (x6 130 (by omega)).1]
    rcases t_campT (C := g) (M := g1) hN t1 (by rw [k130]; exact t2) (by rw [f1 131 (by omega), (x6 131 (by omega)).1]; exact hby) with ⟨L', C'', M', nb', ne', z1, z2, -⟩ | ⟨C'', M', z2, z3, z4, z6, z7⟩
    · rw [x2] at z2
      exact absurd (Prod.mk.inj (Option.some.inj z2)).1.symm (t_ne_m1 (by omega))
    · rw [x2] at z2
      obtain ⟨-, e2⟩ := Prod.mk.inj (Option.some.inj z2)
      subst e2
      obtain ⟨F1, ⟨F2, F3⟩, F4, a, a9, F5, F6⟩ := z4
      have q1 : ∀ a, ¬ a = 130 ∧ ¬ a = 133 ∧ ¬ a = 138 ∧ ¬ a = 141 ∧ ¬ a = 142 → M'.1 a = g1.1 a := fun a ha => by
        rw [(z7.1 a ha).1, e_sN ha.1]
      have q : ∀ a, ¬ a = 0 ∧ ¬ a = 1 ∧ (a < 10 ∨ 16 < a) ∧ ¬ a = 130 ∧ ¬ a = 133 ∧ ¬ a = 138 ∧ ¬ a = 141 ∧ ¬ a = 142 → M'.1 a = g.1 a := fun a ha => by
        rw [q1 a (by omega), f1 a ha.1, (x6 a (by omega)).1]
      have lq : ∀ a, ¬ a = 1 ∧ (a < 10 ∨ 16 < a) ∧ ¬ a = 130 ∧ ¬ a = 133 ∧ ¬ a = 138 ∧ ¬ a = 141 ∧ ¬ a = 142 → M'.2.1 a = g.2.1 a := fun a ha => by
        rw [(z7.1 a (by omega)).2]
        show g1.2.1 a = _
        rw [l1, (x6 a (by omega)).2.1]
      have lr : ∀ a, ¬ a = 1 ∧ (a < 10 ∨ 16 < a) → M'.2.2 a = g.2.2 a := fun a ha => by
        rw [z7.2.1]
        show g1.2.2 a = _
        rw [l1, (x6 a ha).2.2]
      have k : ∀ j, (j = 1 ∨ 13 < j) → M'.1 130 j = g.1 130 j := fun j h2 => by
        rw [z7.2.2 j (by omega), e_sS, e_vn _ _ (by omega), k130]
      refine ⟨-1 - C'.1 1 11, g1, M', ?_, ?_, ?_, nb0, ne0, n0, p0, hs0, ?_, ?_⟩
      · rw [eC, x2, s_b2_s, if_pos rfl, hg1]
      · rw [z3, F5, F6]
      · refine e_R_p hR (fun a ha => q a (by omega)) ?_ (fun j hj => k j (by omega)) ?_ ?_ ?_ ⟨⟨lq _ (by omega), lq _ (by omega), lq _ (by omega)⟩, lr _ (by omega), lr _ (by omega)⟩ (by rw [lr 33 (by omega)]; exact hok)
        · rw [q1 0 (by omega), ← hg1, e_sS, e_vn _ _ (by omega), (x6 0 (by omega)).1]
        · refine ⟨⟨0, by omega, ?_, F3⟩, ?_⟩
          · rw [q1 1 (by omega), f1 1 (by omega)]; exact F2
          · rw [q1 2 (by omega), f1 2 (by omega)]; exact F1
        · rw [q1 0 (by omega), ← hg1, e_sS, e_ve]; exact F4
        · rw [q 37 (by omega), k 42 (by omega), q 150 (by omega)]; exact ebo
      · exact e_core_cg hJ.1 (fun a h1 h2 => q a (by omega)) (lq _ (by omega)) (fun a h1 h2 => q a (by omega)) ⟨q _ (by omega), lr _ (by omega), q _ (by omega), q _ (by omega)⟩ (fun i hi => by rw [q 132 (by omega)]) (fun i hi => by rw [lq 137 (by omega)])
      · exact e_H_cg hJ.2 (fun a h1 h2 => q a (by omega)) (k 25 (by omega)) (q 135 (by omega))
