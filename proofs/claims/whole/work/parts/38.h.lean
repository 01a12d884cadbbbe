theorem k_book {g : s_G} (h : e_I g) (x : Int32) : e_k1 (fC_book_0 x g) (fM_book_130 x) := by
  obtain ⟨hR, nb, ne, n, p, hs, hJ⟩ := id h
  obtain ⟨⟨N, hN, t1, t2⟩, hby⟩ := hR.1.1
  obtain ⟨hH, hC3, hT, hSW⟩ := e_I.jc hJ
  have hok := hR.2.2.2.2
  have ebo := hR.2.2.1.2.2
  have h7 := hH.1.1
  have h10 := hH.2.1.1
  have c30 : g.1 3 0 = Int32.ofNat nb := by rw [hC3.1.1, hH.1.2]
  have c31 : g.1 3 1 = Int32.ofNat ne := by rw [hC3.1.2.1, hH.2.1.2]
  have hnm : e_NM nb ne (g.2.1 4) (g.2.1 137) := hJ.1.2.2.1
  have main : x = 0 ∨ x = 1 → e_k1 (fC_book_0_13 x g) (fM_book_130 x) := by
    intro hx
    have hin : ∀ G : s_G, fM_isIn_s x 0 1 G = some 1 := by
      intro G
      unfold fM_isIn_s
      rcases hx with rfl | rfl <;> rfl
    have eM : ∀ G : s_G, fM_book_130 x G = s_b1 (fM_begin_130 (400 : Int32) (s_si G 130 0 (0 : Int32))) fun g2 => s_lp (fun y => fM_book_130_30 x y) (s_si g2 130 41 (0 : Int32)) := by
      intro G
      unfold fM_book_130
      rw [hin, s_b1_s, if_neg (by decide)]
    have eC : fC_book_0_13 x g = s_b2 (s_b1 (fQ_startText_1 400 g) (fun g1 => fB_readText_37_1_3 g1)) fun v3 g2 => if v3 = 0 then (some ((-2 : Int32) - (g2.1 1 11), (s_si g2 0 1 (g2.1 1 10)))) else s_b1 (fT_copyFrom_22_17 (s_si g2 0 1 (g2.1 1 10))) fun g4 => s_b2 (fB_judge_37_22 g4) fun v6 g5 => if x = (1 : Int32) then (if 0 < (g5.1 37 8) then (s_b1 (fC_keepTrial_0 g5) fun g7 => some (v6, g7)) else some (v6, g5)) else some (v6, g5) := by
      unfold fC_book_0_13
      rw [t_b1_b2]
    -- what the class has read, and what it holds then
    have after : ∀ C' : s_G, t_zC g C' → e_C3 nb ne C' (g.1 132) ∧ e_T17 C' (g.1 132) ∧ e_HC n p hs C' := by
      intro C' hz
      refine ⟨t_C3_cg h7 h10 hC3 (fun a h1 h2 => (hz.1 a (by omega)).1) (fun _ _ => rfl), e_TA_cg (a := 17) hT (fun b _ _ => (hz.1 b (by omega)).1) (fun _ _ _ => rfl), e_HC_cg hJ.2.1 (fun a _ _ => (hz.1 a (by omega)).1)⟩
    rcases t_bookT (x1 := x) (C := g) (M := g) hN t1 t2 hby h7 h10 c30 c31 hH.1.2 hH.2.1.2 hnm with ⟨L0, C', M0, x2, -, -, x4, x5, x6, x7⟩ | ⟨C', M0, x2, -, -, x6, -⟩
    · obtain ⟨aC, aT, aH⟩ := after C' x6
      have M0_132 : M0.1 132 = g.1 132 := by rw [(x7.1 132 (by omega)).1, e_sN (by omega)]
      have M0_HM : e_HM n hs M0 := e_HM_cg hJ.2.2.1 (by rw [x7.2.2 25 (by omega), e_sS, e_vn _ _ (by omega)]) (by rw [(x7.1 135 (by omega)).1, e_sN (by omega)])
      obtain ⟨v, gC, gM0, -, -, -, -, j1, -, -, -, ⟨j5, j6, j7⟩, -⟩ := t_bookJ hx x4 x5 hH hSW aC aT aH M0_132 M0_HM hJ.2.2.2
      have qC : ∀ a, ¬ a = 0 ∧ ¬ a = 1 ∧ (a < 17 ∨ 26 < a) ∧ (a < 37 ∨ 42 < a) ∧ (a < 43 ∨ 84 < a) → gC.1 a = g.1 a := fun a ha => by rw [j6 a (by omega), (x6.1 a (by omega)).1]
      have lC : ∀ a, ¬ a = 1 ∧ (a < 37 ∨ 42 < a) → gC.2.1 a = g.2.1 a ∧ gC.2.2 a = g.2.2 a := fun a ha => by rw [j7]; exact ⟨(x6.1 a ha).2.1, (x6.1 a ha).2.2⟩
      rcases t_bookT (x1 := x) (C := g) (M := gC) hN t1 (by rw [qC 130 (by omega)]; exact t2) (by rw [qC 131 (by omega)]; exact hby) h7 h10 c30 c31 (by rw [qC 132 (by omega)]; exact hH.1.2) (by rw [qC 132 (by omega)]; exact hH.2.1.2) (by rw [(lC 137 (by omega)).1]; exact hnm) with ⟨L, C'', M', z2, z3, z4, z5, z6, z7, z8⟩ | ⟨C'', M', z2, -⟩
      · rw [x2] at z2
        obtain ⟨-, e2⟩ := Prod.mk.inj (Option.some.inj z2)
        subst e2
        have M_132 : M'.1 132 = g.1 132 := by rw [(z8.1 132 (by omega)).1, e_sN (by omega), qC 132 (by omega)]
        have M_HM : e_HM n hs M' := e_HM_cg hJ.2.2.1 (by rw [z8.2.2 25 (by omega), e_sS, e_vn _ _ (by omega), qC 130 (by omega)]) (by rw [(z8.1 135 (by omega)).1, e_sN (by omega), qC 135 (by omega)])
        obtain ⟨v', gC', gM, n', p', hs', f', k1, k2, ⟨k3, k4, k5, k6, k7, k8, k9⟩, ⟨k10, k11, k12⟩, ⟨k13, k14, k15⟩, k16, k17, k18⟩ := t_bookJ hx z5 z6 hH hSW aC aT aH M_132 M_HM hJ.2.2.2
        rw [j1] at k1
        obtain ⟨e3, e4⟩ := Prod.mk.inj (Option.some.inj k1)
        subst e3
        subst e4
        obtain ⟨B1, B2, ⟨B3, B4⟩, B5, B6, B7, B8⟩ := z4
        have qM : ∀ a, ¬ a = 130 ∧ ¬ a = 132 ∧ ¬ a = 135 ∧ ¬ a = 136 ∧ ¬ a = 150 ∧ ¬ a = 149 → gM.1 a = gC.1 a := fun a ha => by rw [k16 a (by omega), (z8.1 a (by omega)).1, e_sN ha.1]
        have q0 : ∀ a, ¬ a = 0 ∧ ¬ a = 1 ∧ (a < 17 ∨ 26 < a) ∧ (a < 37 ∨ 42 < a) ∧ (a < 43 ∨ 84 < a) ∧ ¬ a = 130 ∧ ¬ a = 132 ∧ ¬ a = 135 ∧ ¬ a = 136 ∧ ¬ a = 150 ∧ ¬ a = 149 → gM.1 a = g.1 a := fun a ha => by rw [qM a (by omega), qC a (by omega)]
        have k130 : ∀ j, j = 1 ∨ 13 < j ∧ ¬ j = 41 ∧ ¬ j = 25 ∧ ¬ j = 42 → gM.1 130 j = g.1 130 j := fun j hj => by
          rw [k17 j (by omega), z8.2.2 j (by omega), e_sS, e_vn _ _ (by omega), qC 130 (by omega)]
        have lM : ∀ a, ¬ a = 1 ∧ (a < 37 ∨ 42 < a) ∧ ¬ a = 130 ∧ ¬ a = 149 → gM.2.1 a = g.2.1 a := fun a ha => by
          rw [k18, (z8.1 a (by omega)).2]
          exact (lC a (by omega)).1
        have rM : ∀ a, ¬ a = 1 ∧ (a < 37 ∨ 42 < a) → gM.2.2 a = g.2.2 a := fun a ha => by
          rw [k18, z8.2.1]
          exact (lC a (by omega)).2
        refine ⟨v, gC, gM, ?_, ?_, ?_, nb, ne, n', p', hs', ⟨?_, ?_, ?_, ?_, ?_, ?_⟩, ?_, k6, k9⟩
        · rw [eC, x2, s_b2_s, if_neg (by decide)]; exact j1
        · rw [eM]; exact z3 _ k2
        · refine e_R_p hR (fun a ha => q0 a (by omega)) ?_ (fun j hj => k130 j (by omega)) ?_ ?_ ?_ ⟨⟨lM _ (by omega), lM _ (by omega), lM _ (by omega)⟩, rM _ (by omega), rM _ (by omega)⟩ (by rw [rM 33 (by omega)]; exact hok)
          · rw [qM 0 (by omega), k13, e_vn _ _ (by omega), (x6.1 0 (by omega)).1]
          · refine ⟨⟨0, by omega, ?_, ?_⟩, ?_⟩
            · rw [qM 1 (by omega), k14 1 (by omega)]; exact B3
            · rw [k17 2 (by omega)]; exact B4
            · rw [qM 2 (by omega), k14 2 (by omega), k16 131 (by omega)]; exact B2
          · rw [qM 0 (by omega), k13, e_ve, k17 10 (by omega), B7, B8]
          · refine Or.inr ⟨by rw [qM 37 (by omega)]; exact k11, by rw [k12]; decide, fun k hk => ?_⟩
            rw [qM 37 (by omega)]; exact k10 k hk
        · rw [k5]; exact e_HW_cg hH (fun j hj => k7 j (by omega))
        · rw [k5]
          refine e_CR_cg h7 h10 (f := g.1 132) ?_ (fun j hj => k7 j (by omega))
          rw [q0 3 (by omega), q0 (3 + 2) (by omega), q0 (3 + 3) (by omega), q0 (3 + 4) (by omega), q0 (3 + 5) (by omega), q0 (3 + 6) (by omega)]
          exact hC3
        · rw [lM (3 + 1) (by omega), lM 137 (by omega)]; exact hnm
        · rw [k5]; exact e_TA_cg (a := 17) k3 (fun b b1 b2 => qM b (by omega)) (fun _ _ _ => rfl)
        · rw [k5]; exact k8
        · rw [k5, q0 27 (by omega), rM (27 + 1) (by omega), q0 (27 + 2) (by omega), q0 (27 + 3) (by omega)]
          exact e_SE_cg hJ.1.2.2.2.2.2 (fun j j1 j2 => k7 j (by omega)) (fun _ _ => ⟨rfl, rfl, rfl⟩)
        · exact e_HC_cg k4 (fun a h1 h2 => qM a (by omega))
      · rw [x2] at z2
        exact absurd (Prod.mk.inj (Option.some.inj z2)).1 (by decide)
    · generalize hg1 : s_si C' 0 1 (C'.1 1 10) = g1
      have f1 : ∀ a, ¬ a = 0 → g1.1 a = C'.1 a := fun a ha => by rw [← hg1, e_sN ha]
      have l1 : g1.2 = C'.2 := by rw [← hg1]; rfl
      have q : ∀ a, ¬ a = 0 ∧ ¬ a = 1 ∧ (a < 37 ∨ 42 < a) → g1.1 a = g.1 a := fun a ha => by rw [f1 a ha.1, (x6.1 a (by omega)).1]
      have l4 : ∀ a, ¬ a = 1 ∧ (a < 37 ∨ 42 < a) → g1.2.1 a = g.2.1 a := fun a ha => by rw [l1, (x6.1 a ha).2.1]
      rcases t_bookT (x1 := x) (C := g) (M := g1) hN t1 (by rw [q 130 (by omega)]; exact t2) (by rw [q 131 (by omega)]; exact hby) h7 h10 c30 c31 (by rw [q 132 (by omega)]; exact hH.1.2) (by rw [q 132 (by omega)]; exact hH.2.1.2) (by rw [l4 137 (by omega)]; exact hnm) with ⟨L, C'', M', z2, -⟩ | ⟨C'', M', z2, z3, z4, z6, z7⟩
      · rw [x2] at z2
        exact absurd (Prod.mk.inj (Option.some.inj z2)).1 (by decide)
      · rw [x2] at z2
        obtain ⟨-, e2⟩ := Prod.mk.inj (Option.some.inj z2)
        subst e2
        obtain ⟨F1, ⟨F2, F3⟩, F4, a, a9, F5, F6⟩ := z4
        have q1 : ∀ a, ¬ a = 130 ∧ ¬ a = 149 → M'.1 a = g1.1 a := fun a ha => by rw [(z7.1 a ha).1, e_sN ha.1]
        have q0 : ∀ a, ¬ a = 0 ∧ ¬ a = 1 ∧ (a < 37 ∨ 42 < a) ∧ ¬ a = 130 ∧ ¬ a = 149 → M'.1 a = g.1 a := fun a ha => by rw [q1 a (by omega), q a (by omega)]
        have k130 : ∀ j, j = 1 ∨ 13 < j ∧ ¬ j = 41 → M'.1 130 j = g.1 130 j := fun j hj => by
          rw [z7.2.2 j (by omega), e_sS, e_vn _ _ (by omega), q 130 (by omega)]
        have lG : ∀ a, ¬ a = 130 ∧ ¬ a = 149 ∧ ¬ a = 1 ∧ (a < 37 ∨ 42 < a) → M'.2.1 a = g.2.1 a := fun a ha => by
          rw [(z7.1 a ⟨ha.1, ha.2.1⟩).2]
          show g1.2.1 a = _
          exact l4 a (by omega)
        have r4 : ∀ a, ¬ a = 1 ∧ (a < 37 ∨ 42 < a) → M'.2.2 a = g.2.2 a := fun a ha => by
          rw [z7.2.1]
          show g1.2.2 a = _
          rw [l1, (x6.1 a (by omega)).2.2]
        have b37 : ∀ k, ¬ k = 5 → M'.1 37 k = g.1 37 k := fun k hk => by rw [q1 37 (by omega), f1 37 (by omega)]; exact x6.2 k hk
        refine ⟨-2 - C'.1 1 11, g1, M', ?_, ?_, ?_, nb, ne, n, p, hs, ?_, ?_⟩
        · rw [eC, x2, s_b2_s, if_pos rfl, hg1]
        · rw [eM, z3, F5, F6]
        · refine e_R_p hR (fun a ha => q0 a (by omega)) ?_ (fun j hj => k130 j (by omega)) ?_ ?_ ?_ ⟨⟨lG _ (by omega), lG _ (by omega), lG _ (by omega)⟩, r4 _ (by omega), r4 _ (by omega)⟩ (by rw [r4 33 (by omega)]; exact hok)
          · rw [q1 0 (by omega), ← hg1, e_sS, e_vn _ _ (by omega), (x6.1 0 (by omega)).1]
          · refine ⟨⟨0, by omega, ?_, F3⟩, ?_⟩
            · rw [q1 1 (by omega), f1 1 (by omega)]; exact F2
            · rw [q1 2 (by omega), f1 2 (by omega)]; exact F1
          · rw [q1 0 (by omega), ← hg1, e_sS, e_ve]; exact F4
          · unfold e_bo
            rw [b37 6 (by omega), k130 42 (by omega), q0 150 (by omega)]
            rcases ebo with hb | ⟨hb1, hb2, hb3⟩
            · exact Or.inl hb
            · exact Or.inr ⟨hb1, hb2, fun k hk => by rw [b37 (7 + k) (by omega)]; exact hb3 k hk⟩
        · exact e_core_cg hJ.1 (fun a h1 h2 => q0 a (by omega)) (lG _ (by omega)) (fun a h1 h2 => q0 a (by omega)) ⟨q0 _ (by omega), r4 _ (by omega), q0 _ (by omega), q0 _ (by omega)⟩ (fun i hi => by rw [q0 132 (by omega)]) (fun i hi => by rw [lG 137 (by omega)])
        · exact e_H_cg hJ.2 (fun a h1 h2 => q0 a (by omega)) (k130 25 (by omega)) (q0 135 (by omega))
  unfold fC_book_0
  by_cases hx0 : x = 0
  · rw [if_pos hx0]; exact main (Or.inl hx0)
  · rw [if_neg hx0]
    by_cases hx1 : x = 1
    · rw [if_pos hx1]; exact main (Or.inr hx1)
    · rw [if_neg hx1]
      refine e_no h (-1000) rfl ?_
      unfold fM_book_130
      have hnh : ¬ e_hs 2 x := by
        intro hq
        obtain ⟨k, hk, rfl⟩ := e_hs_k (by omega) hq
        have : k = 0 ∨ k = 1 := by omega
        rcases this with rfl | rfl
        · exact hx0 rfl
        · exact hx1 rfl
      rw [show fM_isIn_s x 0 1 (s_si g 130 0 0) = _ from e_isIn_0 (n := 2) (by omega), s_b1_s, e_bi_f hnh, e_i0]
