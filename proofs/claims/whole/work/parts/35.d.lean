-- SENTENCES: brackets, 'not', names, comparisons
theorem t_bracket {n m ne d a p o s : Nat} {t : t_Tk} {C M : s_G} {KC KM : s_G → Option (Int32 × s_G)} (hK : t_KS n m ne d KC KM) (h : t_P n m t a p C M) (hS : t_S ne o s d C M) : t_OS n m ne d a o s C M (s_b2 (KC C) fun v8 g7 => if v8 = 0 then (some ((0 : Int32), g7)) else s_b2 (fQ_passSign_1 (41 : Int32) g7) fun v10 g9 => if v10 = 0 then (some ((0 : Int32), g9)) else some ((1 : Int32), g9)) (s_b2 (KM M) fun v2 g1 => if v2 = 0 then (some ((0 : Int32), g1)) else s_b1 (fM_isSign_130 (41 : Int32) g1) fun v3 => if v3 = 0 then (s_b2 (fM_bad_130 (1 : Int32) g1) fun v5 g4 => if v5 = 0 ∨ v5 = 1 then some (v5, g4) else none) else s_b1 (fM_go_130 g1) fun g6 => some ((1 : Int32), g6)) := by
  rcases hK C M t a p o s h hS with ⟨C2, M2, t2, a2, p2, o2, s2, k1, k2, k3, k4, k5, k6, k7, k8, k9⟩ | ⟨C2, M2, k1, k2, k3, k4, k5, k6⟩
  · rw [k1, s_b2_s, if_neg (by decide), k2, s_b2_s, if_neg (by decide)]
    obtain ⟨hB, ha, hp, ho, hC, hM⟩ := id k3
    unfold fQ_passSign_1
    rw [show fQ_isSign_1 41 C2 = _ from t_isSC ho hC (c := 41) (by omega), show fM_isSign_130 41 M2 = _ from t_isSM ho hM (c := 41) (by omega), s_b1_s, s_b1_s]
    by_cases h1 : t_sg t2 41
    · rw [e_bi_t h1, if_neg (by decide), if_neg (by decide)]
      obtain ⟨C3, M3, t3, a3, p3, g1, g2, g3, g4, g5, g6⟩ := t_next k3 (by have := h1.1; omega)
      refine Or.inl ⟨C3, M3, t3, a3, p3, o2, s2, by rw [g1, s_b1_s, s_b2_s, if_neg (by decide)], by rw [g2, s_b1_s], g3, t_S_w k4 g5.w g6.w, k5, ?_, k7.tr (t_A_w (s := s) g5.w g6.w) (Nat.le_refl _), k8.tr g5.w.y, k9.tr g6.w.y⟩
      rw [g6.2.2.1 47 (by omega)]
      exact t_X_cg k6 (t_A_w g5.w g6.w)
    · rw [e_bi_f h1, if_pos rfl, if_pos rfl]
      obtain ⟨C3, M3, f1, f2, f3, f4, f5⟩ := t_fail k3 1 (fun _ => rfl)
      exact Or.inr ⟨C3, M3, by rw [f1, s_b2_s, t_or0, s_b2_s, if_pos rfl], by rw [f2, s_b2_s, t_or0], f3, t_fl k4 f4, k8.tr f4.y, k9.tr f5.y⟩
  · rw [k1, s_b2_s, if_pos rfl, k2, s_b2_s, if_pos rfl]
    exact Or.inr ⟨C2, M2, rfl, rfl, k3, k4, k5, k6⟩
theorem t_not {n m ne d a p o s : Nat} {t : t_Tk} {C M : s_G} {KC KM : s_G → Option (Int32 × s_G)} (hK : t_KS n m ne d KC KM) (h : t_P n m t a p C M) (hS : t_S ne (o + 1) s d C M) (hs : s ≤ 2 * o) : t_OS n m ne d a o s C M (s_b2 (KC C) fun v12 g11 => s_b1 (fS_addStep_32_1019 (0 : Int32) (0 : Int32) g11) fun g13 => if v12 = 0 ∨ v12 = 1 then some (v12, g13) else none) (fM_readNot_130 KM M) := by
  unfold fM_readNot_130
  rcases hK C M t a p (o + 1) s h hS with ⟨C2, M2, t2, a2, p2, o2, s2, k1, k2, k3, k4, k5, k6, k7, k8, k9⟩ | ⟨C2, M2, k1, k2, k3, k4, k5, k6⟩
  · have ho2 := k4.1.1.1
    have hs40 : s2 < 40 := by omega
    rw [k1, s_b2_s, show fS_addStep_32_1019 0 0 C2 = _ from t_addC (w := 1019) rfl hs40 k4.1.2.2.2.1, s_b1_s, t_or1, k2, s_b2_s, if_neg (by decide), t_addM hs40 k4.1.2.2.2.2, s_b2_s]
    have hA : t_A s2 C2 M2 (t_aC 1019 0 0 s2 C2) (t_aM 1 (M2.1 130 47) 0 0 s2 M2) := t_aCM_A
    have hA' : t_A s2 C2 M2 (t_aC 1019 0 0 s2 C2) (s_si (t_aM 1 (M2.1 130 47) 0 0 s2 M2) 130 47 (Int32.ofNat s2)) := ⟨hA.1, fun k hk => by rw [e_sN (by omega)]; exact hA.2 k hk⟩
    refine Or.inl ⟨_, _, t2, a2, p2, o2, s2 + 1, rfl, rfl, t_P_hi (t_a_P k3) (by omega), t_S_47 (t_a_S k4 rfl (by omega)), by omega, ?_, ?_, k8.tr t_aC_y, (k9.tr t_aM_y).tr (t_yM.s0 (by omega))⟩
    · rw [e_sS, e_ve]
      obtain ⟨ky, hy1, hy2⟩ := k6
      refine ⟨s2, rfl, ?_⟩
      obtain ⟨d1, d2, d3, d4⟩ := t_aM_nd (M := M2) (s := s2) (x1 := 1) (x2 := M2.1 130 47) (x3 := 0) (x4 := 0)
      obtain ⟨c1, c2, c3⟩ := t_aC_st (C := C2) (w := 1019) (s := s2) (x2 := 0) (x3 := 0)
      rw [show s2 + 1 - s = (s2 - s) + 1 by omega, e_sN (by omega)]
      refine ⟨by omega, by omega, Or.inr (Or.inl ⟨ky, d1, by rw [d2]; exact hy1, by rw [Nat.add_sub_cancel]; exact c1, ?_⟩)⟩
      rw [Nat.add_sub_cancel]
      exact t_tr_cg (B := s2) (J := s2) (by omega) (fun k hk => hA.2 k hk) (fun k hk => hA.1 k hk) (s2 - s) _ ky s s2 (by omega) (Nat.le_refl _) hy2
    · exact k7.tr hA' (by omega)
  · obtain ⟨hok, q, hq, h4⟩ := k4
    obtain ⟨C3, z1, z2, z3, z4, z5⟩ := t_addF (w := 1019) (x2 := 0) (x3 := 0) rfl hq h4 hok
    rw [k1, s_b2_s, show fS_addStep_32_1019 0 0 C2 = _ from z1, s_b1_s, t_or0, k2, s_b2_s, if_pos rfl]
    exact Or.inr ⟨C3, M2, rfl, rfl, t_F_cg k3 z2 z3 (fun _ _ => rfl) rfl, z4, k5.tr z5, k6⟩
theorem t_of {n m ne d a p o s w : Nat} {t : t_Tk} {C M : s_G} {K : Int32 → s_G → Option (Int32 × s_G)} (h : t_P n m t a p C M) (hS : t_S ne (o + 1) s d C M) (hs : s ≤ 2 * o) (hw : w = 23 ∨ w = 24) : t_OS n m ne d a o s C M (fS_readOne_32_1_3_151 K (some (1000 + w)) C) (fM_readOf_130 (Int32.ofNat w) M) := by
  unfold fS_readOne_32_1_3_151 fM_readOf_130 fM_readEventName_130
  rw [t_b1_b2, hS.2.2.1.2.2]
  have ho := hS.1.1.1
  have hwo : s_okw (some (1000 + w)) = true := by rcases hw with rfl | rfl <;> rfl
  rcases t_named_ev h hS.2.2.1.1 hS.2.2.1.2.1 hS.2.2.2 with ⟨k, C2, M2, t2, a2, p2, x0, x1, x2, x3, x4, x5, x6, x7, x8⟩ | ⟨C2, M2, x1, x2, x3, x4, x5⟩
  · have hS2 := t_S_w hS x7 x8
    have hl := t_leaf (w := w) (x2 := 0) (x3 := Int32.ofNat k) (y2 := Int32.ofNat k) (y3 := 0) (y4 := 0) x5 hS2 hs (by omega) (fun _ => ⟨k, x1, rfl, rfl⟩) (fun h => by omega)
    rw [x2, s_b2_s, x3, s_b2_s, t_or1, s_b2_s, if_neg (by decide), x4, show (50 : Int32) + Int32.ofNat w = Int32.ofNat (50 + w) from by rw [Int32.ofNat_add]; rfl]
    have hl2 := hl.pre (a := a) (t_A_w x7 x8) x7.y x8.y
    rw [show (s_b1 (fS_addStep_32 (some (1000 + w)) 0 (Int32.ofNat k) C2) fun g18 => if Int32.ofNat k = (-1 : Int32) then (some ((0 : Int32), g18)) else some ((1 : Int32), g18)) = (s_b1 (fS_addStep_32 (some (1000 + w)) 0 (Int32.ofNat k) C2) fun g21 => some ((1 : Int32), g21)) from by
      congr 1
      funext g18
      have hne := hS.2.2.1.1
      exact if_neg (t_ne_m1 (by omega))]
    exact hl2
  · have hq := t_fl hS x4
    obtain ⟨hok, q, hq1, hq2⟩ := hq
    obtain ⟨C3, z1, z2, z3, z4, z5⟩ := t_addF (w := 1000 + w) (x2 := 0) (x3 := -1) hwo hq1 hq2 hok
    rw [x1, s_b2_s, z1, s_b1_s, if_pos rfl, x2, s_b2_s, t_or0, s_b2_s, if_pos rfl]
    exact Or.inr ⟨C3, M2, rfl, rfl, t_F_cg x3 z2 z3 (fun _ _ => rfl) rfl, z4, x4.y.tr z5, x5.y⟩
theorem t_cmpr {n m ne d a p o s w : Nat} {t : t_Tk} {C M : s_G} (h : t_P n m t a p C M) (hS : t_S ne (o + 1) s d C M) (hs : s ≤ 2 * o) (hw : 25 ≤ w ∧ w ≤ 28) : t_OS n m ne d a o s C M (fS_readComparison_32_1 (some (1000 + w)) C) (fM_readCompare_130 (Int32.ofNat w) M) := by
  obtain ⟨hB, ha, hp, ho, hC, hM⟩ := id h
  have ho20 := hS.1.1.1
  have hwo : s_okw (some (1000 + w)) = true := by
    show (Nat.ble 1000 (1000 + w) && Nat.blt (1000 + w) 1029) = true
    rw [Nat.ble_eq_true_of_le (by omega)]
    exact Nat.ble_eq_true_of_le (show 1000 + w + 1 ≤ 1029 by omega)
  unfold fS_readComparison_32_1 fM_readCompare_130
  rw [show fQ_isSign_1 60 C = _ from t_isSC ho hC (c := 60) (by omega), show fQ_isSign_1 61 C = _ from t_isSC ho hC (c := 61) (by omega), show fQ_isSign_1 62 C = _ from t_isSC ho hC (c := 62) (by omega), show fM_isSign_130 60 M = _ from t_isSM ho hM (c := 60) (by omega), show fM_isSign_130 61 M = _ from t_isSM ho hM (c := 61) (by omega), show fM_isSign_130 62 M = _ from t_isSM ho hM (c := 62) (by omega)]
  simp only [s_b1_s]
  have main : (t.2.1 = 60 ∨ t.2.1 = 61 ∨ t.2.1 = 62) → t.1 = 5 → t_OS n m ne d a o s C M (fS_readComparison_32_1_33 (some (1000 + w)) C) (fM_readCompare_130_33 (Int32.ofNat w) M) := by
    intro hv h5
    unfold fS_readComparison_32_1_33 fM_readCompare_130_33
    rw [(hC.2.2.2.2.2 h5).2.2, (hM.2.2.2.2.2 h5).2]
    obtain ⟨C1, M1, t1, a1, p1, n1, n2, n3, n4, n5, n6⟩ := t_next h (by omega)
    rw [n1, s_b1_s, n2, s_b1_s]
    obtain ⟨hB1, ha1, hp1, ho1, hC1, hM1⟩ := id n3
    have hS1 := t_S_w hS n5.w n6.w
    by_cases h4 : t1.1 = 4
    · have hv1 := ho1.2.2.2.1 h4
      rw [if_pos ((t_c5 ho1 hC1).2.2.1.mpr h4), (hC1.2.2.2.2.1 h4).2.2, t_addC hwo (by omega) hS1.1.2.2.2.1, s_b1_s]
      have e2 : fM_readNumber_130 0 999 M1 = s_b1 (fM_go_130 (s_si M1 130 13 (Int32.ofNat t1.2.1))) fun g4 => some ((1 : Int32), g4) := by
        unfold fM_readNumber_130 fM_isIn_s
        rw [if_pos ((t_m7 ho1 hM1).2.2.2.1.mpr h4), (hM1.2.2.2.2.1 h4).2, if_neg (e_nn (by omega)), if_neg (show ¬ 999 < Int32.ofNat t1.2.1 from e_F (a := 999) (by omega) (by omega)), s_b1_s, if_neg (by decide)]
      rw [e2]
      have hP2 : t_P n m t1 a1 p1 (t_aC (1000 + w) (Int32.ofNat t.2.1) (Int32.ofNat t1.2.1) s C1) (s_si M1 130 13 (Int32.ofNat t1.2.1)) := t_P_13 (t_P_c n3 (by unfold t_aC; rw [e_sN (by omega), e_sN (by omega), e_sN (by omega)]; rfl) (by unfold t_aC; rw [e_sN (by omega), e_sN (by omega), e_sN (by omega)]; rfl) rfl (by show (s_sr C1 33 s (some (1000 + w))).2.2 1 = _; exact e_rN (by omega)))
      obtain ⟨C3, M3, t3, a3, p3, r1, r2, r3, r4, r5, r6⟩ := t_next hP2 (by omega)
      have m13 : M3.1 130 13 = Int32.ofNat t1.2.1 := by rw [r6.2.2.1 13 (by omega), e_sS, e_ve]
      have wM3 : t_wM M1 M3 := t_wM.tr ⟨fun b hb => ⟨e_sN hb, rfl⟩, rfl, fun j hj => by rw [e_sS, e_vn _ _ (by omega)]⟩ r6.w
      have m44 : M3.1 130 44 = Int32.ofNat s := by rw [wM3.2.2 44 (by omega)]; exact hS1.1.2.2.2.2
      rw [r1, s_b1_s, r2, s_b1_s, s_b2_s, if_neg (by decide), m13, t_addM (by omega) m44, s_b2_s, show (50 : Int32) + Int32.ofNat w = Int32.ofNat (50 + w) from by rw [Int32.ofNat_add]; rfl]
      -- as if the class had gone on first
      have hSa : t_S ne (o + 1) (s + 1) d (t_aC (1000 + w) (Int32.ofNat t.2.1) (Int32.ofNat t1.2.1) s C1) (t_aM (Int32.ofNat (50 + w)) 0 (Int32.ofNat t1.2.1) (Int32.ofNat t.2.1) s M3) := t_a_S (t_S_w hS1 (t_wC.rf C1) wM3) hwo (by omega)
      have hSb := t_S_w hSa r5.w (t_wM.rf _)
      have hA0 : t_A s C M C1 M3 := (t_A_w (s := s) n5.w n6.w).tr (t_A_w (s := s) (t_wC.rf C1) wM3) (Nat.le_refl _)
      have hAa : t_A s C1 M3 (t_aC (1000 + w) (Int32.ofNat t.2.1) (Int32.ofNat t1.2.1) s C1) (t_aM (Int32.ofNat (50 + w)) 0 (Int32.ofNat t1.2.1) (Int32.ofNat t.2.1) s M3) := t_aCM_A
      have hAb : t_A s C M C3 (t_aM (Int32.ofNat (50 + w)) 0 (Int32.ofNat t1.2.1) (Int32.ofNat t.2.1) s M3) := (hA0.tr hAa (Nat.le_refl _)).tr (t_A_w (s := s) r5.w (t_wM.rf _)) (Nat.le_refl _)
      refine Or.inl ⟨C3, _, t3, a3, p3, o + 1, s + 1, rfl, rfl, ?_, t_S_47 hSb, by omega, ?_, ⟨hAb.1, fun k hk => by rw [e_sN (by omega)]; exact hAb.2 k hk⟩, (n5.w.y.tr t_aC_y).tr r5.w.y, ((n6.w.y.tr wM3.y).tr t_aM_y).tr (t_yM.s0 (by omega))⟩
      · refine t_P_hi (t_P_m r3 (fun k hk => ?_) ?_ rfl) (by omega)
        · unfold t_aM; rw [e_sS, e_vn _ _ (by omega), e_sN (by omega), e_sN (by omega), e_sN (by omega), e_sN (by omega)]
        · unfold t_aM; rw [e_sN (by omega), e_sN (by omega), e_sN (by omega), e_sN (by omega), e_sN (by omega)]
      · rw [e_sS, e_ve]
        refine ⟨s, rfl, ?_⟩
        rw [show s + 1 - s = 0 + 1 by omega]
        obtain ⟨d1, d2, d3, d4⟩ := t_aM_nd (M := M3) (s := s) (x1 := Int32.ofNat (50 + w)) (x2 := 0) (x3 := Int32.ofNat t1.2.1) (x4 := Int32.ofNat t.2.1)
        obtain ⟨c1, c2, c3⟩ := t_aC_st (C := C1) (w := 1000 + w) (s := s) (x2 := Int32.ofNat t.2.1) (x3 := Int32.ofNat t1.2.1)
        rw [e_sN (by omega), (r5.w 33 (by omega)).2.2, (r5.w 34 (by omega)).1, (r5.w 35 (by omega)).1]
        refine ⟨by omega, by omega, Or.inl ⟨rfl, w, by omega, d1, c1, fun hq => by omega, fun _ => ?_⟩⟩
        rw [d3, d4, c2, c3]
        refine ⟨rfl, rfl, ?_⟩
        rcases hv with e | e | e
        · rw [e]; exact Or.inl rfl
        · rw [e]; exact Or.inr (Or.inl rfl)
        · rw [e]; exact Or.inr (Or.inr rfl)
    · obtain ⟨Cf, Mf, f1, f2, f3, f4, f5⟩ := t_fail n3 1 (fun _ => rfl)
      rw [if_neg (fun hh => h4 ((t_c5 ho1 hC1).2.2.1.mp hh)), f1, s_b2_s, t_or0]
      refine Or.inr ⟨Cf, Mf, rfl, ?_, f3, t_fl hS1 f4, n5.w.y.tr f4.y, n6.w.y.tr f5.y⟩
      unfold fM_readNumber_130
      rw [if_neg (fun hh => h4 ((t_m7 ho1 hM1).2.2.2.1.mp hh)), f2, s_b2_s, t_or0, s_b2_s, if_pos rfl]
  by_cases q0 : t_sg t 60
  · rw [e_bi_t q0, if_neg (by decide), if_neg (by decide)]
    exact main (Or.inl q0.2) q0.1
  rw [e_bi_f q0, if_pos rfl, if_pos rfl]
  by_cases q1 : t_sg t 61
  · rw [e_bi_t q1, if_neg (by decide), if_neg (by decide)]
    exact main (Or.inr (Or.inl q1.2)) q1.1
  rw [e_bi_f q1, if_pos rfl, if_pos rfl]
  by_cases q2 : t_sg t 62
  · rw [e_bi_t q2, if_neg (by decide), if_neg (by decide)]
    exact main (Or.inr (Or.inr q2.2)) q2.1
  rw [e_bi_f q2, if_pos rfl, if_pos rfl]
  obtain ⟨Cf, Mf, f1, f2, f3, f4, f5⟩ := t_fail h 1 (fun _ => rfl)
  exact Or.inr ⟨Cf, Mf, by rw [f1, s_b2_s, t_or0], by rw [f2, s_b2_s, t_or0], f3, t_fl hS f4, f4.y, f5.y⟩
