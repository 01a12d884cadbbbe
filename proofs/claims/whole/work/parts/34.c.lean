-- CAMP: boys, events
theorem t_boy {n m a p nb ne : Nat} {t : t_Tk} {C M : s_G} (h : t_P n m t a p C M) (hD : t_D nb ne C M) (ht : 2 ≤ t.1) : t_OC n m a C M (fP_readBoy_10_1 C) (fM_readBoy_130 M) := by
  obtain ⟨⟨⟨b1, b2⟩, ⟨b3, b4⟩, -⟩, hCR, -, -, -⟩ := id hD
  have c100 : C.1 10 0 = Int32.ofNat nb := by rw [hCR.1.1, b2]
  unfold fP_readBoy_10_1 fM_readBoy_130 fM_readFirst_130
  rw [show s_ix 47 0 = some 0 from rfl, s_b1_s, c100, b2]
  by_cases h7 : nb < 7
  · rw [if_pos (show Int32.ofNat nb < 7 from e_T (b := 7) h7 (by omega)), if_neg (show ¬ Int32.ofNat nb = 7 from fun hh => by have := e_in (b := 7) (by omega) (by omega) hh; omega)]
    obtain ⟨C1, M1, t1, a1, p1, n1, n2, n3, n4, n5, n6⟩ := t_next h ht
    rw [n1, s_b1_s, n2, s_b1_s, s_b2_s, if_neg (by decide)]
    have hD1 := t_D_w hD n5.w n6.w
    have c1 : C1.1 10 0 = Int32.ofNat nb := by rw [(n5.w 10 (by omega)).1, c100]
    have m1 : M1.1 133 0 = Int32.ofNat nb := by rw [(n6.w.1 133 (by omega)).1, b2]
    rw [m1]
    rcases t_new n3 hD1 (slot := nb) (by omega) with ⟨l, C2, M2, t2, a2, p2, w0, w1, w2, w3, w4, w5, w6, w7, w8⟩ | ⟨C2, M2, w2, w3, w4, w5, w6⟩
    · rw [w2, s_b2_s, w4, s_b2_s, if_neg (by decide), if_neg (by decide), c1, e_ix (show nb < 17 by omega) (by omega), s_b1_s, w3, s_b1_s]
      rcases t_num w5 (x := 1) (y := 60) (by omega) (by omega) with ⟨v, C3, M3, t3, a3, p3, v0, v1, v2, v3, v4, v5, v6, v7, v8, v9⟩ | ⟨C3, M3, v1, v2, v3, v4, v5⟩
      · have fC : t_wC (s_sl C1 11 nb (Int64.ofNat (e_pk 32 l))) C3 := w7.tr v8
        have fM : t_wM (s_sl M1 138 nb (Int64.ofNat (e_pk 27 l))) M3 := w8.tr v9
        have c3 : C3.1 10 0 = Int32.ofNat nb := by rw [(fC 10 (by omega)).1]; exact c1
        rw [show fQ_passNumber_1 1 60 C2 = _ from v3, s_b2_s, show fM_readNumber_130 1 60 M2 = _ from v4, s_b2_s, if_neg (t_ne_m1 (by omega)), c3, e_ix (show nb < 7 by omega) (by omega), s_b1_s, e_inc]
        have m3 : ∀ v, (s_si M3 133 (10 + nb) v).1 133 0 = Int32.ofNat nb := fun v => by rw [e_sS, e_vn _ _ (by omega), (fM.1 133 (by omega)).1]; exact m1
        refine Or.inl ⟨s_si (s_si C3 12 nb (Int32.ofNat v)) 10 0 (Int32.ofNat (nb + 1)), s_si (s_si M3 133 (10 + nb) (Int32.ofNat v)) 133 0 (Int32.ofNat (nb + 1)), nb + 1, ne, t3, a3, p3, rfl, ?_, ?_, ?_, ?_, ?_, ?_⟩
        · unfold fM_put_130
          rw [if_neg (by decide), show (10 : Int32) + Int32.ofNat nb = Int32.ofNat (10 + nb) from by rw [Int32.ofNat_add]; rfl, e_ix (show 10 + nb < 47 by omega) (by omega), s_b1_s, t_or1, s_b2_s, if_neg (by decide), v5, m3, e_inc]
        · exact t_P_cg v6 (by rw [e_sN (by omega), e_sN (by omega)]) (by rw [e_sN (by omega), e_sN (by omega)]) rfl rfl (fun j _ => by rw [e_sN (by omega), e_sN (by omega)]) (by rw [e_sN (by omega), e_sN (by omega)]) rfl
        · obtain ⟨⟨-, ⟨h3, h4⟩, h5, h9, h10, h11⟩, ⟨⟨-, r2, r3, r4, r5, r6⟩, r7, r8, r9⟩, hN, ⟨tt, u1, u2, u3⟩, oo, z1, z2, z3⟩ := hD1
          have c10 : C3.1 10 = C1.1 10 := (fC 10 (by omega)).1
          have c12 : C3.1 12 = C1.1 12 := (fC 12 (by omega)).1
          have c13 : C3.1 13 = C1.1 13 := (fC 13 (by omega)).1
          have c14 : C3.1 14 = C1.1 14 := (fC 14 (by omega)).1
          have c15 : C3.1 15 = C1.1 15 := (fC 15 (by omega)).1
          have c16 : C3.1 16 = C1.1 16 := (fC 16 (by omega)).1
          have c11 : C3.2.1 11 = va_up (C1.2.1 11) nb (Int64.ofNat (e_pk 32 l)) := by rw [(fC 11 (by omega)).2.1, e_lS]
          have m133 : M3.1 133 = M1.1 133 := (fM.1 133 (by omega)).1
          have m138 : M3.2.1 138 = va_up (M1.2.1 138) nb (Int64.ofNat (e_pk 27 l)) := by rw [(fM.1 138 (by omega)).2, e_lS]
          have m141 : M3.1 141 = M1.1 141 := (fM.1 141 (by omega)).1
          have m142 : M3.1 142 = M1.1 142 := (fM.1 142 (by omega)).1
          refine ⟨?_, ?_, ?_, ⟨tt, u1, ?_, ?_⟩, oo, z1, ?_, ?_⟩
          · rw [e_sS, e_sS, m133]
            refine ⟨⟨by omega, by rw [e_ve]⟩, ⟨h3, by rw [e_vn _ _ (by omega), e_vn _ _ (by omega)]; exact h4⟩, ?_, ?_, ?_, ?_⟩
            · rw [e_vn _ _ (by omega), e_vn _ _ (by omega), e_vn _ _ (by omega), e_vn _ _ (by omega), e_vn _ _ (by omega), e_vn _ _ (by omega), e_vn _ _ (by omega), e_vn _ _ (by omega)]; exact h5
            · intro j hj; rw [e_vn _ _ (by omega), e_vn _ _ (by omega)]; exact h9 j hj
            · intro j hj
              rw [e_vn _ _ (by omega)]
              by_cases hq : j = nb
              · subst hq; rw [e_ve]; exact t_c_of v2
              · rw [e_vn _ _ (by omega)]; exact h10 j (by omega)
            · intro j hj
              rw [e_vn _ _ (by omega), e_vn _ _ (by omega), e_vn _ _ (by omega), e_vn _ _ (by omega), e_vn _ _ (by omega), e_vn _ _ (by omega)]
              obtain ⟨⟨i, i1, i2⟩, i3⟩ := h11 j hj
              exact ⟨⟨i, by omega, i2⟩, i3⟩
          · simp (disch := omega) only [e_sS, e_sN]
            rw [c10, c12, c13, c14, c15, c16, m133]
            refine ⟨⟨?_, ?_, ?_, ?_, ?_, ?_⟩, ?_, ?_, ?_⟩
            · rw [e_ve, e_ve]
            · rw [e_vn _ _ (by omega), e_vn _ _ (by omega), e_vn _ _ (by omega)]; exact r2
            · rw [e_vn _ _ (by omega), e_vn _ _ (by omega), e_vn _ _ (by omega)]; exact r3
            · rw [e_vn _ _ (by omega), e_vn _ _ (by omega), e_vn _ _ (by omega)]; exact r4
            · rw [e_vn _ _ (by omega), e_vn _ _ (by omega), e_vn _ _ (by omega)]; exact r5
            · rw [e_vn _ _ (by omega), e_vn _ _ (by omega), e_vn _ _ (by omega)]; exact r6
            · intro j hj; rw [e_vn _ _ (by omega), e_vn _ _ (by omega)]; exact r7 j hj
            · intro j hj
              rw [e_vn _ _ (show ¬ 10 + j = 0 by omega)]
              by_cases hq : j = nb
              · subst hq; rw [e_ve, e_ve]
              · rw [e_vn _ _ hq, e_vn _ _ (by omega)]; exact r8 j (by omega)
            · intro j hj; rw [e_vn _ _ (by omega), e_vn _ _ (by omega), e_vn _ _ (by omega), e_vn _ _ (by omega), e_vn _ _ (by omega), e_vn _ _ (by omega)]; exact r9 j hj
          · show e_NM (nb + 1) ne (C3.2.1 11) (M3.2.1 138)
            rw [c11, m138]
            refine ⟨fun j hj => ?_, fun j hj => ?_⟩
            · by_cases hq : j = nb
              · subst hq; rw [e_ve, e_ve]; exact ⟨l, w1, rfl, rfl⟩
              · rw [e_vn _ _ hq, e_vn _ _ hq]; exact hN.1 j (by omega)
            · rw [e_vn _ _ (by omega), e_vn _ _ (by omega)]; exact hN.2 j hj
          · rw [e_sS, e_vn _ _ (by omega), e_sN (by omega), c10]; exact u2
          · intro j hj; rw [e_sN (by omega), e_sN (by omega), m142]; exact u3 j hj
          · rw [e_sS, e_vn _ _ (by omega), e_sN (by omega), c10]; exact z2
          · intro j hj; rw [e_sN (by omega), e_sN (by omega), m141]; exact z3 j hj
        · intro h2
          have := v7 h2
          have := w6 v0
          have := n4 w0
          omega
        · exact (((n5.w.x.tr t_xC.sl).tr fC.x).tr (t_xC.si (by omega) (by omega))).tr (t_xC.si (by omega) (by omega))
        · exact (((n6.w.x.tr t_xM.sl).tr fM.x).tr (t_xM.si (by omega))).tr (t_xM.si (by omega))
      · rw [show fQ_passNumber_1 1 60 C2 = _ from v1, s_b2_s, show fM_readNumber_130 1 60 M2 = _ from v2, s_b2_s, if_pos rfl]
        refine Or.inr ⟨C3, M3, rfl, ?_, v3, ((n5.w.x.tr t_xC.sl).tr w7.x).tr v4.x, ((n6.w.x.tr t_xM.sl).tr w8.x).tr v5.x⟩
        unfold fM_put_130
        rw [if_pos rfl, t_or0, s_b2_s, if_pos rfl]
    · rw [w2, s_b2_s, w3, s_b2_s, if_pos rfl, if_pos rfl]
      exact Or.inr ⟨C2, M2, rfl, rfl, w4, n5.w.x.tr w5.x, n6.w.x.tr w6.x⟩
  · obtain rfl : nb = 7 := by omega
    rw [if_neg (by decide), if_pos (by decide)]
    obtain ⟨C', M', f1, f2, f3, f4, f5⟩ := t_fail h 4 (fun h1 => by omega)
    exact Or.inr ⟨C', M', by rw [f1, s_b2_s, t_or0], by rw [f2, s_b2_s, t_or0, s_b2_s, if_pos rfl], f3, f4.x, f5.x⟩
/-- whose it is -/
theorem t_whose {n m a p nb ne : Nat} {t : t_Tk} {C M : s_G} (h : t_P n m t a p C M) (b1 : nb ≤ 7) (c0 : C.1 10 0 = Int32.ofNat nb) (m0 : M.1 133 0 = Int32.ofNat nb) (hN : ∀ j, j < nb → e_nm (C.2.1 11 j) (M.2.1 138 j)) (he : ne < 10) :
    (∃ k C' M' t' a' p', 2 ≤ t.1 ∧ k < nb ∧ s_b1 (fP_boyNamed_10 (C.2.1 1 8) C) (fun v7 => fQ_passNamed_1 v7 C) = some (Int32.ofNat k, C') ∧ fM_readWhose_130 (Int32.ofNat ne) M = some (1, M') ∧ t_P n m t' a' p' C' M' ∧ (2 ≤ t'.1 → a < a') ∧ t_wC C C' ∧ t_wM (s_si M 133 (17 + ne) (Int32.ofNat k)) M') ∨ (∃ C' M', s_b1 (fP_boyNamed_10 (C.2.1 1 8) C) (fun v7 => fQ_passNamed_1 v7 C) = some (-1, C') ∧ fM_readWhose_130 (Int32.ofNat ne) M = some (0, M') ∧ t_F C' M' ∧ t_wC C C' ∧ t_xM M M') := by
  obtain ⟨hB, ha, hp, ho, hC, hM⟩ := id h
  have hpn : ∀ x, ∃ v, fP_boyNamed_10 x C = some v := by
    intro x
    unfold fP_boyNamed_10
    refine ⟨_, t_find (B := fun y => fP_boyNamed_10_2 x y C) (p := fun j => decide (C.2.1 11 j = x)) (N := nb) (fun j hj => ?_) ?_⟩
    · try dsimp only
      unfold fP_boyNamed_10_2
      rw [c0, if_pos (e_T hj (by omega)), e_ix (show j < 17 by omega) (by omega), s_b1_s, e_inc]
      by_cases hb : C.2.1 11 j = x
      · rw [if_pos (t_cmp.mpr hb), if_pos (decide_eq_true hb)]; rfl
      · rw [if_neg (fun hh => hb (t_cmp.mp hh)), if_neg (fun hh => hb (of_decide_eq_true hh))]
    · try dsimp only
      unfold fP_boyNamed_10_2
      rw [c0, if_neg (e_F (Nat.le_refl nb) (by omega))]; rfl
  unfold fM_readWhose_130
  rw [t_isNM ho hM, s_b1_s]
  by_cases h3 : t.1 = 3
  · obtain ⟨o1, -⟩ := ho.2.2.1 h3
    obtain ⟨-, -, c8⟩ := hC.2.2.2.1 h3
    obtain ⟨-, m12⟩ := hM.2.2.2.1 h3
    have e1 : fM_findIn_138 0 (Int32.ofNat nb) (Int64.ofNat (e_pk 27 t.2.2)) M = some (t_fst (t_sm (C.2.1 11) 0 t.2.2) nb) := t_findM_138 (b := 0) o1 (fun j hj => by rw [Nat.zero_add]; exact hN j hj) (by omega)
    rw [e_bi_t h3, if_neg (by decide), c8, m12, m0, t_boyC_10 c0 b1, s_b1_s, e1, s_b1_s, show (17 : Int32) + Int32.ofNat ne = Int32.ofNat (17 + ne) from by rw [Int32.ofNat_add]; rfl, e_ix (show 17 + ne < 47 by omega) (by omega), s_b1_s, e_sS, e_ve]
    unfold fQ_passNamed_1
    rw [if_pos ((t_c5 ho hC).2.1.mpr h3)]
    rcases t_fst_c (t_sm (C.2.1 11) 0 t.2.2) nb with ⟨k, hk, hv⟩ | hv
    · rw [hv, if_neg (t_ne_m1 (by omega)), if_neg (t_ne_m1 (by omega))]
      have h' : t_P n m t a p C (s_si M 133 (17 + ne) (Int32.ofNat k)) := t_P_m h (fun j _ => by rw [e_sN (by omega)]) (e_sN (by omega)) rfl
      obtain ⟨C1, M1, t1, a1, p1, n1, n2, n3, n4, n5, n6⟩ := t_next h' (by omega)
      exact Or.inl ⟨k, C1, M1, t1, a1, p1, by omega, hk, by rw [n1, s_b1_s], by rw [n2, s_b1_s], n3, n4, n5.w, n6.w⟩
    · rw [hv, if_pos rfl, if_pos rfl]
      have h' : t_P n m t a p C (s_si M 133 (17 + ne) (-1)) := t_P_m h (fun j _ => by rw [e_sN (by omega)]) (e_sN (by omega)) rfl
      obtain ⟨Cf, Mf, f1, f2, f3, f4, f5⟩ := t_fail h' 3 (fun h1 => by omega)
      exact Or.inr ⟨Cf, Mf, by rw [f1, s_b2_s], by rw [f2, s_b2_s, t_or0], f3, f4, (t_xM.si (by omega)).tr f5.x⟩
  · obtain ⟨Cf, Mf, f1, f2, f3, f4, f5⟩ := t_fail h 1 (fun _ => rfl)
    obtain ⟨v, hv⟩ := hpn (C.2.1 1 8)
    rw [e_bi_f h3, if_pos rfl, hv, s_b1_s]
    unfold fQ_passNamed_1
    rw [if_neg (fun hh => h3 ((t_c5 ho hC).2.1.mp hh))]
    exact Or.inr ⟨Cf, Mf, by rw [f1, s_b2_s], by rw [f2, s_b2_s, t_or0], f3, f4, f5.x⟩
theorem t_b1_b2 {α β γ δ : Type} (o : Option α) (F : α → Option (β × γ)) (H : β → γ → Option δ) : s_b1 o (fun v => s_b2 (F v) H) = s_b2 (s_b1 o F) H := by cases o <;> rfl
theorem t_event {n m a p nb ne : Nat} {t : t_Tk} {C M : s_G} (h : t_P n m t a p C M) (hD : t_D nb ne C M) (ht : 2 ≤ t.1) : t_OC n m a C M (fP_readEvent_10_1 C) (fM_readEvent_130 M) := by
  obtain ⟨⟨⟨b1, b2⟩, ⟨b3, b4⟩, -⟩, hCR, -, -, -⟩ := id hD
  have c101 : C.1 10 1 = Int32.ofNat ne := by rw [hCR.1.2.1, b4]
  unfold fP_readEvent_10_1 fM_readEvent_130 fM_readFirst_130
  rw [show s_ix 47 1 = some 1 from rfl, s_b1_s, c101, b4]
  by_cases h7 : ne < 10
  · rw [if_pos (show Int32.ofNat ne < 10 from e_T (b := 10) h7 (by omega)), if_neg (show ¬ Int32.ofNat ne = 10 from fun hh => by have := e_in (b := 10) (by omega) (by omega) hh; omega)]
    obtain ⟨C1, M1, t1, a1, p1, n1, n2, n3, n4, n5, n6⟩ := t_next h ht
    rw [n1, s_b1_s, n2, s_b1_s, s_b2_s, if_neg (by decide)]
    have hD1 := t_D_w hD n5.w n6.w
    have c1 : C1.1 10 1 = Int32.ofNat ne := by rw [(n5.w 10 (by omega)).1, c101]
    have m1 : M1.1 133 1 = Int32.ofNat ne := by rw [(n6.w.1 133 (by omega)).1, b4]
    have e7 : (7 : Int32) + Int32.ofNat ne = Int32.ofNat (7 + ne) := by rw [Int32.ofNat_add]; rfl
    rw [m1, e7]
    rcases t_new n3 hD1 (slot := 7 + ne) (by omega) with ⟨l, C2, M2, t2, a2, p2, w0, w1, w2, w3, w4, w5, w6, w7, w8⟩ | ⟨C2, M2, w2, w3, w4, w5, w6⟩
    · rw [w2, s_b2_s, w4, s_b2_s, if_neg (by decide), if_neg (by decide), c1, e7, e_ix (show 7 + ne < 17 by omega) (by omega), s_b1_s, w3, s_b1_s, t_b1_b2]
      obtain ⟨⟨⟨-, g2⟩, ⟨h3, h4⟩, h5, h9, h10, h11⟩, ⟨⟨r1, r2, r3, r4, r5, r6⟩, r7, r8, r9⟩, hN, ⟨tt, u1, u2, u3⟩, oo, z1, z2, z3⟩ := hD1
      have hw := t_whose w5 (nb := nb) (ne := ne) b1 (by rw [(w7 10 (by omega)).1]; exact r1.trans g2) (by rw [(w8.1 133 (by omega)).1]; exact g2) (fun j hj => by rw [(w7 11 (by omega)).2.1, (w8.1 138 (by omega)).2, e_lS, e_lS, e_vn _ _ (by omega), e_vn _ _ (by omega)]; exact hN.1 j hj) h7
      rcases hw with ⟨k, C3, M3, t3, a3, p3, x0, x1, x2, x3, x4, x5, x6, x7⟩ | ⟨C3, M3, x1, x2, x3, x4, x5⟩
      · rw [x2, s_b2_s, x3, s_b2_s, if_neg (t_ne_m1 (by omega)), if_neg (by decide)]
        rcases t_kind x4 with ⟨kd, hkd, y0, y1, y2, y3, y4⟩ | ⟨C4, M4, y1, y2, y3, y4, y5⟩
        · rw [y3, s_b2_s, y4, s_b2_s, if_neg (by decide), y1, s_b1_s, y2, s_b1_s]
          have eput : fM_put_130 ((27 : Int32) + Int32.ofNat ne) 1 (s_si M3 130 13 (Int32.ofNat kd)) = some (1, s_si (s_si M3 130 13 (Int32.ofNat kd)) 133 (27 + ne) (Int32.ofNat kd)) := by
            unfold fM_put_130
            rw [if_neg (by decide), show (27 : Int32) + Int32.ofNat ne = Int32.ofNat (27 + ne) from by rw [Int32.ofNat_add]; rfl, e_ix (show 27 + ne < 47 by omega) (by omega), s_b1_s, t_or1, e_sS, e_ve]
          rw [eput, s_b2_s, if_neg (by decide)]
          have x4' : t_P n m t3 a3 p3 C3 (s_si (s_si M3 130 13 (Int32.ofNat kd)) 133 (27 + ne) (Int32.ofNat kd)) := t_P_m (t_P_13 x4) (fun j _ => by rw [e_sN (by omega)]) (e_sN (by omega)) rfl
          obtain ⟨C5, M5, t5, a5, p5, i1, i2, i3, i4, i5, i6⟩ := t_next x4' y0
          rw [i1, s_b1_s, i2, s_b1_s]
          rcases t_num i3 (x := 1) (y := 40) (by omega) (by omega) with ⟨v, C6, M6, t6, a6, p6, v0, v1, v2, v3, v4, v5, v6, v7, v8, v9⟩ | ⟨C6, M6, v1, v2, v3, v4, v5⟩
          · have fC : t_wC (s_sl C1 11 (7 + ne) (Int64.ofNat (e_pk 32 l))) C6 := ((w7.tr x6).tr i5.w).tr v8
            have fM : t_wM (s_si (s_si M3 130 13 (Int32.ofNat kd)) 133 (27 + ne) (Int32.ofNat kd)) M6 := i6.w.tr v9
            have c6 : C6.1 10 1 = Int32.ofNat ne := by rw [(fC 10 (by omega)).1]; exact c1
            have m133 : M6.1 133 = va_up (va_up (M1.1 133) (17 + ne) (Int32.ofNat k)) (27 + ne) (Int32.ofNat kd) := by
              rw [(fM.1 133 (by omega)).1, e_sS, e_sN (by omega), (x7.1 133 (by omega)).1, e_sS, (w8.1 133 (by omega)).1]; rfl
            have oth : ∀ b, ¬ b = 130 ∧ ¬ b = 133 → M6.1 b = M1.1 b := fun b hb => by
              rw [(fM.1 b hb.1).1, e_sN hb.2, e_sN hb.1, (x7.1 b hb.1).1, e_sN hb.2, (w8.1 b hb.1).1]; rfl
            have m138 : M6.2.1 138 = va_up (M1.2.1 138) (7 + ne) (Int64.ofNat (e_pk 27 l)) := by
              rw [(fM.1 138 (by omega)).2]
              show M3.2.1 138 = _
              rw [(x7.1 138 (by omega)).2]
              show M2.2.1 138 = _
              rw [(w8.1 138 (by omega)).2, e_lS]
            rw [show fQ_passNumber_1 1 40 C5 = _ from v3, s_b2_s, show fM_readNumber_130 1 40 M5 = _ from v4, s_b2_s, if_neg (t_ne_m1 (by omega)), c6, e_ix (show ne < 10 by omega) (by omega), s_b1_s, e_inc]
            refine Or.inl ⟨s_si (s_si (s_si (s_si C6 13 ne (Int32.ofNat k)) 14 ne (Int32.ofNat kd)) 15 ne (Int32.ofNat v)) 10 1 (Int32.ofNat (ne + 1)), s_si (s_si M6 133 (37 + ne) (Int32.ofNat v)) 133 1 (Int32.ofNat (ne + 1)), nb, ne + 1, t6, a6, p6, rfl, ?_, ?_, ?_, ?_, ?_, ?_⟩
            · unfold fM_put_130
              rw [if_neg (by decide), show (37 : Int32) + Int32.ofNat ne = Int32.ofNat (37 + ne) from by rw [Int32.ofNat_add]; rfl, e_ix (show 37 + ne < 47 by omega) (by omega), s_b1_s, t_or1, s_b2_s, if_neg (by decide), v5, e_sS, e_vn _ _ (by omega), m133, e_vn _ _ (by omega), e_vn _ _ (by omega), m1, e_inc]
            · exact t_P_cg v6 (by rw [e_sN (by omega), e_sN (by omega), e_sN (by omega), e_sN (by omega)]) (by rw [e_sN (by omega), e_sN (by omega), e_sN (by omega), e_sN (by omega)]) rfl rfl (fun j _ => by rw [e_sN (by omega), e_sN (by omega)]) (by rw [e_sN (by omega), e_sN (by omega)]) rfl
            · have c10 : C6.1 10 = C1.1 10 := (fC 10 (by omega)).1
              have c12 : C6.1 12 = C1.1 12 := (fC 12 (by omega)).1
              have c13 : C6.1 13 = C1.1 13 := (fC 13 (by omega)).1
              have c14 : C6.1 14 = C1.1 14 := (fC 14 (by omega)).1
              have c15 : C6.1 15 = C1.1 15 := (fC 15 (by omega)).1
              have c16 : C6.1 16 = C1.1 16 := (fC 16 (by omega)).1
              have c11 : C6.2.1 11 = va_up (C1.2.1 11) (7 + ne) (Int64.ofNat (e_pk 32 l)) := by rw [(fC 11 (by omega)).2.1, e_lS]
              refine ⟨?_, ?_, ?_, ⟨tt, u1, ?_, ?_⟩, oo, z1, ?_, ?_⟩
              · rw [e_sS, e_sS, m133]
                refine ⟨⟨b1, ?_⟩, ⟨by omega, by rw [e_ve]⟩, ⟨?_, ?_, ?_, ?_⟩, ?_, ?_, ?_⟩
                · rw [e_vn _ _ (by omega), e_vn _ _ (by omega), e_vn _ _ (by omega), e_vn _ _ (by omega)]; exact g2
                · rw [e_vn _ _ (by omega), e_vn _ _ (by omega), e_vn _ _ (by omega), e_vn _ _ (by omega)]; exact h5.1
                · rw [e_vn _ _ (by omega), e_vn _ _ (by omega), e_vn _ _ (by omega), e_vn _ _ (by omega)]; exact h5.2.1
                · rw [e_vn _ _ (by omega), e_vn _ _ (by omega), e_vn _ _ (by omega), e_vn _ _ (by omega)]; exact h5.2.2.1
                · rw [e_vn _ _ (by omega), e_vn _ _ (by omega), e_vn _ _ (by omega), e_vn _ _ (by omega)]; exact h5.2.2.2
                · intro j hj; rw [e_vn _ _ (by omega), e_vn _ _ (by omega), e_vn _ _ (by omega), e_vn _ _ (by omega)]; exact h9 j hj
                · intro j hj; rw [e_vn _ _ (by omega), e_vn _ _ (by omega), e_vn _ _ (by omega), e_vn _ _ (by omega)]; exact h10 j hj
                · intro j hj
                  by_cases hq : j = ne
                  · subst hq
                    refine ⟨⟨k, x1, ?_⟩, ⟨kd, hkd, ?_⟩, ?_⟩
                    · rw [e_vn _ _ (by omega), e_vn _ _ (by omega), e_vn _ _ (by omega), e_ve]
                    · rw [e_vn _ _ (by omega), e_vn _ _ (by omega), e_ve]
                    · rw [e_vn _ _ (by omega), e_ve]; exact t_c_of v2
                  · obtain ⟨j1, j2, j3⟩ := h11 j (by omega)
                    refine ⟨?_, ?_, ?_⟩
                    · rw [e_vn _ _ (by omega), e_vn _ _ (by omega), e_vn _ _ (by omega), e_vn _ _ (by omega)]; exact j1
                    · rw [e_vn _ _ (by omega), e_vn _ _ (by omega), e_vn _ _ (by omega), e_vn _ _ (by omega)]; exact j2
                    · rw [e_vn _ _ (by omega), e_vn _ _ (by omega), e_vn _ _ (by omega), e_vn _ _ (by omega)]; exact j3
              · simp (disch := omega) only [e_sS, e_sN]
                rw [c10, c12, c13, c14, c15, c16, m133]
                refine ⟨⟨?_, ?_, ?_, ?_, ?_, ?_⟩, ?_, ?_, ?_⟩
                · simp (disch := omega) only [e_vn]; exact r1
                · rw [e_ve, e_ve]
                · simp (disch := omega) only [e_vn]; exact r3
                · simp (disch := omega) only [e_vn]; exact r4
                · simp (disch := omega) only [e_vn]; exact r5
                · simp (disch := omega) only [e_vn]; exact r6
                · intro j hj; simp (disch := omega) only [e_vn]; exact r7 j hj
                · intro j hj; simp (disch := omega) only [e_vn]; exact r8 j hj
                · intro j hj
                  by_cases hq : j = ne
                  · subst hq
                    simp (disch := omega) only [e_vn, e_ve]
                    exact ⟨trivial, trivial, trivial⟩
                  · simp (disch := omega) only [e_vn]; exact r9 j (by omega)
              · show e_NM nb (ne + 1) (C6.2.1 11) (M6.2.1 138)
                rw [c11, m138]
                refine ⟨fun j hj => ?_, fun j hj => ?_⟩
                · rw [e_vn _ _ (by omega), e_vn _ _ (by omega)]; exact hN.1 j hj
                · by_cases hq : j = ne
                  · subst hq; rw [e_ve, e_ve]; exact ⟨l, w1, rfl, rfl⟩
                  · rw [e_vn _ _ (by omega), e_vn _ _ (by omega)]; exact hN.2 j (by omega)
              · simp (disch := omega) only [e_sS, e_sN, e_vn]; rw [c10]; exact u2
              · intro j hj; simp (disch := omega) only [e_sN]; rw [oth 142 (by omega)]; exact u3 j hj
              · simp (disch := omega) only [e_sS, e_sN, e_vn]; rw [c10]; exact z2
              · intro j hj; simp (disch := omega) only [e_sN]; rw [oth 141 (by omega)]; exact z3 j hj
            · intro h2
              have := v7 h2
              have := i4 v0
              have := x5 y0
              have := w6 x0
              have := n4 w0
              omega
            · exact ((((n5.w.x.tr t_xC.sl).tr fC.x).tr (t_xC.si (by omega) (by omega))).tr (t_xC.si (by omega) (by omega))).tr ((t_xC.si (by omega) (by omega)).tr (t_xC.si (by omega) (by omega)))
            · exact ((((((n6.w.x.tr t_xM.sl).tr w8.x).tr (t_xM.si (by omega))).tr x7.x).tr (t_xM.s13.tr (t_xM.si (by omega)))).tr fM.x).tr ((t_xM.si (by omega)).tr (t_xM.si (by omega)))
          · rw [show fQ_passNumber_1 1 40 C5 = _ from v1, s_b2_s, show fM_readNumber_130 1 40 M5 = _ from v2, s_b2_s, if_pos rfl]
            refine Or.inr ⟨C6, M6, rfl, ?_, v3, ((((n5.w.x.tr t_xC.sl).tr w7.x).tr x6.x).tr i5.w.x).tr v4.x, (((((n6.w.x.tr t_xM.sl).tr w8.x).tr (t_xM.si (by omega))).tr x7.x).tr (t_xM.s13.tr (t_xM.si (by omega)))).tr (i6.w.x.tr v5.x)⟩
            unfold fM_put_130
            rw [if_pos rfl, t_or0, s_b2_s, if_pos rfl]
        · rw [y1, s_b2_s, y2, s_b2_s, if_pos rfl]
          refine Or.inr ⟨C4, M4, rfl, ?_, y3, (((n5.w.x.tr t_xC.sl).tr w7.x).tr x6.x).tr y4.x, ((((n6.w.x.tr t_xM.sl).tr w8.x).tr (t_xM.si (by omega))).tr x7.x).tr y5.x⟩
          unfold fM_put_130
          rw [if_pos rfl, t_or0, s_b2_s, if_pos rfl]
      · rw [x1, s_b2_s, x2, s_b2_s, if_pos rfl, if_pos rfl]
        exact Or.inr ⟨C3, M3, rfl, rfl, x3, ((n5.w.x.tr t_xC.sl).tr w7.x).tr x4.x, ((n6.w.x.tr t_xM.sl).tr w8.x).tr x5⟩
    · rw [w2, s_b2_s, w3, s_b2_s, if_pos rfl, if_pos rfl]
      exact Or.inr ⟨C2, M2, rfl, rfl, w4, n5.w.x.tr w5.x, n6.w.x.tr w6.x⟩
  · obtain rfl : ne = 10 := by omega
    rw [if_neg (by decide), if_pos (by decide)]
    obtain ⟨C', M', f1, f2, f3, f4, f5⟩ := t_fail h 4 (fun h1 => by omega)
    exact Or.inr ⟨C', M', by rw [f1, s_b2_s, t_or0], by rw [f2, s_b2_s, t_or0, s_b2_s, if_pos rfl], f3, f4.x, f5.x⟩
