-- CAMP: kinds, takes
theorem t_wkd {w : Nat} (hw : w < 29) : s_wkd (1000 + w) = some (s_wk w) := by
  unfold s_wkd
  rw [if_pos (by omega), Nat.add_sub_cancel_left]
theorem t_wk_c : ∀ w, w < 29 → (∃ k, k < 4 ∧ w = 7 + k ∧ s_wk w = Int32.ofNat k) ∨ ((w < 7 ∨ 10 < w) ∧ s_wk w = -1) := by decide +kernel
theorem t_kind {n m a p : Nat} {t : t_Tk} {C M : s_G} (h : t_P n m t a p C M) : (∃ k, k < 4 ∧ 2 ≤ t.1 ∧ C.2.2 1 9 = some (1007 + k) ∧ s_wkd (1007 + k) = some (Int32.ofNat k) ∧ fP_isKind_1 C = some (1, C) ∧ fM_isKind_130 M = some (1, s_si M 130 13 (Int32.ofNat k))) ∨ (∃ C' M', fP_isKind_1 C = some (0, C') ∧ fM_isKind_130 M = some (0, M') ∧ t_F C' M' ∧ t_wC C C' ∧ t_wM M M') := by
  obtain ⟨hB, ha, hp, ho, hC, hM⟩ := id h
  have stepM : ∀ w, w < 11 → 7 ≤ w → fM_isKind_130_3 (Int32.ofNat w) M = if t.1 = 2 ∧ t.2.1 = w then some (.inr (1, s_si M 130 13 (Int32.ofNat (w - 7)))) else some (.inl (Int32.ofNat (w + 1))) := by
    intro w hw hw7
    unfold fM_isKind_130_3
    rw [if_neg (show ¬ 10 < Int32.ofNat w from e_F (a := 10) (by omega) (by omega)), t_isWM ho hM (by omega), s_b1_s, e_inc]
    by_cases hi : t.1 = 2 ∧ t.2.1 = w
    · rw [e_bi_t (show t_is t w from hi), if_neg (by decide), if_pos hi]
      unfold fM_isKind_130_23
      rw [if_neg (show ¬ 10 < Int32.ofNat w from e_F (a := 10) (by omega) (by omega)), show Int32.ofNat w - 7 = Int32.ofNat (w - 7) from by rw [Int32.ofNat_sub _ _ hw7]; rfl]
      rfl
    · rw [e_bi_f (show ¬ t_is t w from hi), if_pos rfl, if_neg hi]
  obtain ⟨Cf, Mf, f1, f2, f3, f4, f5⟩ := t_fail h 1 (fun _ => rfl)
  have noM : (∀ k, k < 4 → ¬ t_is t (7 + k)) → fM_isKind_130 M = some (0, Mf) := by
    intro hno
    unfold fM_isKind_130
    refine e_seq2 (fun k => Int32.ofNat (7 + k)) 4 rfl (fun k hk => ?_) ?_
    · rw [stepM (7 + k) (by omega) (by omega), if_neg (show ¬ (t.1 = 2 ∧ t.2.1 = 7 + k) from hno k hk)]; rfl
    · show fM_isKind_130_3 (Int32.ofNat 11) M = _
      unfold fM_isKind_130_3 fM_isKind_130_23
      rw [if_pos (by decide), if_pos (by decide), f2, s_b2_s, t_or0]; rfl
  have e9 := t_c9 ho hC
  by_cases h2 : t.1 = 2
  · rw [if_pos h2] at e9
    have hv := ho.2.1 h2
    have ec : fP_isKind_1 C = if s_wk t.2.1 = (-1 : Int32) then (s_b2 (fQ_fail_1 (1 : Int32) C) fun v6 g5 => if v6 = 0 ∨ v6 = 1 then some (v6, g5) else none) else some ((1 : Int32), C) := by
      unfold fP_isKind_1
      rw [e9, if_neg (show ¬ (some (1000 + t.2.1) : Option Nat) = none from fun hh => by cases hh), s_b1_s, t_wkd hv, s_b1_s]
    rcases t_wk_c t.2.1 hv with ⟨k, hk, hw, hs⟩ | ⟨hw, hs⟩
    · refine Or.inl ⟨k, hk, by omega, by rw [e9, hw]; congr 1; omega, ?_, ?_, ?_⟩
      · rw [show 1007 + k = 1000 + t.2.1 by omega, t_wkd hv, hs]
      · rw [ec, hs, if_neg (t_ne_m1 (by omega))]
      · unfold fM_isKind_130
        refine e_seq2 (fun j => Int32.ofNat (7 + j)) k rfl (fun j hj => ?_) ?_
        · rw [stepM (7 + j) (by omega) (by omega), if_neg (fun hh => by have := hh.2; omega)]; rfl
        · rw [stepM (7 + k) (by omega) (by omega), if_pos ⟨h2, hw⟩, Nat.add_sub_cancel_left]
    · exact Or.inr ⟨Cf, Mf, by rw [ec, hs, if_pos rfl, f1, s_b2_s, t_or0], noM (fun k hk hh => by have := hh.2; omega), f3, f4, f5⟩
  · rw [if_neg h2] at e9
    refine Or.inr ⟨Cf, Mf, ?_, noM (fun k hk hh => h2 hh.1), f3, f4, f5⟩
    unfold fP_isKind_1
    rw [e9, if_pos rfl, f1, s_b2_s, t_or0]
theorem t_P_13 {n m a p : Nat} {t : t_Tk} {C M : s_G} {v : Int32} (h : t_P n m t a p C M) : t_P n m t a p C (s_si M 130 13 v) := t_P_m h (fun k hk => by rw [e_sS, e_vn _ _ (by omega)]) (e_sN (by omega)) rfl
theorem t_D_13 {nb ne : Nat} {C M : s_G} {v : Int32} (h : t_D nb ne C M) : t_D nb ne C (s_si M 130 13 v) := t_D_cg h (fun _ _ _ => ⟨rfl, rfl⟩) (fun a ha => ⟨e_sN (by omega), rfl⟩)
theorem t_takes {n m a p nb ne : Nat} {t : t_Tk} {C M : s_G} (h : t_P n m t a p C M) (hD : t_D nb ne C M) (ht : 2 ≤ t.1) : t_OC n m a C M (fP_readTakes_10_1 C) (fM_readTakes_130 M) := by
  obtain ⟨C1, M1, t1, a1, p1, n1, n2, n3, n4, n5, n6⟩ := t_next h ht
  unfold fP_readTakes_10_1 fM_readTakes_130
  rw [n1, s_b1_s, n2, s_b1_s]
  have hD1 := t_D_w hD n5.w n6.w
  rcases t_kind n3 with ⟨k, hk, ht1, k1, k2, k3, k4⟩ | ⟨C2, M2, k1, k2, k3, k4, k5⟩
  · rw [k3, s_b2_s, k4, s_b2_s, if_neg (by decide), if_neg (by decide), k1, s_b1_s, k2, s_b1_s, e_sS, e_ve, e_ix (show k < 4 by omega) (by omega), s_b1_s]
    have n3' := t_P_13 (v := Int32.ofNat k) n3
    have hD1' := t_D_13 (v := Int32.ofNat k) hD1
    generalize hM2 : s_si M1 130 13 (Int32.ofNat k) = M2 at n3' hD1' ⊢
    have xM2 : t_xM M M2 := by rw [← hM2]; exact n6.w.x.tr t_xM.s13
    obtain ⟨hH, hCR, hN, ⟨tt, u1, u2, u3⟩, hO⟩ := id hD1'
    obtain ⟨-, -, q3, -, q5, q6⟩ := t_bits4 tt u1 k hk
    rw [u2, u3 k hk]
    by_cases hbit : tt.testBit k = true
    · rw [if_pos (q5.mpr hbit), hbit, if_neg (show ¬ t_bI true = 0 by decide)]
      obtain ⟨C', M', f1, f2, f3, f4, f5⟩ := t_fail n3' 3 (fun h1 => by omega)
      exact Or.inr ⟨C', M', by rw [f1, s_b2_s, t_or0], by rw [f2, s_b2_s, t_or0], f3, n5.w.x.tr f4.x, xM2.tr f5.x⟩
    · have hbf : tt.testBit k = false := Bool.eq_false_iff.mpr hbit
      rw [if_neg (fun hh => hbit (q5.mp hh)), hbf, if_pos (show t_bI false = 0 from rfl)]
      have n3'' : t_P n m t1 a1 p1 C1 (s_si M2 142 k (1 &&& 1)) := t_P_m n3' (fun j _ => by rw [e_sN (by omega)]) (e_sN (by omega)) rfl
      obtain ⟨C3, M3, t3, a3, p3, r1, r2, r3, r4, r5, r6⟩ := t_next n3'' ht1
      rw [r1, s_b1_s, r2, s_b1_s]
      rcases t_num r3 (x := 0) (y := 9) (by omega) (by omega) with ⟨v, C4, M4, t4, a4, p4, v0, v1, v2, v3, v4, v5, v6, v7, v8, v9⟩ | ⟨C4, M4, v1, v2, v3, v4, v5⟩
      · rw [show fQ_passNumber_1 0 9 C3 = _ from v3, s_b2_s, show fM_readNumber_130 0 9 M3 = _ from v4, s_b2_s, if_neg (t_ne_m1 (by omega)), s_b1_s]
        have fC : t_wC C1 C4 := r5.w.tr v8
        have fM : t_wM (s_si M2 142 k (1 &&& 1)) M4 := r6.w.tr v9
        refine Or.inl ⟨_, s_si M4 133 (6 + k) (Int32.ofNat v), nb, ne, t4, a4, p4, rfl, ?_, ?_, ?_, ?_, ?_, ?_⟩
        · unfold fM_put_130
          rw [if_neg (by decide), show (6 : Int32) + Int32.ofNat k = Int32.ofNat (6 + k) from by rw [Int32.ofNat_add]; rfl, e_ix (show 6 + k < 47 by omega) (by omega), s_b1_s, t_or1, s_b2_s, t_or1, v5]
        · exact t_P_cg v6 (by rw [e_sN (by omega), e_sN (by omega)]) (by rw [e_sN (by omega), e_sN (by omega)]) rfl rfl (fun j _ => by rw [e_sN (by omega)]) (e_sN (by omega)) rfl
        · have c10 : C4.1 10 = C1.1 10 := (fC 10 (by omega)).1
          have c12 : C4.1 12 = C1.1 12 := (fC 12 (by omega)).1
          have c13 : C4.1 13 = C1.1 13 := (fC 13 (by omega)).1
          have c14 : C4.1 14 = C1.1 14 := (fC 14 (by omega)).1
          have c15 : C4.1 15 = C1.1 15 := (fC 15 (by omega)).1
          have c16 : C4.1 16 = C1.1 16 := (fC 16 (by omega)).1
          have c11 : C4.2.1 11 = C1.2.1 11 := (fC 11 (by omega)).2.1
          have m133 : M4.1 133 = M2.1 133 := by rw [(fM.1 133 (by omega)).1, e_sN (by omega)]
          have m138 : M4.2.1 138 = M2.2.1 138 := (fM.1 138 (by omega)).2
          have m141 : M4.1 141 = M2.1 141 := by rw [(fM.1 141 (by omega)).1, e_sN (by omega)]
          have m142 : M4.1 142 = va_up (M2.1 142) k (1 &&& 1) := by rw [(fM.1 142 (by omega)).1, e_sS]
          obtain ⟨⟨h1, h2⟩, ⟨h3, h4⟩, h5, h9, h10, h11⟩ := hH
          obtain ⟨⟨r1, r2, r3, r4, r5, r6⟩, r7, r8, r9⟩ := hCR
          refine ⟨?_, ?_, ?_, ⟨tt ||| 2 ^ k, q3, ?_, ?_⟩, ?_⟩
          · rw [e_sS, m133]
            refine ⟨⟨h1, by rw [e_vn _ _ (by omega)]; exact h2⟩, ⟨h3, by rw [e_vn _ _ (by omega)]; exact h4⟩, ?_, ?_, ?_, ?_⟩
            · rw [e_vn _ _ (by omega), e_vn _ _ (by omega), e_vn _ _ (by omega), e_vn _ _ (by omega)]; exact h5
            · intro j hj
              by_cases hq : j = k
              · subst hq; rw [e_ve]; exact t_c_of v2
              · rw [e_vn _ _ (by omega)]; exact h9 j hj
            · intro j hj; rw [e_vn _ _ (by omega)]; exact h10 j hj
            · intro j hj; rw [e_vn _ _ (by omega), e_vn _ _ (by omega), e_vn _ _ (by omega)]; exact h11 j hj
          · simp (disch := omega) only [e_sS, e_sN]
            rw [c10, c12, c13, c14, c15, c16, m133]
            refine ⟨⟨?_, ?_, ?_, ?_, ?_, ?_⟩, ?_, ?_, ?_⟩
            · rw [e_vn _ _ (by omega), e_vn _ _ (by omega)]; exact r1
            · rw [e_vn _ _ (by omega), e_vn _ _ (by omega)]; exact r2
            · rw [e_vn _ _ (by omega), e_vn _ _ (by omega)]; exact r3
            · rw [e_vn _ _ (by omega), e_vn _ _ (by omega)]; exact r4
            · rw [e_vn _ _ (by omega), e_vn _ _ (by omega)]; exact r5
            · rw [e_vn _ _ (by omega), e_vn _ _ (by omega)]; exact r6
            · intro j hj
              by_cases hq : j = k
              · subst hq; rw [e_ve, e_ve]
              · rw [e_vn _ _ hq, e_vn _ _ (by omega)]; exact r7 j hj
            · intro j hj; rw [e_vn _ _ (by omega)]; exact r8 j hj
            · intro j hj; rw [e_vn _ _ (by omega), e_vn _ _ (by omega), e_vn _ _ (by omega)]; exact r9 j hj
          · show e_NM nb ne (C4.2.1 11) (M4.2.1 138)
            rw [c11, m138]; exact hN
          · rw [e_sS, e_ve, c10, u2, q6]
          · rw [e_sN (by omega), m142]; exact t_flag hk u1 u3
          · obtain ⟨oo, w1, w2, w3⟩ := hO
            exact ⟨oo, w1, by rw [e_sS, e_vn _ _ (by omega), e_sN (by omega), c10]; exact w2, fun j hj => by rw [e_sN (by omega), m141]; exact w3 j hj⟩
        · intro h2
          have := v7 h2
          have := r4 v0
          have := n4 ht1
          omega
        · exact (n5.w.x.tr fC.x).tr ((t_xC.si (by omega) (by omega)).tr (t_xC.si (by omega) (by omega)))
        · exact ((xM2.tr (t_xM.si (by omega))).tr fM.x).tr (t_xM.si (by omega))
      · rw [show fQ_passNumber_1 0 9 C3 = _ from v1, s_b2_s, show fM_readNumber_130 0 9 M3 = _ from v2, s_b2_s, if_pos rfl]
        refine Or.inr ⟨C4, M4, rfl, ?_, v3, (n5.w.x.tr r5.w.x).tr v4.x, ((xM2.tr (t_xM.si (by omega))).tr r6.w.x).tr v5.x⟩
        unfold fM_put_130
        rw [if_pos rfl, t_or0, s_b2_s, t_or0]
  · rw [k1, s_b2_s, k2, s_b2_s, if_pos rfl, if_pos rfl]
    exact Or.inr ⟨C2, M2, rfl, rfl, k3, n5.w.x.tr k4.x, n6.w.x.tr k5.x⟩
/-- a new name, and the token behind it -/
theorem t_new {n m a p nb ne slot : Nat} {t : t_Tk} {C M : s_G} (h : t_P n m t a p C M) (hD : t_D nb ne C M) (hs : slot < 17) :
    (∃ l C' M' t' a' p', 2 ≤ t.1 ∧ e_ltr l ∧ fP_isNewName_10_1 C = some (1, C) ∧ fQ_next_1 (s_sl C 11 slot (C.2.1 1 8)) = some C' ∧ fM_readNew_130 (Int32.ofNat slot) M = some (1, M') ∧ t_P n m t' a' p' C' M' ∧ (2 ≤ t'.1 → a < a') ∧ t_wC (s_sl C 11 slot (Int64.ofNat (e_pk 32 l))) C' ∧ t_wM (s_sl M 138 slot (Int64.ofNat (e_pk 27 l))) M') ∨ (∃ C' M', fP_isNewName_10_1 C = some (0, C') ∧ fM_readNew_130 (Int32.ofNat slot) M = some (0, M') ∧ t_F C' M' ∧ t_wC C C' ∧ t_wM M M') := by
  obtain ⟨hB, ha, hp, ho, hC, hM⟩ := id h
  obtain ⟨⟨⟨b1, b2⟩, ⟨b3, b4⟩, -⟩, hCR, hN, -, -⟩ := hD
  unfold fP_isNewName_10_1 fM_readNew_130
  rw [t_isNM ho hM, s_b1_s]
  by_cases h3 : t.1 = 3
  · obtain ⟨o1, -⟩ := ho.2.2.1 h3
    obtain ⟨-, -, c8⟩ := hC.2.2.2.1 h3
    obtain ⟨-, m12⟩ := hM.2.2.2.1 h3
    rw [if_pos ((t_c5 ho hC).2.1.mpr h3), e_bi_t h3, if_neg (by decide), c8, m12, b2, b4, t_boyC_10 (nb := nb) (by rw [hCR.1.1, b2]) b1, s_b1_s, t_evC_10 (ne := ne) (by rw [hCR.1.2.1, b4]) b3, s_b1_s]
    have e1 : fM_findIn_138 0 (Int32.ofNat nb) (Int64.ofNat (e_pk 27 t.2.2)) M = some (t_fst (t_sm (C.2.1 11) 0 t.2.2) nb) := t_findM_138 (b := 0) o1 (fun j hj => by rw [Nat.zero_add]; exact hN.1 j hj) (by omega)
    have e2 : fM_findIn_138 7 (Int32.ofNat ne) (Int64.ofNat (e_pk 27 t.2.2)) M = some (t_fst (t_sm (C.2.1 11) 7 t.2.2) ne) := t_findM_138 (b := 7) o1 (fun j hj => hN.2 j hj) (by omega)
    rw [e1, s_b1_s, e2, s_b1_s]
    obtain ⟨Cf, Mf, f1, f2, f3, f4, f5⟩ := t_fail h 3 (fun h1 => by omega)
    by_cases q1 : t_fst (t_sm (C.2.1 11) 0 t.2.2) nb = -1
    · rw [if_pos q1, if_pos q1]
      by_cases q2 : t_fst (t_sm (C.2.1 11) 7 t.2.2) ne = -1
      · rw [if_pos q2, if_pos q2, e_ix hs (by omega), s_b1_s]
        have h' : t_P n m t a p (s_sl C 11 slot (Int64.ofNat (e_pk 32 t.2.2))) (s_sl M 138 slot (Int64.ofNat (e_pk 27 t.2.2))) := t_P_cg h rfl rfl (e_lN (by omega)) rfl (fun _ _ => rfl) rfl (e_lN (by omega))
        obtain ⟨C1, M1, t1, a1, p1, n1, n2, n3, n4, n5, n6⟩ := t_next h' (by omega)
        exact Or.inl ⟨t.2.2, C1, M1, t1, a1, p1, by omega, o1, rfl, n1, by rw [n2, s_b1_s], n3, n4, n5.w, n6.w⟩
      · rw [if_neg q2, if_neg q2]
        exact Or.inr ⟨Cf, Mf, by rw [f1, s_b2_s, t_or0], by rw [f2, s_b2_s, t_or0], f3, f4, f5⟩
    · rw [if_neg q1, if_neg q1]
      exact Or.inr ⟨Cf, Mf, by rw [f1, s_b2_s, t_or0], by rw [f2, s_b2_s, t_or0], f3, f4, f5⟩
  · obtain ⟨Cf, Mf, f1, f2, f3, f4, f5⟩ := t_fail h 1 (fun _ => rfl)
    rw [if_neg (fun hh => h3 ((t_c5 ho hC).2.1.mp hh)), e_bi_f h3, if_pos rfl]
    exact Or.inr ⟨Cf, Mf, by rw [f1, s_b2_s, t_or0], by rw [f2, s_b2_s, t_or0], f3, f4, f5⟩
