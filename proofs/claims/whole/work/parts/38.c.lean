-- BOOK: a line
def t_rows (nb ne lc : Nat) (C M C' M' : s_G) : Prop := (∀ i, ¬ i = lc → C'.1 38 i = C.1 38 i ∧ C'.1 39 i = C.1 39 i ∧ C'.1 40 i = C.1 40 i ∧ C'.1 41 i = C.1 41 i ∧ C'.1 42 i = C.1 42 i) ∧ (∀ j, j < 5 * lc → M'.1 149 j = M.1 149 j) ∧ t_b1 nb ne lc (C'.1 38) (C'.1 39) (C'.1 40) (C'.1 41) (C'.1 42) (M'.1 149)
theorem t_Z_P {n m a p lc : Nat} {t : t_Tk} {t0 : Int32} {C M : s_G} (h : t_P n m t a p C M) : t_P n m t a p C (t_Z t0 lc M) := t_P_9 (t_P_9 (t_P_9 (t_P_9 h)))
theorem t_Z_B {lc lc' nb ne : Nat} {t0 : Int32} {C M : s_G} (h : t_Bk lc' nb ne C M) : t_Bk lc' nb ne C (t_Z t0 lc M) := t_Bk_m (t_Bk_m (t_Bk_m (t_Bk_m h)))
theorem t_Z_z {lc : Nat} {t0 : Int32} {M : s_G} : t_zM M (t_Z t0 lc M) := ((t_zM.si.tr t_zM.si).tr t_zM.si).tr t_zM.si
theorem t_Z_r {lc : Nat} {t0 : Int32} {M : s_G} : (t_Z t0 lc M).1 149 = va_up (va_up (va_up (va_up (M.1 149) (5 * lc + 1) t0) (5 * lc + 2) 0) (5 * lc + 3) 0) (5 * lc + 4) 0 := by
  unfold t_Z; rw [e_sS, e_sS, e_sS, e_sS]
/-- lines of one word: a log is put on, ashes are raked, days -/
theorem t_bplain {n m a p nb ne lc w : Nat} {t : t_Tk} {C M : s_G} (h : t_P n m t a p C M) (hB : t_Bk lc nb ne C M) (hw : 3 ≤ w ∧ w ≤ 5) (hi : t_is t (11 + w)) :
    (∃ C1 M1 t1 a1 p1, lc < 40 ∧ fB_readLine_37_1_3_30 C = some (1, C1) ∧ (∀ v M', v = 0 ∨ v = 1 → fM_readEnd_130 M1 = some (v, M') → fM_readBookLine_130_40 (Int32.ofNat w) M = some (v, M')) ∧ t_P n m t1 a1 p1 C1 M1 ∧ (2 ≤ t1.1 → a < a1) ∧ t_Bk lc nb ne C1 M1 ∧ t_rows nb ne lc C M C1 M1 ∧ t_zC C C1 ∧ t_zM M M1) ∨ (∃ C1 M1, fB_readLine_37_1_3_30 C = some (0, C1) ∧ fM_readBookLine_130_40 (Int32.ofNat w) M = some (0, M1) ∧ t_F C1 M1 ∧ t_zC C C1 ∧ t_zM M M1) := by
  obtain ⟨hBt, ha, hp, ho, hC, hM⟩ := id h
  obtain ⟨⟨l1, l2, l3⟩, -, -, -⟩ := id hB
  have ht2 : 2 ≤ t.1 := by have := hi.1; omega
  unfold fB_readLine_37_1_3_30 fB_readLine_37_1_3_35 fB_readLine_37_1_3_54 fB_readLine_37_1_3_76 fM_readBookLine_130_40 fM_readBookLine_130_86
  rw [if_neg (show ¬ (1 : Int32) = 0 by decide), if_neg (show ¬ (1 : Int32) = 0 by decide), if_neg (show ¬ (1 : Int32) = 0 by decide), l2, l3, if_neg (show ¬ Int32.ofNat w = 0 from fun hh => by have := e_in (b := 0) (by omega) (by omega) hh; omega)]
  by_cases h40 : lc < 40
  · rw [if_pos (show Int32.ofNat lc < 40 from e_T (b := 40) h40 (by omega)), if_neg (show ¬ Int32.ofNat lc = 40 from fun hh => by have := e_in (b := 40) (by omega) (by omega) hh; omega), show (5 : Int32) * Int32.ofNat lc = Int32.ofNat (5 * lc) from by rw [Int32.ofNat_mul]; rfl, e_ix (show 5 * lc < 200 by omega) (by omega), s_b1_s, if_neg (show ¬ Int32.ofNat w = 0 from fun hh => by have := e_in (b := 0) (by omega) (by omega) hh; omega)]
    have PZ : t_P n m t a p C (t_Z 0 lc (s_si M 149 (5 * lc) (Int32.ofNat w))) := t_Z_P (t_P_9 h)
    have BZ : t_Bk lc nb ne C (t_Z 0 lc (s_si M 149 (5 * lc) (Int32.ofNat w))) := t_Z_B (t_Bk_m hB)
    have zZ : t_zM M (t_Z 0 lc (s_si M 149 (5 * lc) (Int32.ofNat w))) := t_zM.si.tr t_Z_z
    obtain ⟨C1, M1, t1, a1, p1, g1, g2, g3, g4, g5, g6⟩ := t_next PZ ht2
    have B1 := t_Bk_w BZ g5.w g6.w
    have r149 : M1.1 149 = va_up (va_up (va_up (va_up (va_up (M.1 149) (5 * lc) (Int32.ofNat w)) (5 * lc + 1) 0) (5 * lc + 2) 0) (5 * lc + 3) 0) (5 * lc + 4) 0 := by
      rw [(g6.w.1 149 (by omega)).1, t_Z_r, e_sS]
    have rC : ∀ a, 38 ≤ a → a ≤ 42 → C1.1 a = C.1 a := fun a h1 h2 => (g5.w a (by omega)).1
    have e9 : C.2.2 1 9 = some (1000 + (11 + w)) := by rw [(hC.2.2.1 hi.1).2, hi.2]
    have hok : s_okw (some (1000 + (11 + w))) = true := by rw [← hi.2]; exact t_okw2 ho hi.1
    unfold fB_readPlain_37_1
    rw [g1, s_b1_s, e9, if_pos hok, if_pos hok, B1.1.2.1, e_ix h40 (by omega), s_b1_s, s_b1_s, s_b1_s]
    have hcs : w = 3 ∨ w = 4 ∨ w = 5 := by omega
    -- a log, ashes
    have two : ∀ u, (w = 3 ∧ u = 30) ∨ (w = 4 ∧ u = 40) → t_rows nb ne lc C M (s_si C1 38 lc (Int32.ofNat u)) M1 := by
      intro u hu
      refine ⟨?_, ?_, w, by omega, ?_, ?_, fun h => by omega, fun h => by omega, fun h => by omega⟩
      · intro i hi2
        rw [e_sS, e_vn _ _ hi2, e_sN (by omega), e_sN (by omega), e_sN (by omega), e_sN (by omega), rC 38 (by omega) (by omega), rC 39 (by omega) (by omega), rC 40 (by omega) (by omega), rC 41 (by omega) (by omega), rC 42 (by omega) (by omega)]
        exact ⟨rfl, rfl, rfl, rfl, rfl⟩
      · intro j hj
        rw [r149]; simp (disch := omega) only [e_vn]
      · rw [e_sS, e_ve]; congr 1; omega
      · rw [r149]; simp (disch := omega) only [e_vn, e_ve]
    have refE : ∀ v M', ¬ w = 5 → v = 0 ∨ v = 1 → fM_readEnd_130 M1 = some (v, M') → fM_readBookLine_130_148 (Int32.ofNat w) (Int32.ofNat (5 * lc)) 0 (Int32.ofNat (5 * lc) + 1) (s_si M 149 (5 * lc) (Int32.ofNat w)) = some (v, M') := by
      intro v M' hw5 hv hE
      apply t_148 h40
      rw [g2, s_b1_s, if_neg (show ¬ Int32.ofNat w = 0 from fun hh => by have := e_in (b := 0) (by omega) (by omega) hh; omega), if_neg (show ¬ Int32.ofNat w = 5 from fun hh => hw5 (e_in (b := 5) (by omega) (by omega) hh)), hE, s_b2_s, if_pos hv]
    rcases hcs with rfl | rfl | rfl
    · rw [if_neg (show ¬ (some (1000 + (11 + 3)) : Option Nat) = some 1016 by decide), if_pos (show (some (1000 + (11 + 3)) : Option Nat) = some 1014 from rfl), s_b2_s, t_or1]
      exact Or.inl ⟨_, M1, t1, a1, p1, h40, rfl, fun v M' hv hE => refE v M' (by omega) hv hE, t_P_s g3 (by omega), g4, t_Bk_s B1 (by omega), two 30 (Or.inl ⟨rfl, rfl⟩), g5.w.z.tr (t_zC.si (by omega) (by omega)), zZ.tr g6.w.z⟩
    · rw [if_neg (show ¬ (some (1000 + (11 + 4)) : Option Nat) = some 1016 by decide), if_neg (show ¬ (some (1000 + (11 + 4)) : Option Nat) = some 1014 by decide), s_b2_s, t_or1]
      exact Or.inl ⟨_, M1, t1, a1, p1, h40, rfl, fun v M' hv hE => refE v M' (by omega) hv hE, t_P_s g3 (by omega), g4, t_Bk_s B1 (by omega), two 40 (Or.inr ⟨rfl, rfl⟩), g5.w.z.tr (t_zC.si (by omega) (by omega)), zZ.tr g6.w.z⟩
    · rw [if_pos (show (some (1000 + (11 + 5)) : Option Nat) = some 1016 from rfl)]
      have P2 : t_P n m t1 a1 p1 (s_si C1 38 lc 50) M1 := t_P_s g3 (by omega)
      rcases t_num P2 (x := 1) (y := 60) (by omega) (by omega) with ⟨k, C2, M2, t2, a2, p2, v0, v1, v2, v3, v4, v5, v6, v7, v8, v9⟩ | ⟨C2, M2, v1, v2, v3, v4, v5⟩
      · have l22 : C2.1 37 5 = Int32.ofNat lc := by rw [(v8 37 (by omega)).1, e_sN (by omega)]; exact B1.1.2.1
        rw [show fQ_passNumber_1 1 60 (s_si C1 38 lc 50) = _ from v3, s_b2_s, l22, e_ix h40 (by omega), s_b1_s, e_sS, e_ve, if_neg (t_ne_m1 (by omega)), s_b2_s, t_or1]
        refine Or.inl ⟨_, s_si M2 149 (5 * lc + 1) (Int32.ofNat k), t2, a2, p2, h40, rfl, fun v M' hv hE => ?_, t_P_9 (t_P_s v6 (by omega)), fun h2 => by have := v7 h2; have := g4 v0; omega, t_Bk_m (t_Bk_s (t_Bk_w (t_Bk_s B1 (by omega)) v8 v9) (by omega)), ⟨?_, ?_, 5, by omega, ?_, ?_, fun h => by omega, fun h => by omega, fun _ => ⟨k, v1, v2, ?_, ?_⟩⟩, ((g5.w.z.tr (t_zC.si (by omega) (by omega))).tr v8.z).tr (t_zC.si (by omega) (by omega)), ((zZ.tr g6.w.z).tr v9.z).tr t_zM.si⟩
        · apply t_148 h40
          rw [g2, s_b1_s, if_neg (by decide), if_pos (by decide), show fM_readNumber_130 1 60 M1 = _ from v4, s_b2_s, e_inc, t_keep1 (by omega), s_b2_s, if_neg (by decide), v5, hE, s_b2_s]
          rcases hv with rfl | rfl
          · rw [if_pos rfl]
          · rw [if_neg (by decide)]
        · intro i hi2
          rw [e_sN (by omega), e_sN (by omega), e_sN (by omega), e_sN (by omega), e_sS, e_vn _ _ hi2, (v8 38 (by omega)).1, (v8 39 (by omega)).1, (v8 40 (by omega)).1, (v8 41 (by omega)).1, (v8 42 (by omega)).1, e_sS, e_vn _ _ hi2, e_sN (by omega), e_sN (by omega), e_sN (by omega), e_sN (by omega), rC 38 (by omega) (by omega), rC 39 (by omega) (by omega), rC 40 (by omega) (by omega), rC 41 (by omega) (by omega), rC 42 (by omega) (by omega)]
          exact ⟨rfl, rfl, rfl, rfl, rfl⟩
        · intro j hj
          rw [e_sS, e_vn _ _ (by omega), (v9.1 149 (by omega)).1, r149]; simp (disch := omega) only [e_vn]
        · rw [e_sN (by omega), (v8 38 (by omega)).1, e_sS, e_ve]; rfl
        · rw [e_sS, e_vn _ _ (by omega), (v9.1 149 (by omega)).1, r149]; simp (disch := omega) only [e_vn, e_ve]
        · rw [e_sS, e_ve]
        · rw [e_sS, e_ve]
      · have l22 : C2.1 37 5 = Int32.ofNat lc := by rw [(v4 37 (by omega)).1, e_sN (by omega)]; exact B1.1.2.1
        rw [show fQ_passNumber_1 1 60 (s_si C1 38 lc 50) = _ from v1, s_b2_s, l22, e_ix h40 (by omega), s_b1_s, e_sS, e_ve, if_pos rfl, s_b2_s, t_or0]
        refine Or.inr ⟨_, M2, rfl, ?_, t_F_cg v3 (e_sN (by omega)) (e_sN (by omega)) (fun _ _ => rfl) rfl, ((g5.w.z.tr (t_zC.si (by omega) (by omega))).tr v4.z).tr (t_zC.si (by omega) (by omega)), (zZ.tr g6.w.z).tr v5.z⟩
        apply t_148 h40
        rw [g2, s_b1_s, if_neg (by decide), if_pos (by decide), show fM_readNumber_130 1 60 M1 = _ from v2, s_b2_s, t_keep0, s_b2_s, if_pos rfl]
  · obtain rfl : lc = 40 := by omega
    obtain ⟨Cf, Mf, f1, f2, f3, f4, f5⟩ := t_fail h 4 (fun h1 => by omega)
    rw [if_neg (show ¬ Int32.ofNat 40 < 40 by decide), if_pos (show Int32.ofNat 40 = 40 from rfl)]
    exact Or.inr ⟨Cf, Mf, by rw [f1, s_b2_s, t_or0], by rw [f2, s_b2_s, t_or0], f3, f4.z, f5.z⟩
theorem t_bline {n m a p nb ne lc : Nat} {t : t_Tk} {C M : s_G} (h : t_P n m t a p C M) (hB : t_Bk lc nb ne C M) :
    (∃ C1 M1 t1 a1 p1, lc < 40 ∧ fB_readLine_37_1_3 C = some (1, C1) ∧ (∀ v M', v = 0 ∨ v = 1 → fM_readEnd_130 M1 = some (v, M') → fM_readBookLine_130 M = some (v, M')) ∧ t_P n m t1 a1 p1 C1 M1 ∧ t_Bk lc nb ne C1 M1 ∧ t_rows nb ne lc C M C1 M1 ∧ t_zC C C1 ∧ t_zM M M1) ∨ (∃ C1 M1, fB_readLine_37_1_3 C = some (0, C1) ∧ fM_readBookLine_130 M = some (0, M1) ∧ t_F C1 M1 ∧ t_zC C C1 ∧ t_zM M M1) := by
  obtain ⟨hBt, ha, hp, ho, hC, hM⟩ := id h
  obtain ⟨⟨l1, l2, l3⟩, ⟨n1, n2, n3⟩, -, hN⟩ := id hB
  unfold fB_readLine_37_1_3 fM_readBookLine_130
  rw [show fQ_isWord_1_1014 C = _ from t_isWC ho hC 14, show fQ_isWord_1_1015 C = _ from t_isWC ho hC 15, show fQ_isWord_1_1016 C = _ from t_isWC ho hC 16, show fM_isWord_130 14 M = _ from t_isWM ho hM (w := 14) (by omega), show fM_isWord_130 15 M = _ from t_isWM ho hM (w := 15) (by omega), show fM_isWord_130 16 M = _ from t_isWM ho hM (w := 16) (by omega)]
  simp only [s_b1_s]
  have plain : ∀ w, 3 ≤ w ∧ w ≤ 5 → t_is t (11 + w) → (∃ C1 M1 t1 a1 p1, lc < 40 ∧ fB_readLine_37_1_3_30 C = some (1, C1) ∧ (∀ v M', v = 0 ∨ v = 1 → fM_readEnd_130 M1 = some (v, M') → fM_readBookLine_130_40 (Int32.ofNat w) M = some (v, M')) ∧ t_P n m t1 a1 p1 C1 M1 ∧ t_Bk lc nb ne C1 M1 ∧ t_rows nb ne lc C M C1 M1 ∧ t_zC C C1 ∧ t_zM M M1) ∨ (∃ C1 M1, fB_readLine_37_1_3_30 C = some (0, C1) ∧ fM_readBookLine_130_40 (Int32.ofNat w) M = some (0, M1) ∧ t_F C1 M1 ∧ t_zC C C1 ∧ t_zM M M1) := by
    intro w hw hi
    rcases t_bplain h hB hw hi with ⟨C1, M1, t1, a1, p1, x1, x2, x3, x4, -, x6⟩ | hx
    · exact Or.inl ⟨C1, M1, t1, a1, p1, x1, x2, x3, x4, x6⟩
    · exact Or.inr hx
  by_cases q0 : t_is t 14
  · rw [e_bi_t q0, if_neg (show ¬ (1 : Int32) = 0 by decide), if_neg (show ¬ (1 : Int32) = 0 by decide)]
    exact plain 3 (by omega) q0
  rw [e_bi_f q0, if_pos (show (0 : Int32) = 0 from rfl), if_pos (show (0 : Int32) = 0 from rfl)]
  by_cases q1 : t_is t 15
  · rw [e_bi_t q1, if_neg (show ¬ (1 : Int32) = 0 by decide), if_neg (show ¬ (1 : Int32) = 0 by decide)]
    exact plain 4 (by omega) q1
  rw [e_bi_f q1, if_pos (show (0 : Int32) = 0 from rfl), if_pos (show (0 : Int32) = 0 from rfl)]
  by_cases q2 : t_is t 16
  · rw [e_bi_t q2, if_neg (show ¬ (1 : Int32) = 0 by decide), if_neg (show ¬ (1 : Int32) = 0 by decide)]
    exact plain 5 (by omega) q2
  rw [e_bi_f q2, if_pos (show (0 : Int32) = 0 from rfl), if_pos (show (0 : Int32) = 0 from rfl)]
  unfold fB_readLine_37_1_3_35 fM_readBookLine_130_40
  rw [if_pos (show (0 : Int32) = 0 from rfl), if_pos (show (0 : Int32) = 0 from rfl), t_isNM ho hM, s_b1_s]
  by_cases h3 : t.1 = 3
  · obtain ⟨o1, -⟩ := ho.2.2.1 h3
    obtain ⟨-, -, c8⟩ := hC.2.2.2.1 h3
    obtain ⟨-, m12⟩ := hM.2.2.2.1 h3
    have eF : ∀ M' : s_G, M'.2.1 137 = M.2.1 137 → fM_findIn_137 0 (Int32.ofNat nb) (Int64.ofNat (e_pk 27 t.2.2)) M' = some (t_fst (t_sm (C.2.1 4) 0 t.2.2) nb) := fun M' hM' => t_findM_137 (b := 0) o1 (fun j hj => by rw [Nat.zero_add, hM']; exact hN.1 j hj) (by omega)
    have eB : fP_boyNamed_3 (C.2.1 1 8) C = some (t_fst (t_sm (C.2.1 4) 0 t.2.2) nb) := by rw [c8]; exact t_boyC_3 n2 n1
    unfold fB_readLine_37_1_3_54
    rw [if_pos ((t_c5 ho hC).2.1.mpr h3), if_pos (show (0 : Int32) = 0 from rfl), eB, s_b1_s, e_bi_t h3, if_neg (show ¬ (1 : Int32) = 0 by decide), m12, n3, eF M rfl, s_b1_s]
    rcases t_fst_c (t_sm (C.2.1 4) 0 t.2.2) nb with ⟨b, hb, hv⟩ | hv
    · rw [hv, if_neg (t_ne_m1 (by omega)), if_neg (t_ne_m1 (by omega))]
      unfold fB_readLine_37_1_3_76 fM_readBookLine_130_86
      rw [l2, l3]
      by_cases h40 : lc < 40
      · rw [if_pos (show Int32.ofNat lc < 40 from e_T (b := 40) h40 (by omega)), if_pos (show (0 : Int32) = 0 from rfl), if_neg (show ¬ Int32.ofNat lc = 40 from fun hh => by have := e_in (b := 40) (by omega) (by omega) hh; omega), show (5 : Int32) * Int32.ofNat lc = Int32.ofNat (5 * lc) from by rw [Int32.ofNat_mul]; rfl, e_ix (show 5 * lc < 200 by omega) (by omega), s_b1_s, if_pos (show (0 : Int32) = 0 from rfl), m12, n3, eF (s_si M 149 (5 * lc) 0) rfl, s_b1_s, hv]
        have PZ : t_P n m t a p C (t_Z (Int32.ofNat b) lc (s_si M 149 (5 * lc) 0)) := t_Z_P (t_P_9 h)
        have BZ : t_Bk lc nb ne C (t_Z (Int32.ofNat b) lc (s_si M 149 (5 * lc) 0)) := t_Z_B (t_Bk_m hB)
        have zZ : t_zM M (t_Z (Int32.ofNat b) lc (s_si M 149 (5 * lc) 0)) := t_zM.si.tr t_Z_z
        have rZ : ∀ j, j < 5 * lc → (t_Z (Int32.ofNat b) lc (s_si M 149 (5 * lc) 0)).1 149 j = M.1 149 j := fun j hj => by
          rw [t_Z_r, e_sS]; simp (disch := omega) only [e_vn]
        rcases t_deed PZ BZ h40 h3 hb (by rw [eB, hv]) (by rw [t_Z_r, e_sS]; simp (disch := omega) only [e_vn, e_ve]) with ⟨C1, M1, t1, a1, p1, x1, x2, x3, x4, x5, ⟨y1, y2, y3⟩, x7, x8⟩ | ⟨C1, M1, x1, x2, x3, x4, x5⟩
        · rw [x1, s_b2_s, t_or1]
          refine Or.inl ⟨C1, M1, t1, a1, p1, h40, rfl, fun v M' hv2 hE => ?_, x3, x5, ⟨y1, fun j hj => by rw [y2 j hj, rZ j hj], y3⟩, x7, zZ.tr x8⟩
          apply t_148 h40
          show (s_b1 (fM_go_130 (t_Z (Int32.ofNat b) lc (s_si M 149 (5 * lc) 0))) fun g19 => s_b2 (fM_readDoes_130 (Int32.ofNat (5 * lc)) g19) fun v21 g20 => if v21 = 0 then (some ((0 : Int32), g20)) else s_b2 (fM_readEnd_130 g20) fun v23 g22 => if v23 = 0 then (some ((0 : Int32), g22)) else some ((1 : Int32), g22)) = _
          rw [t_b1_b2, x2, s_b2_s, if_neg (by decide), hE, s_b2_s]
          rcases hv2 with rfl | rfl
          · rw [if_pos rfl]
          · rw [if_neg (by decide)]
        · rw [x1, s_b2_s, t_or0]
          refine Or.inr ⟨C1, M1, rfl, ?_, x3, x4, zZ.tr x5⟩
          apply t_148 h40
          show (s_b1 (fM_go_130 (t_Z (Int32.ofNat b) lc (s_si M 149 (5 * lc) 0))) fun g19 => s_b2 (fM_readDoes_130 (Int32.ofNat (5 * lc)) g19) fun v21 g20 => if v21 = 0 then (some ((0 : Int32), g20)) else s_b2 (fM_readEnd_130 g20) fun v23 g22 => if v23 = 0 then (some ((0 : Int32), g22)) else some ((1 : Int32), g22)) = _
          rw [t_b1_b2, x2, s_b2_s, if_pos rfl]
      · obtain rfl : lc = 40 := by omega
        obtain ⟨Cf, Mf, f1, f2, f3, f4, f5⟩ := t_fail h 4 (fun h1 => by omega)
        rw [if_neg (show ¬ Int32.ofNat 40 < 40 by decide), if_pos (show Int32.ofNat 40 = 40 from rfl)]
        exact Or.inr ⟨Cf, Mf, by rw [f1, s_b2_s, t_or0], by rw [f2, s_b2_s, t_or0], f3, f4.z, f5.z⟩
    · rw [hv, if_pos rfl, if_pos rfl]
      obtain ⟨Cf, Mf, f1, f2, f3, f4, f5⟩ := t_fail h 3 (fun h1 => by omega)
      exact Or.inr ⟨Cf, Mf, by rw [f1, s_b2_s, t_or0], by rw [f2, s_b2_s, t_or0], f3, f4.z, f5.z⟩
  · obtain ⟨Cf, Mf, f1, f2, f3, f4, f5⟩ := t_fail h 1 (fun _ => rfl)
    rw [if_neg (fun hh => h3 ((t_c5 ho hC).2.1.mp hh)), e_bi_f h3, if_pos rfl]
    exact Or.inr ⟨Cf, Mf, by rw [f1, s_b2_s, t_or0], by rw [f2, s_b2_s, t_or0], f3, f4.z, f5.z⟩
