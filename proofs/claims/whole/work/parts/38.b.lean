-- BOOK: deeds and the rest
theorem t_deed {n m a p nb ne lc b : Nat} {t : t_Tk} {C M : s_G} (h : t_P n m t a p C M) (hB : t_Bk lc nb ne C M) (hlc : lc < 40) (h3 : t.1 = 3) (hb : b < nb) (hbn : fP_boyNamed_3 (C.2.1 1 8) C = some (Int32.ofNat b)) (hm : M.1 149 (5 * lc + 1) = Int32.ofNat b) : t_OL n m a nb ne lc C M (fB_readDeed_37_1_3 C) (s_b1 (fM_go_130 M) fun g19 => fM_readDoes_130 (Int32.ofNat (5 * lc)) g19) := by
  obtain ⟨hBt, ha, hp, ho, hC, hM⟩ := id h
  obtain ⟨⟨l1, l2, l3⟩, ⟨n1, n2, n3⟩, ⟨e1, e2, e3⟩, hN⟩ := id hB
  obtain ⟨C1, M1, t1, a1, p1, g1, g2, g3, g4, g5, g6⟩ := t_next h (by omega)
  have epn : fQ_passNamed_1 (Int32.ofNat b) C = some (Int32.ofNat b, C1) := by
    unfold fQ_passNamed_1
    rw [if_pos ((t_c5 ho hC).2.1.mpr h3), if_neg (t_ne_m1 (by omega)), g1, s_b1_s]
  have hB1 := t_Bk_w hB g5.w g6.w
  have P2 : t_P n m t1 a1 p1 (s_si C1 39 lc (Int32.ofNat b)) M1 := t_P_s g3 (by omega)
  have hB2 : t_Bk lc nb ne (s_si C1 39 lc (Int32.ofNat b)) M1 := t_Bk_s hB1 (by omega)
  obtain ⟨-, -, -, ho2, hC2, hM2⟩ := id P2
  unfold fB_readDeed_37_1_3
  rw [hbn, s_b1_s, epn, s_b2_s, l2, e_ix hlc (by omega), s_b1_s, show fQ_isWord_1_1011 (s_si C1 39 lc (Int32.ofNat b)) = _ from t_isWC ho2 hC2 11, s_b1_s, show fQ_isWord_1_1012 (s_si C1 39 lc (Int32.ofNat b)) = _ from t_isWC ho2 hC2 12, s_b1_s, show fQ_isWord_1_1013 (s_si C1 39 lc (Int32.ofNat b)) = _ from t_isWC ho2 hC2 13, s_b1_s, hB1.1.2.1, e_ix hlc (by omega), s_b1_s, s_b1_s, s_b1_s, g2, s_b1_s]
  have zC1 : t_zC C (s_si C1 39 lc (Int32.ofNat b)) := g5.w.z.tr (t_zC.si (by omega) (by omega))
  -- from the act on
  have main : ∀ w, w < 3 → t_is t1 (11 + w) → t_OL n m a nb ne lc C M (fB_readDeed_37_1_3_98 (s_si (s_si C1 39 lc (Int32.ofNat b)) 38 lc (Int32.ofNat (10 * w)))) (fM_readDoes_130_23 (Int32.ofNat (5 * lc)) (Int32.ofNat (11 + w)) M1) := by
    intro w hw hi
    have P3 : t_P n m t1 a1 p1 (s_si (s_si C1 39 lc (Int32.ofNat b)) 38 lc (Int32.ofNat (10 * w))) (s_si M1 149 (5 * lc) (Int32.ofNat w)) := t_P_9 (t_P_s P2 (by omega))
    have hB3 : t_Bk lc nb ne (s_si (s_si C1 39 lc (Int32.ofNat b)) 38 lc (Int32.ofNat (10 * w))) (s_si M1 149 (5 * lc) (Int32.ofNat w)) := t_Bk_m (t_Bk_s hB2 (by omega))
    obtain ⟨C4, M4, t4, a4, p4, i1, i2, i3, i4, i5, i6⟩ := t_next P3 (by have := hi.1; omega)
    have hB4 := t_Bk_w hB3 i5.w i6.w
    unfold fB_readDeed_37_1_3_98 fM_readDoes_130_23
    rw [i1, s_b1_s, t_b1_b2, if_neg (show ¬ 13 < Int32.ofNat (11 + w) from e_F (a := 13) (by omega) (by omega)), e_ix (show 5 * lc < 200 by omega) (by omega), s_b1_s, show Int32.ofNat (11 + w) - 11 = Int32.ofNat w from by rw [show (11 : Int32) = Int32.ofNat 11 from rfl, ← Int32.ofNat_sub _ _ (by omega)]; congr 1; omega, i2, s_b1_s, hB4.2.2.1.2.2, hB4.1.2.1, e_ix hlc (by omega), show Int32.ofNat (5 * lc) + 2 = Int32.ofNat (5 * lc + 2) from by rw [Int32.ofNat_add]; rfl, show Int32.ofNat (5 * lc) + 3 = Int32.ofNat (5 * lc + 3) from by rw [Int32.ofNat_add]; rfl, show Int32.ofNat (5 * lc) + 4 = Int32.ofNat (5 * lc + 4) from by rw [Int32.ofNat_add]; rfl]
    have zC4 : t_zC C C4 := (zC1.tr (t_zC.si (by omega) (by omega))).tr i5.w.z
    have zM4 : t_zM M M4 := (g6.w.z.tr t_zM.si).tr i6.w.z
    rcases t_named_ev i3 hB4.2.2.1.1 hB4.2.2.1.2.1 hB4.2.2.2.2 with ⟨e, C5, M5, t5, a5, p5, x0, x1, x2, x3, x4, x5, x6, x7, x8⟩ | ⟨C5, M5, x1, x2, x3, x4, x5⟩
    · have hB5 := t_Bk_w hB4 x7 x8
      have c38 : C5.1 38 = va_up (C.1 38) lc (Int32.ofNat (10 * w)) := by
        rw [(x7 38 (by omega)).1, (i5.w 38 (by omega)).1, e_sS, e_sN (by omega), (g5.w 38 (by omega)).1]
      have c39 : C5.1 39 = va_up (C.1 39) lc (Int32.ofNat b) := by
        rw [(x7 39 (by omega)).1, (i5.w 39 (by omega)).1, e_sN (by omega), e_sS, (g5.w 39 (by omega)).1]
      have c40 : C5.1 40 = C.1 40 := by
        rw [(x7 40 (by omega)).1, (i5.w 40 (by omega)).1, e_sN (by omega), e_sN (by omega), (g5.w 40 (by omega)).1]
      have c41 : C5.1 41 = C.1 41 := by
        rw [(x7 41 (by omega)).1, (i5.w 41 (by omega)).1, e_sN (by omega), e_sN (by omega), (g5.w 41 (by omega)).1]
      have c42 : C5.1 42 = C.1 42 := by
        rw [(x7 42 (by omega)).1, (i5.w 42 (by omega)).1, e_sN (by omega), e_sN (by omega), (g5.w 42 (by omega)).1]
      have m149 : M5.1 149 = va_up (M.1 149) (5 * lc) (Int32.ofNat w) := by
        rw [(x8.1 149 (by omega)).1, (i6.w.1 149 (by omega)).1, e_sS, (g6.w.1 149 (by omega)).1]
      rw [x2, s_b2_s, hB5.1.2.1, e_ix hlc (by omega), s_b1_s, s_b1_s, e_sS, e_ve, if_neg (t_ne_m1 (by omega)), c38, e_ve, show fM_readNamed_130 7 (Int32.ofNat ne) M4 = _ from x3, s_b2_s, t_keep1 (by omega), s_b2_s, if_neg (show ¬ (1 : Int32) = 0 by decide), x4, e_sS, e_vn _ _ (by omega), m149, e_ve]
      have P6 : t_P n m t5 a5 p5 (s_si C5 40 lc (Int32.ofNat e)) (s_si M5 149 (5 * lc + 2) (Int32.ofNat e)) := t_P_9 (t_P_s x5 (by omega))
      have hB6 : t_Bk lc nb ne (s_si C5 40 lc (Int32.ofNat e)) (s_si M5 149 (5 * lc + 2) (Int32.ofNat e)) := t_Bk_m (t_Bk_s hB5 (by omega))
      have zC6 : t_zC C (s_si C5 40 lc (Int32.ofNat e)) := (zC4.tr x7.z).tr (t_zC.si (by omega) (by omega))
      have zM6 : t_zM M (s_si M5 149 (5 * lc + 2) (Int32.ofNat e)) := (zM4.tr x8.z).tr t_zM.si
      have inc5 : 2 ≤ t5.1 → a < a5 := fun h2 => by
        have := x6 h2
        have := i4 x0
        have := g4 (by have := hi.1; omega)
        omega
      by_cases hw2 : w = 2
      · subst hw2
        rw [if_pos (show Int32.ofNat (10 * 2) = 20 from rfl), if_pos (show Int32.ofNat 2 = 2 from rfl)]
        rcases t_gift P6 hB6 hlc with ⟨c, k, C7, M7, t7, a7, p7, y0, y1, y2, y3, y4, y5, y6, y7, y8, y9, y10, y11, y12⟩ | ⟨C7, M7, y1, y2, y3, y4, y5⟩
        · obtain ⟨z1, z2, z3, z4, z5⟩ := y9
          refine Or.inl ⟨C7, M7, t7, a7, p7, by rw [y4, s_b2_s, if_neg (by decide)], y5, y6, fun h2 => by have := y7 h2; have := inc5 y0; omega, y8, ⟨?_, ?_, 2, by omega, ?_, ?_, ?_, ?_, ?_⟩, zC6.tr y11, zM6.tr y12⟩
          · intro i hi2
            rw [z1, z2, z3, z4, z5, e_sN (by omega), e_sN (by omega), e_sS, e_sN (by omega), e_sN (by omega), c38, c39, c40, c41, c42]
            simp (disch := exact hi2) only [e_vn]
            exact ⟨trivial, trivial, trivial, trivial, trivial⟩
          · intro j hj
            rw [y10, e_vn _ _ (by omega), e_vn _ _ (by omega), e_sS, e_vn _ _ (by omega), m149, e_vn _ _ (by omega)]
          · rw [z1, e_sN (by omega), c38, e_ve]
          · rw [y10, e_vn _ _ (by omega), e_vn _ _ (by omega), e_sS, e_vn _ _ (by omega), m149, e_ve]
          · intro _
            refine ⟨b, e, hb, x1, ?_, ?_, ?_, ?_⟩
            · rw [z2, e_sN (by omega), c39, e_ve]
            · rw [y10, e_vn _ _ (by omega), e_vn _ _ (by omega), e_sS, e_vn _ _ (by omega), m149, e_vn _ _ (by omega)]; exact hm
            · rw [z3, e_sS, e_ve]
            · rw [y10, e_vn _ _ (by omega), e_vn _ _ (by omega), e_sS, e_ve]
          · intro _
            refine ⟨c, k, y1, y2, y3, ?_, ?_, ?_, ?_⟩
            · rw [z4, e_ve]
            · rw [y10, e_vn _ _ (by omega), e_ve]
            · rw [z5, e_ve]
            · rw [y10, e_ve]
          · intro h; omega
        · exact Or.inr ⟨C7, M7, by rw [y1, s_b2_s, if_pos rfl], y2, y3, zC6.tr y4, zM6.tr y5⟩
      · rw [if_neg (show ¬ Int32.ofNat (10 * w) = 20 from fun hh => hw2 (by have := e_in (b := 20) (by omega) (by omega) hh; omega)), if_neg (show ¬ Int32.ofNat w = 2 from fun hh => hw2 (e_in (b := 2) (by omega) (by omega) hh))]
        refine Or.inl ⟨_, _, t5, a5, p5, rfl, rfl, P6, inc5, hB6, ⟨?_, ?_, w, by omega, ?_, ?_, ?_, fun h => absurd h hw2, fun h => by omega⟩, zC6, zM6⟩
        · intro i hi2
          rw [e_sN (by omega), e_sN (by omega), e_sS, e_sN (by omega), e_sN (by omega), c38, c39, c40, c41, c42]
          simp (disch := exact hi2) only [e_vn]
          exact ⟨trivial, trivial, trivial, trivial, trivial⟩
        · intro j hj
          rw [e_sS, e_vn _ _ (by omega), m149, e_vn _ _ (by omega)]
        · rw [e_sN (by omega), c38, e_ve]
        · rw [e_sS, e_vn _ _ (by omega), m149, e_ve]
        · intro _
          refine ⟨b, e, hb, x1, ?_, ?_, ?_, ?_⟩
          · rw [e_sN (by omega), c39, e_ve]
          · rw [e_sS, e_vn _ _ (by omega), m149, e_vn _ _ (by omega)]; exact hm
          · rw [e_sS, e_ve]
          · rw [e_sS, e_ve]
    · have l25 : C5.1 37 5 = Int32.ofNat lc := by rw [(x4 37 (by omega)).1]; exact hB4.1.2.1
      rw [x1, s_b2_s, l25, e_ix hlc (by omega), s_b1_s, s_b1_s, e_sS, e_ve, if_pos rfl, show fM_readNamed_130 7 (Int32.ofNat ne) M4 = _ from x2, s_b2_s, t_keep0, s_b2_s, if_pos rfl]
      exact Or.inr ⟨_, M5, rfl, rfl, t_F_cg x3 (e_sN (by omega)) (e_sN (by omega)) (fun _ _ => rfl) rfl, (zC4.tr x4.z).tr (t_zC.si (by omega) (by omega)), zM4.tr x5.z⟩
  rcases t_doesM (x1 := Int32.ofNat (5 * lc)) ho2 hM2 with ⟨w, hw, hi, hd⟩ | ⟨hno, hd⟩
  · rw [hd]
    have : w = 0 ∨ w = 1 ∨ w = 2 := by omega
    rcases this with rfl | rfl | rfl
    · rw [e_bi_t hi, if_neg (by decide)]
      exact main 0 (by omega) hi
    · rw [e_bi_f (show ¬ t_is t1 11 from fun hh => by have := hh.2; have := hi.2; omega), if_pos rfl, e_bi_t hi, if_neg (by decide)]
      exact main 1 (by omega) hi
    · rw [e_bi_f (show ¬ t_is t1 11 from fun hh => by have := hh.2; have := hi.2; omega), if_pos rfl, e_bi_f (show ¬ t_is t1 12 from fun hh => by have := hh.2; have := hi.2; omega), if_pos rfl, e_bi_t hi, if_neg (by decide)]
      exact main 2 (by omega) hi
  · obtain ⟨Cf, Mf, f1, f2, f3, f4, f5⟩ := t_fail P2 1 (fun _ => rfl)
    rw [hd, e_bi_f (hno 0 (by omega)), if_pos rfl, e_bi_f (hno 1 (by omega)), if_pos rfl, e_bi_f (hno 2 (by omega)), if_pos rfl]
    unfold fM_readDoes_130_23
    rw [if_pos (by decide)]
    exact Or.inr ⟨Cf, Mf, by rw [f1, s_b2_s, t_or0], by rw [f2, s_b2_s, t_or0], f3, zC1.tr f4.z, g6.w.z.tr f5.z⟩
def t_Z (t0 : Int32) (lc : Nat) (G : s_G) : s_G := s_si (s_si (s_si (s_si G 149 (5 * lc + 1) t0) 149 (5 * lc + 2) 0) 149 (5 * lc + 3) 0) 149 (5 * lc + 4) 0
theorem t_148 {x1 t0 : Int32} {lc : Nat} {G : s_G} {R : Int32 × s_G} (hlc : lc < 40) (hR : (s_b1 (fM_go_130 (t_Z t0 lc G)) fun g19 => if x1 = 0 then (s_b2 (fM_readDoes_130 (Int32.ofNat (5 * lc)) g19) fun v21 g20 => if v21 = 0 then (some ((0 : Int32), g20))
  else s_b2 (fM_readEnd_130 g20) fun v23 g22 => if v23 = 0 then (some ((0 : Int32), g22))
  else some ((1 : Int32), g22))
  else if x1 = 5 then (s_b2 (fM_readNumber_130 (1 : Int32) (60 : Int32) g19) fun v25 g24 => s_b2 (fM_keep_130 (Int32.ofNat (5 * lc) + (1 : Int32)) v25 g24) fun v27 g26 => if v27 = 0 then (some ((0 : Int32), g26))
  else s_b2 (fM_readEnd_130 g26) fun v29 g28 => if v29 = 0 then (some ((0 : Int32), g28))
  else some ((1 : Int32), g28))
  else s_b2 (fM_readEnd_130 g19) fun v31 g30 => if v31 = 0 ∨ v31 = 1 then some (v31, g30)
  else none) = some R) : fM_readBookLine_130_148 x1 (Int32.ofNat (5 * lc)) t0 (Int32.ofNat (5 * lc) + 1) G = some R := by
  have step : ∀ k Y, k < 5 → fM_readBookLine_130_151 x1 (Int32.ofNat (5 * lc)) (Int32.ofNat k) Y = some (.inl (Int32.ofNat (k + 1), s_si Y 149 (5 * lc + k) 0)) := by
    intro k Y hk
    unfold fM_readBookLine_130_151
    rw [if_pos (show Int32.ofNat k < 5 from e_T (b := 5) hk (by omega)), ← Int32.ofNat_add, e_ix (show 5 * lc + k < 200 by omega) (by omega), s_b1_s, e_inc]
  have s2 : ∀ Y, s_lp (fun (x : Int32 × s_G) => fM_readBookLine_130_151 x1 (Int32.ofNat (5 * lc)) x.1 x.2) ((2 : Int32), Y) = s_lp (fun (x : Int32 × s_G) => fM_readBookLine_130_151 x1 (Int32.ofNat (5 * lc)) x.1 x.2) (Int32.ofNat 3, s_si Y 149 (5 * lc + 2) 0) := fun Y => s_lp_in (x := ((2 : Int32), Y)) (y := (Int32.ofNat 3, s_si Y 149 (5 * lc + 2) 0)) (step 2 Y (by omega))
  have s3 : ∀ Y, s_lp (fun (x : Int32 × s_G) => fM_readBookLine_130_151 x1 (Int32.ofNat (5 * lc)) x.1 x.2) (Int32.ofNat 3, Y) = s_lp (fun (x : Int32 × s_G) => fM_readBookLine_130_151 x1 (Int32.ofNat (5 * lc)) x.1 x.2) (Int32.ofNat 4, s_si Y 149 (5 * lc + 3) 0) := fun Y => s_lp_in (x := (Int32.ofNat 3, Y)) (y := (Int32.ofNat 4, s_si Y 149 (5 * lc + 3) 0)) (step 3 Y (by omega))
  have s4 : ∀ Y, s_lp (fun (x : Int32 × s_G) => fM_readBookLine_130_151 x1 (Int32.ofNat (5 * lc)) x.1 x.2) (Int32.ofNat 4, Y) = s_lp (fun (x : Int32 × s_G) => fM_readBookLine_130_151 x1 (Int32.ofNat (5 * lc)) x.1 x.2) (Int32.ofNat 5, s_si Y 149 (5 * lc + 4) 0) := fun Y => s_lp_in (x := (Int32.ofNat 4, Y)) (y := (Int32.ofNat 5, s_si Y 149 (5 * lc + 4) 0)) (step 4 Y (by omega))
  unfold fM_readBookLine_130_148
  rw [e_inc, e_ix (show 5 * lc + 1 < 200 by omega) (by omega), s_b1_s, s2, s3, s4]
  apply s_lp_out
  dsimp only
  unfold fM_readBookLine_130_151
  rw [if_neg (show ¬ Int32.ofNat 5 < 5 by decide), show s_si (s_si (s_si (s_si G 149 (5 * lc + 1) t0) 149 (5 * lc + 2) 0) 149 (5 * lc + 3) 0) 149 (5 * lc + 4) 0 = t_Z t0 lc G from rfl, hR]
  rfl
