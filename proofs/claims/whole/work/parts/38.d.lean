-- BOOK: all lines
def t_Ln (nb ne lc : Nat) (C M : s_G) : Prop := ∀ i, i < lc → t_b1 nb ne i (C.1 38) (C.1 39) (C.1 40) (C.1 41) (C.1 42) (M.1 149)
theorem t_blines {n m nb ne : Nat} {x1 : Int32} : ∀ (f lc : Nat) (a p : Nat) (t : t_Tk) (C M : s_G), f + lc = 41 → t_P n m t a p C M → t_Bk lc nb ne C M → t_Ln nb ne lc C M →
    (∃ L C' M', s_lp (fun (x : Int32 × s_G) => fB_readText_37_1_3_7 x.1 x.2) (Int32.ofNat lc, C) = some (1, C') ∧ (∀ R, (s_b1 (fM_layAside_130 M') fun g3 => s_lp (fun (x : Int32 × Int32 × s_G) => fM_book_130_73 x1 x.1 x.2.1 x.2.2) ((0 : Int32), (0 : Int32), g3)) = some R → s_lp (fun x => fM_book_130_30 x1 x) M = some R) ∧ t_B n m C' M' ∧ t_Bk L nb ne C' M' ∧ t_Ln nb ne L C' M' ∧ t_zC C C' ∧ t_zM M M') ∨
    (∃ C' M', s_lp (fun (x : Int32 × s_G) => fB_readText_37_1_3_7 x.1 x.2) (Int32.ofNat lc, C) = some (0, C') ∧ s_lp (fun x => fM_book_130_30 x1 x) M = some (-2 - M'.1 130 11, M') ∧ t_F C' M' ∧ t_zC C C' ∧ t_zM M M') := by
  intro f
  induction f with
  | zero => intro lc a p t C M hf h hB; have := hB.1.1; omega
  | succ f ih =>
    intro lc a p t C M hf h hB hL
    obtain ⟨hBt, ha, hp, ho, hC, hM⟩ := id h
    obtain ⟨⟨hn9, hm9⟩, -, -, ⟨c2, -⟩, ⟨c3, -⟩, -⟩ := id hBt
    have eC : fB_readText_37_1_3_7 (Int32.ofNat lc) C = if e_bi (t.1 = 0) = 0 then (s_b2 (fB_readLine_37_1_3 C) fun v5 g4 => if v5 = 0 then (s_in (some ((0 : Int32), g4))) else s_b2 (fQ_passSign_1 (59 : Int32) g4) fun v7 g6 => if v7 = 0 then (s_in (some ((0 : Int32), g6))) else some (.inl (Int32.ofNat (lc + 1), (s_si g6 37 5 ((g6.1 37 5) + (1 : Int32)))))) else s_in (some ((1 : Int32), C)) := by
      unfold fB_readText_37_1_3_7
      rw [if_neg (show ¬ 40 < Int32.ofNat lc from e_F (a := 40) (by omega) (by omega)), t_endC ho hC hn9 hm9 c2 c3, s_b1_s, e_inc]
    have eM : fM_book_130_30 x1 M = if (M.1 130 7) = 0 then (s_in (s_b1 (fM_layAside_130 M) fun g3 => s_lp (fun (x : Int32 × Int32 × s_G) => fM_book_130_73 x1 x.1 x.2.1 x.2.2) ((0 : Int32), (0 : Int32), g3))) else s_b2 (fM_readBookLine_130 M) fun v10 g9 => if v10 = 0 then (s_in (some ((-2 : Int32) - (g9.1 130 11), g9))) else some (.inl (s_si g9 130 41 ((g9.1 130 41) + (1 : Int32)))) := rfl
    by_cases h0 : t.1 = 0
    · refine Or.inl ⟨lc, C, M, s_lp_out ?_, fun R hR => s_lp_out ?_, hBt, hB, hL, t_zC.rf C, t_zM.rf M⟩
      · dsimp only
        rw [eC, e_bi_t h0, if_neg (by decide)]; rfl
      · try dsimp only
        rw [eM, if_pos ((t_m7 ho hM).1.mpr h0), hR]; rfl
    · rw [e_bi_f h0, if_pos rfl] at eC
      rw [if_neg (fun hh => h0 ((t_m7 ho hM).1.mp hh))] at eM
      rcases t_bline h hB with ⟨C1, M1, t1, a1, p1, hlc, k1, k2, k3, k4, ⟨r1, r2, r3⟩, k6, k7⟩ | ⟨C1, M1, k1, k2, k3, k4, k5⟩
      · rcases t_pass k3 with ⟨C2, M2, t2, a2, p2, g0, g1, g2, P2, inc2, wC, wM⟩ | ⟨C2, M2, g1, g2, F2, wC, wM⟩
        · have B2 := t_Bk_w k4 wC wM
          have l2 := B2.1.2.1
          have l3 := B2.1.2.2
          have sC : s_lp (fun (x : Int32 × s_G) => fB_readText_37_1_3_7 x.1 x.2) (Int32.ofNat lc, C) = s_lp (fun (x : Int32 × s_G) => fB_readText_37_1_3_7 x.1 x.2) (Int32.ofNat (lc + 1), s_si C2 37 5 (Int32.ofNat (lc + 1))) := s_lp_in (by
            dsimp only
            rw [eC, k1, s_b2_s, if_neg (by decide), g1, s_b2_s, if_neg (by decide), l2, e_inc])
          have sM : s_lp (fun x => fM_book_130_30 x1 x) M = s_lp (fun x => fM_book_130_30 x1 x) (s_si M2 130 41 (Int32.ofNat (lc + 1))) := s_lp_in (by
            try dsimp only
            rw [eM, k2 1 M2 (Or.inr rfl) g2, s_b2_s, if_neg (by decide), l3, e_inc])
          rw [sC, sM]
          have P3 : t_P n m t2 a2 p2 (s_si C2 37 5 (Int32.ofNat (lc + 1))) (s_si M2 130 41 (Int32.ofNat (lc + 1))) := t_P_hi (t_P_c P2 (e_sN (by omega)) (e_sN (by omega)) rfl rfl) (by omega)
          have B3 : t_Bk (lc + 1) nb ne (s_si C2 37 5 (Int32.ofNat (lc + 1))) (s_si M2 130 41 (Int32.ofNat (lc + 1))) := by
            obtain ⟨-, ⟨q1, q2, q3⟩, ⟨q4, q5, q6⟩, q7⟩ := B2
            refine ⟨⟨by omega, by rw [e_sS, e_ve], by rw [e_sS, e_ve]⟩, ⟨q1, ?_, ?_⟩, ⟨q4, ?_, ?_⟩, q7⟩
            · rw [e_sN (by omega)]; exact q2
            · rw [e_sN (by omega)]; exact q3
            · rw [e_sN (by omega)]; exact q5
            · rw [e_sN (by omega)]; exact q6
          have L3 : t_Ln nb ne (lc + 1) (s_si C2 37 5 (Int32.ofNat (lc + 1))) (s_si M2 130 41 (Int32.ofNat (lc + 1))) := by
            intro i hi
            rw [e_sN (by omega), e_sN (by omega), e_sN (by omega), e_sN (by omega), e_sN (by omega), e_sN (by omega), (wC 38 (by omega)).1, (wC 39 (by omega)).1, (wC 40 (by omega)).1, (wC 41 (by omega)).1, (wC 42 (by omega)).1, (wM.1 149 (by omega)).1]
            by_cases hq : i = lc
            · subst hq; exact r3
            · obtain ⟨z1, z2, z3, z4, z5⟩ := r1 i hq
              exact t_b1_cg (hL i (by omega)) z1 z2 z3 z4 z5 (fun j hj => r2 _ (by omega))
          have zC3 : t_zC C (s_si C2 37 5 (Int32.ofNat (lc + 1))) := (k6.tr wC.z).tr t_zC.s5
          have zM3 : t_zM M (s_si M2 130 41 (Int32.ofNat (lc + 1))) := (k7.tr wM.z).tr t_zM.s1
          rcases ih (lc + 1) a2 p2 t2 _ _ (by omega) P3 B3 L3 with ⟨L, C', M', y1, y2, y3, y4, y5, y6, y7⟩ | ⟨C', M', y1, y2, y3, y4, y5⟩
          · exact Or.inl ⟨L, C', M', y1, y2, y3, y4, y5, zC3.tr y6, zM3.tr y7⟩
          · exact Or.inr ⟨C', M', y1, y2, y3, zC3.tr y4, zM3.tr y5⟩
        · refine Or.inr ⟨C2, M2, s_lp_out ?_, s_lp_out ?_, F2, k6.tr wC.z, k7.tr wM.z⟩
          · dsimp only
            rw [eC, k1, s_b2_s, if_neg (by decide), g1, s_b2_s, if_pos rfl]; rfl
          · try dsimp only
            rw [eM, k2 0 M2 (Or.inl rfl) g2, s_b2_s, if_pos rfl]; rfl
      · refine Or.inr ⟨C1, M1, s_lp_out ?_, s_lp_out ?_, k3, k4, k5⟩
        · dsimp only
          rw [eC, k1, s_b2_s, if_pos rfl]; rfl
        · try dsimp only
          rw [eM, k2, s_b2_s, if_pos rfl]; rfl
/-- a book's text, by both -/
theorem t_bookT {N nb ne : Nat} {x1 : Int32} {C M : s_G} (hN : N ≤ 940) (h1 : C.1 1 1 = Int32.ofNat N) (h2 : M.1 130 2 = Int32.ofNat N) (hby : e_by (C.1 2) (M.1 131)) (hnb : nb ≤ 7) (hne : ne ≤ 10) (c30 : C.1 3 0 = Int32.ofNat nb) (c31 : C.1 3 1 = Int32.ofNat ne) (m0 : M.1 132 0 = Int32.ofNat nb) (m1 : M.1 132 1 = Int32.ofNat ne) (hnm : e_NM nb ne (C.2.1 4) (M.2.1 137)) :
    (∃ L C' M', s_b1 (fQ_startText_1 400 C) (fun g1 => fB_readText_37_1_3 g1) = some (1, C') ∧ (∀ R, (s_b1 (fM_layAside_130 M') fun g3 => s_lp (fun (x : Int32 × Int32 × s_G) => fM_book_130_73 x1 x.1 x.2.1 x.2.2) ((0 : Int32), (0 : Int32), g3)) = some R → (s_b1 (fM_begin_130 (400 : Int32) (s_si M 130 0 (0 : Int32))) fun g2 => s_lp (fun x => fM_book_130_30 x1 x) (s_si g2 130 41 (0 : Int32))) = some R) ∧ t_B N 400 C' M' ∧ t_Bk L nb ne C' M' ∧ t_Ln nb ne L C' M' ∧ t_zC C C' ∧ t_zM (s_si M 130 0 0) M') ∨
    (∃ C' M', s_b1 (fQ_startText_1 400 C) (fun g1 => fB_readText_37_1_3 g1) = some (0, C') ∧ (s_b1 (fM_begin_130 (400 : Int32) (s_si M 130 0 (0 : Int32))) fun g2 => s_lp (fun x => fM_book_130_30 x1 x) (s_si g2 130 41 (0 : Int32))) = some (-2 - M'.1 130 11, M') ∧ t_F C' M' ∧ t_zC C C' ∧ t_zM (s_si M 130 0 0) M') := by
  obtain ⟨C1, M1, t, a, p, x1', x2, x3, x4, x5⟩ := t_begin (m := 400) (C := C) (M := s_si M 130 0 0) (by omega) hN h1 (by rw [e_sS, e_vn _ _ (by omega)]; exact h2) (by rw [e_sN (by omega)]; exact hby)
  have zC : t_zC C (s_si C1 37 5 (Int32.ofNat 0)) := x4.z.tr t_zC.s5
  have e00 : s_si (s_si M 130 0 0) 130 0 0 = s_si M 130 0 0 := t_ss
  rw [e00] at x5
  have zM : t_zM (s_si M 130 0 0) (s_si M1 130 41 (Int32.ofNat 0)) := x5.z.tr t_zM.s1
  have P2 : t_P N 400 t a p (s_si C1 37 5 (Int32.ofNat 0)) (s_si M1 130 41 (Int32.ofNat 0)) := t_P_hi (t_P_c x3 (e_sN (by omega)) (e_sN (by omega)) rfl rfl) (by omega)
  have B2 : t_Bk 0 nb ne (s_si C1 37 5 (Int32.ofNat 0)) (s_si M1 130 41 (Int32.ofNat 0)) := by
    refine ⟨⟨by omega, by rw [e_sS, e_ve], by rw [e_sS, e_ve]⟩, ⟨hnb, ?_, ?_⟩, ⟨hne, ?_, ?_⟩, ?_⟩
    · rw [e_sN (by omega), (x4 3 (by omega)).1]; exact c30
    · rw [e_sN (by omega), (x5.1 132 (by omega)).1, e_sN (by omega)]; exact m0
    · rw [e_sN (by omega), (x4 3 (by omega)).1]; exact c31
    · rw [e_sN (by omega), (x5.1 132 (by omega)).1, e_sN (by omega)]; exact m1
    · show e_NM nb ne (C1.2.1 4) (M1.2.1 137)
      rw [(x4 4 (by omega)).2.1, (x5.1 137 (by omega)).2]; exact hnm
  have eC : s_b1 (fQ_startText_1 400 C) (fun g1 => fB_readText_37_1_3 g1) = s_lp (fun (x : Int32 × s_G) => fB_readText_37_1_3_7 x.1 x.2) (Int32.ofNat 0, s_si C1 37 5 (Int32.ofNat 0)) := by
    rw [show fQ_startText_1 400 C = _ from x1', s_b1_s]; rfl
  have eM : (s_b1 (fM_begin_130 (400 : Int32) (s_si M 130 0 (0 : Int32))) fun g2 => s_lp (fun x => fM_book_130_30 x1 x) (s_si g2 130 41 (0 : Int32))) = s_lp (fun x => fM_book_130_30 x1 x) (s_si M1 130 41 (Int32.ofNat 0)) := by
    rw [show fM_begin_130 400 (s_si M 130 0 0) = _ from x2, s_b1_s]; rfl
  rw [eC, eM]
  rcases t_blines (x1 := x1) 41 0 a p t _ _ rfl P2 B2 (fun i hi => absurd hi (by omega)) with ⟨L, C', M', y1, y2, y3, y4, y5, y6, y7⟩ | ⟨C', M', y1, y2, y3, y4, y5⟩
  · exact Or.inl ⟨L, C', M', y1, y2, y3, y4, y5, zC.tr y6, zM.tr y7⟩
  · exact Or.inr ⟨C', M', y1, y2, y3, zC.tr y4, zM.tr y5⟩
