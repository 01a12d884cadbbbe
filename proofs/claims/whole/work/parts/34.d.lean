-- CAMP: lines
def t_Wf : Int32 → s_G → Option (Int32 × s_G) := fun v g => if v = 0 ∨ v = 1 then some (v, g) else none
theorem t_W0 (g : s_G) : s_b2 (some (0, g)) t_Wf = some (0, g) := by
  rw [s_b2_s]; unfold t_Wf; rw [t_or0]
theorem t_W1 (g : s_G) : s_b2 (some (1, g)) t_Wf = some (1, g) := by
  rw [s_b2_s]; unfold t_Wf; rw [t_or1]
theorem t_OC.wM {n m a : Nat} {C M : s_G} {oc om : Option (Int32 × s_G)} (h : t_OC n m a C M oc om) : t_OC n m a C M oc (s_b2 om t_Wf) := by
  rcases h with ⟨C', M', nb, ne, t', a', p', h1, h2, h3⟩ | ⟨C', M', h1, h2, h3⟩
  · exact Or.inl ⟨C', M', nb, ne, t', a', p', h1, by rw [h2, t_W1], h3⟩
  · exact Or.inr ⟨C', M', h1, by rw [h2, t_W0], h3⟩
theorem t_OC.wC {n m a : Nat} {C M : s_G} {oc om : Option (Int32 × s_G)} (h : t_OC n m a C M oc om) : t_OC n m a C M (s_b2 oc t_Wf) om := by
  rcases h with ⟨C', M', nb, ne, t', a', p', h1, h2, h3⟩ | ⟨C', M', h1, h2, h3⟩
  · exact Or.inl ⟨C', M', nb, ne, t', a', p', by rw [h1, t_W1], h2, h3⟩
  · exact Or.inr ⟨C', M', by rw [h1, t_W0], h2, h3⟩
theorem t_line {n m a p nb ne : Nat} {t : t_Tk} {C M : s_G} (h : t_P n m t a p C M) (hD : t_D nb ne C M) : (2 ≤ t.1 ∧ t_OC n m a C M (fP_readLine_10_1 C) (fM_readLine_130 M)) ∨ (∃ C' M', fP_readLine_10_1 C = some (0, C') ∧ fM_readLine_130 M = some (0, M') ∧ t_F C' M' ∧ t_xC C C' ∧ t_xM M M') := by
  obtain ⟨hB, ha, hp, ho, hC, hM⟩ := id h
  unfold fP_readLine_10_1 fP_readOnce_10_1 fM_readLine_130
  rw [show fQ_isWord_1_1000 C = _ from t_isWC ho hC 0, show fQ_isWord_1_1001 C = _ from t_isWC ho hC 1, show fQ_isWord_1_1002 C = _ from t_isWC ho hC 2, show fQ_isWord_1_1003 C = _ from t_isWC ho hC 3, show fQ_isWord_1_1004 C = _ from t_isWC ho hC 4, show fQ_isWord_1_1005 C = _ from t_isWC ho hC 5, show fQ_isWord_1_1006 C = _ from t_isWC ho hC 6]
  rw [show fM_isWord_130 0 M = _ from t_isWM ho hM (w := 0) (by omega), show fM_isWord_130 1 M = _ from t_isWM ho hM (w := 1) (by omega), show fM_isWord_130 2 M = _ from t_isWM ho hM (w := 2) (by omega), show fM_isWord_130 3 M = _ from t_isWM ho hM (w := 3) (by omega), show fM_isWord_130 4 M = _ from t_isWM ho hM (w := 4) (by omega), show fM_isWord_130 5 M = _ from t_isWM ho hM (w := 5) (by omega), show fM_isWord_130 6 M = _ from t_isWM ho hM (w := 6) (by omega)]
  simp only [s_b1_s]
  by_cases h0 : t_is t 0
  · have h2 : 2 ≤ t.1 := by have := h0.1; omega
    rw [e_bi_t h0, if_neg (by decide), if_neg (by decide)]
    exact Or.inl ⟨h2, (t_boy h hD h2).wC.wM⟩
  rw [e_bi_f h0, if_pos rfl, if_pos rfl]
  by_cases h1 : t_is t 1
  · have h2 : 2 ≤ t.1 := by have := h1.1; omega
    rw [e_bi_t h1, if_neg (by decide), if_neg (by decide)]
    exact Or.inl ⟨h2, (t_event h hD h2).wC.wM⟩
  rw [e_bi_f h1, if_pos rfl, if_pos rfl]
  by_cases h3 : t_is t 2
  · have h2 : 2 ≤ t.1 := by have := h3.1; omega
    rw [e_bi_t h3, if_neg (by decide), if_neg (by decide)]
    exact Or.inl ⟨h2, (t_takes h hD h2).wC.wM⟩
  rw [e_bi_f h3, if_pos rfl, if_pos rfl]
  by_cases h4 : t_is t 3
  · have h2 : 2 ≤ t.1 := by have := h4.1; omega
    rw [e_bi_t h4, if_neg (by decide), if_neg (by decide)]
    exact Or.inl ⟨h2, (t_once h hD h2 (k := 0) (lo := 0) (hi := 30) (by omega) (by omega) (by omega) (by omega)).wC.wM⟩
  rw [e_bi_f h4, if_pos rfl, if_pos rfl]
  by_cases h5 : t_is t 4
  · have h2 : 2 ≤ t.1 := by have := h5.1; omega
    rw [e_bi_t h5, if_neg (by decide), if_neg (by decide)]
    exact Or.inl ⟨h2, (t_once h hD h2 (k := 1) (lo := 0) (hi := 20) (by omega) (by omega) (by omega) (by omega)).wC.wM⟩
  rw [e_bi_f h5, if_pos rfl, if_pos rfl]
  by_cases h6 : t_is t 5
  · have h2 : 2 ≤ t.1 := by have := h6.1; omega
    rw [e_bi_t h6, if_neg (by decide), if_neg (by decide)]
    exact Or.inl ⟨h2, (t_once h hD h2 (k := 2) (lo := 0) (hi := 9) (by omega) (by omega) (by omega) (by omega)).wC.wM⟩
  rw [e_bi_f h6, if_pos rfl, if_pos rfl]
  by_cases h7 : t_is t 6
  · have h2 : 2 ≤ t.1 := by have := h7.1; omega
    rw [e_bi_t h7, if_neg (by decide), if_neg (by decide)]
    exact Or.inl ⟨h2, (t_once h hD h2 (k := 3) (lo := 2) (hi := 30) (by omega) (by omega) (by omega) (by omega)).wC.wM⟩
  rw [e_bi_f h7, if_pos rfl, if_pos rfl]
  obtain ⟨C', M', f1, f2, f3, f4, f5⟩ := t_fail h 1 (fun _ => rfl)
  exact Or.inr ⟨C', M', by rw [f1, s_b2_s, t_or0, s_b2_s, t_or0], by rw [f2, s_b2_s, t_or0], f3, f4.x, f5.x⟩
/-- all lines -/
theorem t_lines {n m : Nat} : ∀ (f ln : Nat) (nb ne a p : Nat) (t : t_Tk) (C M : s_G), f + ln = 902 → ln ≤ 901 → t_P n m t a p C M → t_D nb ne C M → (2 ≤ t.1 → ln ≤ a) →
    (∃ L C' M' nb' ne', L ≤ 901 ∧ s_lp (fun (x : Int32 × s_G) => fP_readText_10_1_6 x.1 x.2) (Int32.ofNat ln, C) = some (Int32.ofNat L, C') ∧ (∀ R, s_lp (fun (x : Int32 × s_G) => fM_camp_130_49 (Int32.ofNat L) x.1 x.2) (0, M') = some R → s_lp (fun (x : Int32 × s_G) => fM_camp_130_13 x.1 x.2) (Int32.ofNat ln, M) = some R) ∧ t_B n m C' M' ∧ t_D nb' ne' C' M' ∧ t_xC C C' ∧ t_xM M M') ∨
    (∃ C' M', s_lp (fun (x : Int32 × s_G) => fP_readText_10_1_6 x.1 x.2) (Int32.ofNat ln, C) = some (-1, C') ∧ s_lp (fun (x : Int32 × s_G) => fM_camp_130_13 x.1 x.2) (Int32.ofNat ln, M) = some (-1 - M'.1 130 11, M') ∧ t_F C' M' ∧ t_xC C C' ∧ t_xM M M') := by
  intro f
  induction f with
  | zero => intro ln nb ne a p t C M hf hln; omega
  | succ f ih =>
    intro ln nb ne a p t C M hf hln h hD hl
    obtain ⟨hB, ha, hp, ho, hC, hM⟩ := id h
    obtain ⟨⟨hn9, hm9⟩, -, -, ⟨c2, -⟩, ⟨c3, -⟩, -⟩ := id hB
    have eC : fP_readText_10_1_6 (Int32.ofNat ln) C = if e_bi (t.1 = 0) = 0 then (s_b2 (fP_readLine_10_1 C) fun v4 g3 => if v4 = 0 then (s_in (some ((-1 : Int32), g3))) else s_b2 (fQ_passSign_1 (59 : Int32) g3) fun v6 g5 => if v6 = 0 then (s_in (some ((-1 : Int32), g5))) else some (.inl (Int32.ofNat (ln + 1), g5))) else s_in (some (Int32.ofNat ln, C)) := by
      unfold fP_readText_10_1_6
      rw [if_pos (show Int32.ofNat ln < 940 from e_T (b := 940) (by omega) (by omega)), t_endC ho hC hn9 hm9 c2 c3, s_b1_s, e_inc]
    have eM : fM_camp_130_13 (Int32.ofNat ln) M = if (M.1 130 7) = 0 then (s_in (s_lp (fun (x : Int32 × s_G) => fM_camp_130_49 (Int32.ofNat ln) x.1 x.2) ((0 : Int32), M))) else s_b2 (fM_readLine_130 M) fun v12 g11 => if v12 = 0 then (s_in (some ((-1 : Int32) - (g11.1 130 11), g11))) else s_b2 (fM_readEnd_130 g11) fun v14 g13 => if v14 = 0 then (s_in (some ((-1 : Int32) - (g13.1 130 11), g13))) else some (.inl (Int32.ofNat (ln + 1), g13)) := by
      unfold fM_camp_130_13
      rw [e_inc]
    by_cases h0 : t.1 = 0
    · refine Or.inl ⟨ln, C, M, nb, ne, hln, s_lp_out ?_, fun R hR => s_lp_out ?_, hB, hD, t_xC.rf C, t_xM.rf M⟩
      · try dsimp only
        rw [eC, e_bi_t h0, if_neg (by decide)]; rfl
      · try dsimp only
        rw [eM, if_pos ((t_m7 ho hM).1.mpr h0), hR]; rfl
    · rw [e_bi_f h0, if_pos rfl] at eC
      rw [if_neg (fun hh => h0 ((t_m7 ho hM).1.mp hh))] at eM
      have bad : ∀ C' M', fP_readLine_10_1 C = some (0, C') → fM_readLine_130 M = some (0, M') → s_lp (fun (x : Int32 × s_G) => fP_readText_10_1_6 x.1 x.2) (Int32.ofNat ln, C) = some (-1, C') ∧ s_lp (fun (x : Int32 × s_G) => fM_camp_130_13 x.1 x.2) (Int32.ofNat ln, M) = some (-1 - M'.1 130 11, M') := by
        intro C' M' x1 x2
        refine ⟨s_lp_out ?_, s_lp_out ?_⟩
        · try dsimp only
          rw [eC, x1, s_b2_s, if_pos rfl]; rfl
        · try dsimp only
          rw [eM, x2, s_b2_s, if_pos rfl]; rfl
      rcases t_line h hD with ⟨h2, ⟨C1, M1, nb1, ne1, t1, a1, p1, e1, e2, P1, D1, inc, xC, xM⟩ | ⟨C1, M1, e1, e2, F1, xC, xM⟩⟩ | ⟨C1, M1, e1, e2, F1, xC, xM⟩
      · rcases t_pass P1 with ⟨C2, M2, t2, a2, p2, g0, g1, g2, P2, inc2, wC, wM⟩ | ⟨C2, M2, g1, g2, F2, wC, wM⟩
        · have la := hl h2
          have la1 := inc g0
          have sC : s_lp (fun (x : Int32 × s_G) => fP_readText_10_1_6 x.1 x.2) (Int32.ofNat ln, C) = s_lp (fun (x : Int32 × s_G) => fP_readText_10_1_6 x.1 x.2) (Int32.ofNat (ln + 1), C2) := s_lp_in (by
            try dsimp only
            rw [eC, e1, s_b2_s, if_neg (by decide), g1, s_b2_s, if_neg (by decide)])
          have sM : s_lp (fun (x : Int32 × s_G) => fM_camp_130_13 x.1 x.2) (Int32.ofNat ln, M) = s_lp (fun (x : Int32 × s_G) => fM_camp_130_13 x.1 x.2) (Int32.ofNat (ln + 1), M2) := s_lp_in (by
            try dsimp only
            rw [eM, e2, s_b2_s, if_neg (by decide), g2, s_b2_s, if_neg (by decide)])
          rw [sC, sM]
          have a9 := ha.2.2
          rcases ih (ln + 1) nb1 ne1 a2 p2 t2 C2 M2 (by omega) (by omega) P2 (t_D_w D1 wC wM) (fun h3 => by have := inc2 h3; omega) with ⟨L, C', M', nb', ne', y1, y2, y3, y4, y5, y6, y7⟩ | ⟨C', M', y1, y2, y3, y4, y5⟩
          · exact Or.inl ⟨L, C', M', nb', ne', y1, y2, y3, y4, y5, (xC.tr wC.x).tr y6, (xM.tr wM.x).tr y7⟩
          · exact Or.inr ⟨C', M', y1, y2, y3, (xC.tr wC.x).tr y4, (xM.tr wM.x).tr y5⟩
        · refine Or.inr ⟨C2, M2, s_lp_out ?_, s_lp_out ?_, F2, xC.tr wC.x, xM.tr wM.x⟩
          · try dsimp only
            rw [eC, e1, s_b2_s, if_neg (by decide), g1, s_b2_s, if_pos rfl]; rfl
          · try dsimp only
            rw [eM, e2, s_b2_s, if_neg (by decide), g2, s_b2_s, if_pos rfl]; rfl
      · obtain ⟨y1, y2⟩ := bad C1 M1 e1 e2
        exact Or.inr ⟨C1, M1, y1, y2, F1, xC, xM⟩
      · obtain ⟨y1, y2⟩ := bad C1 M1 e1 e2
        exact Or.inr ⟨C1, M1, y1, y2, F1, xC, xM⟩
