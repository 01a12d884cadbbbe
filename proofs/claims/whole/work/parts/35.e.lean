-- SENTENCES: one, and how deep
theorem t_OS.mM {n m ne d a o s : Nat} {C M : s_G} {oc om om' : Option (Int32 × s_G)} (h : t_OS n m ne d a o s C M oc om') (hm : ∀ R, om' = some R → om = some R) : t_OS n m ne d a o s C M oc om := by
  rcases h with ⟨C', M', t', a', p', o', s', k1, k2, k3⟩ | ⟨C', M', k1, k2, k3⟩
  · exact Or.inl ⟨C', M', t', a', p', o', s', k1, hm _ k2, k3⟩
  · exact Or.inr ⟨C', M', k1, hm _ k2, k3⟩
theorem t_one {n m ne d : Nat} {KC : Int32 → s_G → Option (Int32 × s_G)} {KM : s_G → Option (Int32 × s_G)} (hd : d ≤ 8) (hK : d < 8 → t_KS n m ne (d + 1) (KC (Int32.ofNat (d + 2))) KM) : t_KS n m ne d (fS_readOne_32_1_3 KC (Int32.ofNat (d + 1))) (fM_readSaid_130 KM) := by
  intro C M t a p o s h hS
  obtain ⟨hB, ha, hp, ho, hC, hM⟩ := id h
  obtain ⟨⟨⟨ho20, hs2⟩, ⟨c5, m5⟩, m6, c4, m4⟩, -⟩ := id hS
  refine t_OS.mM ?_ (fun R hR => t_saidM ho hM hR)
  unfold fS_readOne_32_1_3
  rw [t_begC ho hC, s_b1_s]
  by_cases hb : t_bo t
  · have e30 : fM_readSaid_130_30 KM (e_bi (t_sg t 40)) (Int32.ofNat (t_wv t)) M = fM_readSaid_130_46 KM (e_bi (t_sg t 40)) (Int32.ofNat (t_wv t)) M := by
      unfold fM_readSaid_130_30
      by_cases h1 : t_sg t 40
      · rw [e_bi_t h1, if_neg (by decide)]
      · rw [e_bi_f h1, if_pos rfl]
        have h2 : t.1 = 2 ∧ 19 ≤ t.2.1 := hb.resolve_left h1
        have h3 : t_wv t = t.2.1 := by unfold t_wv; rw [if_pos h2]
        have h4 := ho.2.1 h2.1
        rw [h3, if_neg (show ¬ 28 < Int32.ofNat t.2.1 from e_F (a := 28) (by omega) (by omega))]
    rw [e30, e_bi_t hb, if_neg (by decide), c5]
    have ht1 : ¬ t.1 = 1 := by
      intro h1
      rcases hb with hb | hb
      · have := hb.1; omega
      · omega
    obtain ⟨Cf, Mf, f1, f2, f3, f4, f5⟩ := t_fail h 4 (fun h1 => absurd h1 ht1)
    unfold fM_readSaid_130_46
    rw [m5, m6]
    by_cases h20 : o = 20
    · subst h20
      rw [if_neg (by decide), if_pos (by decide)]
      exact Or.inr ⟨Cf, Mf, by rw [f1, s_b2_s, t_or0], by rw [f2, s_b2_s, t_or0], f3, t_fl hS f4, f4.y, f5.y⟩
    rw [if_pos (show Int32.ofNat o < 20 from e_T (b := 20) (by omega) (by omega)), if_neg (show ¬ Int32.ofNat o = 20 from fun hh => h20 (e_in (b := 20) (by omega) (by omega) hh))]
    by_cases h8 : d = 8
    · subst h8
      rw [if_pos (by decide), if_pos (by decide)]
      exact Or.inr ⟨Cf, Mf, by rw [f1, s_b2_s, t_or0], by rw [f2, s_b2_s, t_or0], f3, t_fl hS f4, f4.y, f5.y⟩
    rw [if_neg (show ¬ 8 < Int32.ofNat (d + 1) from e_F (a := 8) (by omega) (by omega)), if_neg (show ¬ Int32.ofNat d = 8 from fun hh => h8 (e_in (b := 8) (by omega) (by omega) hh)), e_inc, e_inc, e_inc]
    have hK' := hK (by omega)
    have hP1 : t_P n m t a p (s_si C 32 5 (Int32.ofNat (o + 1))) (s_si (s_si M 130 45 (Int32.ofNat (o + 1))) 130 46 (Int32.ofNat (d + 1))) := t_P_hi (t_P_hi (t_P_c h (e_sN (by omega)) (e_sN (by omega)) rfl rfl) (by omega)) (by omega)
    have hS1 : t_S ne (o + 1) s (d + 1) (s_si C 32 5 (Int32.ofNat (o + 1))) (s_si (s_si M 130 45 (Int32.ofNat (o + 1))) 130 46 (Int32.ofNat (d + 1))) := by
      obtain ⟨-, h8', ⟨h9, h10, h11⟩, h12⟩ := id hS
      refine ⟨⟨⟨by omega, by omega⟩, ⟨?_, ?_⟩, ?_, ?_, ?_⟩, h8', ⟨h9, ?_, ?_⟩, h12⟩
      · rw [e_sS, e_ve]
      · rw [e_sS, e_vn _ _ (by omega), e_sS, e_ve]
      · rw [e_sS, e_ve]
      · rw [e_sS, e_vn _ _ (by omega)]; exact c4
      · rw [e_sS, e_vn _ _ (by omega), e_sS, e_vn _ _ (by omega)]; exact m4
      · rw [e_sN (by omega)]; exact h10
      · rw [e_sN (by omega), e_sN (by omega)]; exact h11
    obtain ⟨C2, M2, t2, a2, p2, n1, n2, n3, n4, n5, n6⟩ := t_next hP1 (by
      rcases hb with hb | hb
      · have := hb.1; omega
      · omega)
    rw [n1, s_b1_s, n2, s_b1_s]
    have hS2 := t_S_w hS1 n5.w n6.w
    have hA2 : t_A s C M C2 M2 := by
      have h1 : t_A s C M (s_si C 32 5 (Int32.ofNat (o + 1))) (s_si (s_si M 130 45 (Int32.ofNat (o + 1))) 130 46 (Int32.ofNat (d + 1))) := ⟨fun k _ => ⟨rfl, by rw [e_sN (by omega)], by rw [e_sN (by omega)]⟩, fun k _ => by rw [e_sN (by omega), e_sN (by omega)]⟩
      exact h1.tr (t_A_w (s := s) n5.w n6.w) (Nat.le_refl _)
    have yC2 : t_yC C C2 := (t_yC.si (by omega) (by omega)).tr n5.w.y
    have yM2 : t_yM M M2 := ((t_yM.s0 (by omega)).tr (t_yM.s0 (by omega))).tr n6.w.y
    by_cases h1 : t_sg t 40
    · rw [e_bi_t h1, if_neg (show ¬ (1 : Int32) = 0 by decide), t_c9 ho hC, if_neg (show ¬ t.1 = 2 by have := h1.1; omega), if_pos rfl]
      exact (((t_bracket (t_cond hK') n3 hS2).o1).dec (K := KM)).pre hA2 yC2 yM2
    · have h2 : t.1 = 2 ∧ 19 ≤ t.2.1 := hb.resolve_left h1
      have h3 : t_wv t = t.2.1 := by unfold t_wv; rw [if_pos h2]
      have h4 := ho.2.1 h2.1
      have hok := t_okw2 ho h2.1
      rw [e_bi_f h1, if_pos (show (0 : Int32) = 0 from rfl), t_c9 ho hC, if_pos h2.1, if_neg (show ¬ (some (1000 + t.2.1) : Option Nat) = none from fun hh => by cases hh), if_pos hok, h3]
      by_cases h19 : t.2.1 = 19
      · rw [if_pos (show (some (1000 + t.2.1) : Option Nat) = some 1019 by rw [h19]), if_pos (show Int32.ofNat t.2.1 = 19 by rw [h19]; rfl)]
        exact ((t_not hK' n3 hS2 hs2).dec (K := KM)).pre hA2 yC2 yM2
      rw [if_neg (show ¬ (some (1000 + t.2.1) : Option Nat) = some 1019 from fun hh => h19 (by have := Option.some.inj hh; omega)), if_neg (show ¬ Int32.ofNat t.2.1 = 19 from fun hh => h19 (e_in (b := 19) (by omega) (by omega) hh)), t_plain h4, s_b1_s]
      by_cases h22 : t.2.1 ≤ 22
      · rw [if_pos (show 20 ≤ t.2.1 ∧ t.2.1 ≤ 22 by omega), if_neg (show ¬ (1 : Int32) = 0 by decide), if_pos (show Int32.ofNat t.2.1 < 23 from e_T (b := 23) (by omega) (by omega)), show (50 : Int32) + Int32.ofNat t.2.1 = Int32.ofNat (50 + t.2.1) from by rw [Int32.ofNat_add]; rfl]
        have hl := ((t_leaf (w := t.2.1) (x2 := 0) (x3 := 0) (y2 := 0) (y3 := 0) (y4 := 0) n3 hS2 hs2 (by omega) (fun h => by omega) (fun h => by omega)).dec (K := KM)).pre (a := a) hA2 yC2 yM2
        refine hl.mM (fun R hR => ?_)
        rw [← hR]
        cases fM_saysOne_130 (Int32.ofNat (50 + t.2.1)) 0 0 0 M2 with
        | none => rfl
        | some z => rfl
      rw [if_neg (show ¬ (20 ≤ t.2.1 ∧ t.2.1 ≤ 22) by omega), if_pos (show (0 : Int32) = 0 from rfl), if_pos hok, if_neg (show ¬ Int32.ofNat t.2.1 < 23 from e_F (b := 23) (by omega) (by omega))]
      by_cases h23 : t.2.1 = 23
      · rw [if_pos (show (some (1000 + t.2.1) : Option Nat) = some 1023 by rw [h23]), if_pos (show Int32.ofNat t.2.1 < 25 from e_T (b := 25) (by omega) (by omega))]
        exact ((t_of (K := KC) n3 hS2 hs2 (Or.inl h23)).dec (K := KM)).pre hA2 yC2 yM2
      rw [if_neg (show ¬ (some (1000 + t.2.1) : Option Nat) = some 1023 from fun hh => h23 (by have := Option.some.inj hh; omega)), if_pos hok]
      by_cases h24 : t.2.1 = 24
      · rw [if_pos (show (some (1000 + t.2.1) : Option Nat) = some 1024 by rw [h24]), if_pos (show Int32.ofNat t.2.1 < 25 from e_T (b := 25) (by omega) (by omega))]
        exact ((t_of (K := KC) n3 hS2 hs2 (Or.inr h24)).dec (K := KM)).pre hA2 yC2 yM2
      rw [if_neg (show ¬ (some (1000 + t.2.1) : Option Nat) = some 1024 from fun hh => h24 (by have := Option.some.inj hh; omega)), if_neg (show ¬ Int32.ofNat t.2.1 < 25 from e_F (b := 25) (by omega) (by omega))]
      exact (((t_cmpr n3 hS2 hs2 (by omega)).wC).dec (K := KM)).pre hA2 yC2 yM2
  · have h1 : ¬ t_sg t 40 := fun hh => hb (Or.inl hh)
    have h3 : t_wv t = 29 := by unfold t_wv; rw [if_neg (fun hh => hb (Or.inr hh))]
    obtain ⟨Cf, Mf, f1, f2, f3, f4, f5⟩ := t_fail h 1 (fun _ => rfl)
    rw [e_bi_f hb, if_pos rfl, e_bi_f h1, h3]
    unfold fM_readSaid_130_30
    rw [if_pos (show (0 : Int32) = 0 from rfl), if_pos (show 28 < Int32.ofNat 29 by decide)]
    exact Or.inr ⟨Cf, Mf, by rw [f1, s_b2_s, t_or0], by rw [f2, s_b2_s, t_or0], f3, t_fl hS f4, f4.y, f5.y⟩
theorem t_ones {n m ne : Nat} : ∀ f d, d ≤ 8 → 9 ≤ d + f → t_KS n m ne d (fS_readOne_32_1_3_k f (Int32.ofNat (d + 1))) (fM_readSaid_130_k f) := by
  intro f
  induction f with
  | zero => intro d h1 h2; omega
  | succ f ih =>
    intro d h1 h2
    exact t_one (KC := fS_readOne_32_1_3_k f) (KM := fM_readSaid_130_k f) h1 (fun h8 => ih (d + 1) (by omega) (by omega))
/-- a sentence's text, by both -/
theorem t_sentT {N ne : Nat} {C M : s_G} (hN : N ≤ 940) (h1 : C.1 1 1 = Int32.ofNat N) (h2 : M.1 130 2 = Int32.ofNat N) (hby : e_by (C.1 2) (M.1 131)) (hok : ∀ k, k < 40 → s_okw (C.2.2 33 k) = true) (hne : ne ≤ 10) (c31 : C.1 3 1 = Int32.ofNat ne) (m1 : M.1 132 1 = Int32.ofNat ne) (hnm : ∀ e, e < ne → e_nm (C.2.1 4 (7 + e)) (M.2.1 137 (7 + e))) :
    (∃ C' M' o s, s_b1 (fQ_startText_1 200 C) (fun g1 => fS_readText_32_1_3 g1) = some (1, C') ∧ (∀ R, s_lp (fun (x : Int32 × s_G) => fM_sentence_130_79 x.1 x.2) (0, s_si (s_si M' 132 133 1) 132 134 (M'.1 130 47)) = some R → fM_sentence_130 M = some R) ∧ t_B N 200 C' M' ∧ t_S ne o s 0 C' M' ∧ C'.1 32 6 = 1 ∧ t_X ne 0 s (M'.1 130 47) C' M' ∧ t_yC C C' ∧ t_yM (s_si M 130 0 0) M') ∨
    (∃ C' M', s_b1 (fQ_startText_1 200 C) (fun g1 => fS_readText_32_1_3 g1) = some (0, C') ∧ fM_sentence_130 M = some (-1 - M'.1 130 11, M') ∧ t_F C' M' ∧ (∀ k, k < 40 → s_okw (C'.2.2 33 k) = true) ∧ t_yC C C' ∧ t_yM (s_si M 130 0 0) M') := by
  obtain ⟨C1, M1, t, a, p, x1, x2, x3, x4, x5⟩ := t_begin (m := 200) (by omega) hN h1 h2 hby
  generalize hX : s_si (s_si (s_si C1 32 4 (0 : Int32)) 32 5 (0 : Int32)) 32 6 (0 : Int32) = X
  generalize hY : s_si (s_si (s_si M1 130 44 (0 : Int32)) 130 45 (0 : Int32)) 130 46 (0 : Int32) = Y
  have yX : t_yC C X := by rw [← hX]; exact ((x4.y.tr (t_yC.si (by omega) (by omega))).tr (t_yC.si (by omega) (by omega))).tr (t_yC.si (by omega) (by omega))
  have yY : t_yM (s_si M 130 0 0) Y := by rw [← hY]; exact ((x5.y.tr (t_yM.s0 (by omega))).tr (t_yM.s0 (by omega))).tr (t_yM.s0 (by omega))
  have hP : t_P N 200 t a p X Y := by
    rw [← hX, ← hY]
    exact t_P_hi (t_P_hi (t_P_hi (t_P_c x3 (by rw [e_sN (by omega), e_sN (by omega), e_sN (by omega)]) (by rw [e_sN (by omega), e_sN (by omega), e_sN (by omega)]) rfl rfl) (by omega)) (by omega)) (by omega)
  have hS : t_S ne 0 0 0 X Y := by
    refine ⟨⟨⟨by omega, by omega⟩, ⟨?_, ?_⟩, ?_, ?_, ?_⟩, fun k hk => ?_, ⟨hne, ?_, ?_⟩, fun e he => ?_⟩
    · rw [← hX, e_sS, e_vn _ _ (by omega), e_sS, e_ve]; rfl
    · rw [← hY, e_sS, e_vn _ _ (by omega), e_sS, e_ve]; rfl
    · rw [← hY, e_sS, e_ve]; rfl
    · rw [← hX, e_sS, e_vn _ _ (by omega), e_sS, e_vn _ _ (by omega), e_sS, e_ve]; rfl
    · rw [← hY, e_sS, e_vn _ _ (by omega), e_sS, e_vn _ _ (by omega), e_sS, e_ve]; rfl
    · rw [← hX]
      show s_okw (C1.2.2 33 k) = true
      rw [(x4 33 (by omega)).2.2]; exact hok k hk
    · rw [(yX 3 (by omega)).1]; exact c31
    · rw [(yY.1 132 (by omega)).1, e_sN (by omega)]; exact m1
    · rw [(yX 4 (by omega)).2.1, (yY.1 137 (by omega)).2]; exact hnm e he
  have eC : s_b1 (fQ_startText_1 200 C) (fun g1 => fS_readText_32_1_3 g1) = s_b2 (fS_readCond_32_1_3 (fS_readOne_32_1_3_k 12) (1 : Int32) X) fun v3 g2 => if v3 = 0 then (some ((0 : Int32), g2)) else s_b1 (fQ_hasEnded_1 g2) fun v4 => if v4 = 0 then (s_b2 (fQ_fail_1 (1 : Int32) g2) fun v6 g5 => if v6 = 0 ∨ v6 = 1 then some (v6, g5) else none) else some ((1 : Int32), (s_si g2 32 6 (1 : Int32))) := by
    rw [show fQ_startText_1 200 C = _ from x1, s_b1_s]
    unfold fS_readText_32_1_3 fS_clear_32
    rw [s_b1_s, hX]
  have eM : fM_sentence_130 M = s_b2 (fM_readOr_130 (fM_readSaid_130_k 12) Y) fun v3 g2 => if v3 = 0 then (some ((-1 : Int32) - (g2.1 130 11), g2)) else if (g2.1 130 7) = 0 then (s_lp (fun (x : Int32 × s_G) => fM_sentence_130_79 x.1 x.2) ((0 : Int32), (s_si (s_si g2 132 133 (1 : Int32)) 132 134 (g2.1 130 47)))) else s_b2 (fM_bad_130 (1 : Int32) g2) fun v9 g8 => some ((-1 : Int32) - (g8.1 130 11), g8) := by
    unfold fM_sentence_130
    rw [show fM_begin_130 200 M = _ from x2, s_b1_s, hY]
  rw [eC, eM]
  have hK : t_KS N 200 ne 0 (fS_readCond_32_1_3 (fS_readOne_32_1_3_k 12) (Int32.ofNat (0 + 1))) (fM_readOr_130 (fM_readSaid_130_k 12)) := t_cond (t_ones 12 0 (by omega) (by omega))
  rcases hK X Y t a p 0 0 hP hS with ⟨C2, M2, t2, a2, p2, o2, s2, k1, k2, k3, k4, k5, k6, k7, k8, k9⟩ | ⟨C2, M2, k1, k2, k3, k4, k5, k6⟩
  · obtain ⟨hB, ha, hp, ho, hC, hM⟩ := id k3
    obtain ⟨⟨hn9, hm9⟩, -, -, ⟨c2, -⟩, ⟨c3, -⟩, -⟩ := id hB
    rw [show fS_readCond_32_1_3 (fS_readOne_32_1_3_k 12) 1 X = _ from k1, s_b2_s, if_neg (show ¬ (1 : Int32) = 0 by decide), t_endC ho hC hn9 hm9 c2 c3, s_b1_s, k2, s_b2_s, if_neg (show ¬ (1 : Int32) = 0 by decide)]
    by_cases h0 : t2.1 = 0
    · rw [e_bi_t h0, if_neg (by decide), if_pos ((t_m7 ho hM).1.mpr h0)]
      refine Or.inl ⟨s_si C2 32 6 1, M2, o2, s2, rfl, fun R hR => hR, ?_, ?_, by rw [e_sS, e_ve], t_X_cg k6 ⟨fun k _ => ⟨rfl, by rw [e_sN (by omega)], by rw [e_sN (by omega)]⟩, fun _ _ => rfl⟩, (yX.tr k8).tr (t_yC.si (by omega) (by omega)), yY.tr k9⟩
      · unfold t_B
        rw [e_sN (by omega), e_sN (by omega)]
        exact hB
      · obtain ⟨⟨q1, ⟨q2, q3⟩, q4, q5, q6⟩, q7, ⟨q8, q9, q10⟩, q11⟩ := k4
        exact ⟨⟨q1, ⟨by rw [e_sS, e_vn _ _ (by omega)]; exact q2, q3⟩, q4, by rw [e_sS, e_vn _ _ (by omega)]; exact q5, q6⟩, q7, ⟨q8, by rw [e_sN (by omega)]; exact q9, q10⟩, q11⟩
    · rw [e_bi_f h0, if_pos rfl, if_neg (fun hh => h0 ((t_m7 ho hM).1.mp hh))]
      obtain ⟨Cf, Mf, f1, f2, f3, f4, f5⟩ := t_fail k3 1 (fun _ => rfl)
      exact Or.inr ⟨Cf, Mf, by rw [f1, s_b2_s, t_or0], by rw [f2, s_b2_s], f3, (t_fl k4 f4).1, (yX.tr k8).tr f4.y, (yY.tr k9).tr f5.y⟩
  · rw [show fS_readCond_32_1_3 (fS_readOne_32_1_3_k 12) 1 X = _ from k1, s_b2_s, if_pos rfl, k2, s_b2_s, if_pos rfl]
    exact Or.inr ⟨C2, M2, rfl, rfl, k3, k4.1, yX.tr k5, yY.tr k6⟩
