-- SENTENCES: one
theorem t_plain {g : s_G} {v : Nat} (hv : v < 29) : fS_isPlain_s (some (1000 + v)) g = some (if 20 ≤ v ∧ v ≤ 22 then 1 else 0) := by
  have h : v = 0 ∨ v = 1 ∨ v = 2 ∨ v = 3 ∨ v = 4 ∨ v = 5 ∨ v = 6 ∨ v = 7 ∨ v = 8 ∨ v = 9 ∨ v = 10 ∨ v = 11 ∨ v = 12 ∨ v = 13 ∨ v = 14 ∨ v = 15 ∨ v = 16 ∨ v = 17 ∨ v = 18 ∨ v = 19 ∨ v = 20 ∨ v = 21 ∨ v = 22 ∨ v = 23 ∨ v = 24 ∨ v = 25 ∨ v = 26 ∨ v = 27 ∨ v = 28 := by omega
  rcases h with rfl | rfl | rfl | rfl | rfl | rfl | rfl | rfl | rfl | rfl | rfl | rfl | rfl | rfl | rfl | rfl | rfl | rfl | rfl | rfl | rfl | rfl | rfl | rfl | rfl | rfl | rfl | rfl | rfl <;> rfl
noncomputable def t_bg (x : Option Nat) (g : s_G) : Option Int32 := if s_okw x = true then (if x = some 1019 then (some (1 : Int32))
  else s_b1 (fS_isPlain_s x g) fun v2 => if v2 = 0 then (if s_okw x = true then (if x = some 1023 then (some (1 : Int32))
  else if s_okw x = true then (if x = some 1024 then (some (1 : Int32))
  else if s_okw x = true then (if x = some 1025 then (some (1 : Int32))
  else if s_okw x = true then (if x = some 1026 then (some (1 : Int32))
  else if s_okw x = true then (if x = some 1027 then (some (1 : Int32))
  else if s_okw x = true then (if x = some 1028 then (some (1 : Int32))
  else some (0 : Int32)) else none) else none) else none) else none) else none) else none)
  else some (1 : Int32)) else none
theorem t_bg_s {g : s_G} {v : Nat} (hv : v < 29) : t_bg (some (1000 + v)) g = some (if 19 ≤ v then 1 else 0) := by
  have h : v = 0 ∨ v = 1 ∨ v = 2 ∨ v = 3 ∨ v = 4 ∨ v = 5 ∨ v = 6 ∨ v = 7 ∨ v = 8 ∨ v = 9 ∨ v = 10 ∨ v = 11 ∨ v = 12 ∨ v = 13 ∨ v = 14 ∨ v = 15 ∨ v = 16 ∨ v = 17 ∨ v = 18 ∨ v = 19 ∨ v = 20 ∨ v = 21 ∨ v = 22 ∨ v = 23 ∨ v = 24 ∨ v = 25 ∨ v = 26 ∨ v = 27 ∨ v = 28 := by omega
  rcases h with rfl | rfl | rfl | rfl | rfl | rfl | rfl | rfl | rfl | rfl | rfl | rfl | rfl | rfl | rfl | rfl | rfl | rfl | rfl | rfl | rfl | rfl | rfl | rfl | rfl | rfl | rfl | rfl | rfl <;> rfl
theorem t_bg_n {g : s_G} : t_bg none g = some 0 := rfl
/-- a one begins here -/
def t_bo (t : t_Tk) : Prop := t_sg t 40 ∨ (t.1 = 2 ∧ 19 ≤ t.2.1)
theorem t_begC {n m : Nat} {t : t_Tk} {C : s_G} (ho : t_ok t) (h : t_tC n m t C) : fS_beginsOne_1 C = some (e_bi (t_bo t)) := by
  show s_b1 (fQ_isSign_1 (40 : Int32) C) (fun v1 => if v1 = 0 then t_bg (C.2.2 1 9) C else some 1) = _
  rw [show fQ_isSign_1 40 C = _ from t_isSC ho h (c := 40) (by omega), s_b1_s]
  by_cases h1 : t_sg t 40
  · rw [e_bi_t h1, if_neg (by decide), e_bi_t (show t_bo t from Or.inl h1)]
  · rw [e_bi_f h1, if_pos rfl, t_c9 ho h]
    by_cases h2 : t.1 = 2
    · rw [if_pos h2, t_bg_s (ho.2.1 h2)]
      by_cases h3 : 19 ≤ t.2.1
      · rw [if_pos h3, e_bi_t (show t_bo t from Or.inr ⟨h2, h3⟩)]
      · rw [if_neg h3, e_bi_f (show ¬ t_bo t from fun h => h.elim h1 (fun h => h3 h.2))]
    · rw [if_neg h2, t_bg_n, e_bi_f (show ¬ t_bo t from fun h => h.elim h1 (fun h => h2 h.1))]
def t_wv (t : t_Tk) : Nat := if t.1 = 2 ∧ 19 ≤ t.2.1 then t.2.1 else 29
theorem t_saidM {t : t_Tk} {M : s_G} {K : s_G → Option (Int32 × s_G)} {R : Int32 × s_G} (ho : t_ok t) (h : t_tM t M) (hR : fM_readSaid_130_30 K (e_bi (t_sg t 40)) (Int32.ofNat (t_wv t)) M = some R) : fM_readSaid_130 K M = some R := by
  unfold fM_readSaid_130
  rw [show fM_isSign_130 40 M = _ from t_isSM ho h (c := 40) (by omega), s_b1_s]
  have hwv : 19 ≤ t_wv t ∧ t_wv t ≤ 29 := by
    unfold t_wv
    by_cases h2 : t.1 = 2 ∧ 19 ≤ t.2.1
    · rw [if_pos h2]; have := ho.2.1 h2.1; omega
    · rw [if_neg h2]; omega
  have hno : ∀ j, 19 ≤ j → j < t_wv t → ¬ t_is t j := by
    intro j h1 h2 h3
    unfold t_wv at h2
    rw [if_pos ⟨h3.1, by rw [h3.2]; exact h1⟩, h3.2] at h2
    omega
  refine e_seq2 (fun k => Int32.ofNat (19 + k)) (t_wv t - 19) rfl (fun k hk => ?_) ?_
  · unfold fM_readSaid_130_10
    rw [if_neg (show ¬ 28 < Int32.ofNat (19 + k) from e_F (a := 28) (by omega) (by omega)), t_isWM ho h (by omega), s_b1_s, e_bi_f (hno _ (by omega) (by omega)), if_pos rfl, e_inc]
    rfl
  · try dsimp only
    rw [show 19 + (t_wv t - 19) = t_wv t by omega]
    unfold fM_readSaid_130_10
    by_cases h29 : t_wv t = 29
    · rw [h29, if_pos (by decide)]
      rw [h29] at hR
      rw [hR]; rfl
    · have hi : t_is t (t_wv t) := by
        unfold t_wv at h29 ⊢
        by_cases h2 : t.1 = 2 ∧ 19 ≤ t.2.1
        · rw [if_pos h2]; exact ⟨h2.1, rfl⟩
        · rw [if_neg h2] at h29; exact absurd rfl h29
      rw [if_neg (show ¬ 28 < Int32.ofNat (t_wv t) from e_F (a := 28) (by omega) (by omega)), t_isWM ho h (by omega), s_b1_s, e_bi_t hi, if_neg (by decide), hR]
      rfl
theorem t_named_ev {n m a p N : Nat} {t : t_Tk} {C M : s_G} (h : t_P n m t a p C M) (b1 : N ≤ 10) (c0 : C.1 3 1 = Int32.ofNat N) (hN : ∀ j, j < N → e_nm (C.2.1 4 (7 + j)) (M.2.1 137 (7 + j))) :
    (∃ k C' M' t' a' p', 2 ≤ t.1 ∧ k < N ∧ s_b1 (fP_eventNamed_3 (C.2.1 1 8) C) (fun v7 => fQ_passNamed_1 v7 C) = some (Int32.ofNat k, C') ∧ fM_readNamed_130 7 (Int32.ofNat N) M = some (1, M') ∧ M'.1 130 13 = Int32.ofNat k ∧ t_P n m t' a' p' C' M' ∧ (2 ≤ t'.1 → a < a') ∧ t_wC C C' ∧ t_wM M M') ∨ (∃ C' M', s_b1 (fP_eventNamed_3 (C.2.1 1 8) C) (fun v7 => fQ_passNamed_1 v7 C) = some (-1, C') ∧ fM_readNamed_130 7 (Int32.ofNat N) M = some (0, M') ∧ t_F C' M' ∧ t_wC C C' ∧ t_wM M M') := by
  obtain ⟨hB, ha, hp, ho, hC, hM⟩ := id h
  have hpn : ∀ x, ∃ v, fP_eventNamed_3 x C = some v := by
    intro x
    unfold fP_eventNamed_3
    refine ⟨_, t_find (B := fun y => fP_eventNamed_3_2 x y C) (p := fun j => decide (C.2.1 4 (7 + j) = x)) (N := N) (fun j hj => ?_) ?_⟩
    · try dsimp only
      unfold fP_eventNamed_3_2
      rw [c0]
      rw [if_pos (e_T hj (by omega)), show (7 : Int32) + Int32.ofNat j = Int32.ofNat (7 + j) from by rw [Int32.ofNat_add]; rfl, e_ix (show 7 + j < 17 by omega) (by omega), s_b1_s, e_inc]
      by_cases hb : C.2.1 4 (7 + j) = x
      · rw [if_pos (t_cmp.mpr hb), if_pos (decide_eq_true hb)]; rfl
      · rw [if_neg (fun hh => hb (t_cmp.mp hh)), if_neg (fun hh => hb (of_decide_eq_true hh))]
    · try dsimp only
      unfold fP_eventNamed_3_2
      rw [c0, if_neg (e_F (Nat.le_refl N) (by omega))]; rfl
  unfold fM_readNamed_130
  rw [t_isNM ho hM, s_b1_s]
  by_cases h3 : t.1 = 3
  · obtain ⟨o1, -⟩ := ho.2.2.1 h3
    obtain ⟨-, -, c8⟩ := hC.2.2.2.1 h3
    obtain ⟨-, m12⟩ := hM.2.2.2.1 h3
    have e1 : fM_findIn_137 7 (Int32.ofNat N) (Int64.ofNat (e_pk 27 t.2.2)) M = some (t_fst (t_sm (C.2.1 4) 7 t.2.2) N) := t_findM_137 (b := 7) o1 (fun j hj => by exact hN j hj) (by omega)
    rw [e_bi_t h3, if_neg (by decide), c8, m12, t_evC_3 c0 b1, s_b1_s, e1, s_b1_s]
    unfold fQ_passNamed_1
    rw [if_pos ((t_c5 ho hC).2.1.mpr h3)]
    rcases t_fst_c (t_sm (C.2.1 4) 7 t.2.2) N with ⟨k, hk, hv⟩ | hv
    · rw [hv, if_neg (t_ne_m1 (by omega)), if_neg (t_ne_m1 (by omega))]
      obtain ⟨C1, M1, t1, a1, p1, n1, n2, n3, n4, n5, n6⟩ := t_next (t_P_13 (v := Int32.ofNat k) h) (by omega)
      refine Or.inl ⟨k, C1, M1, t1, a1, p1, by omega, hk, by rw [n1, s_b1_s], by rw [n2, s_b1_s], ?_, n3, n4, n5.w, t_wM.tr ⟨fun b hb => ⟨e_sN hb, rfl⟩, rfl, fun j hj => ?_⟩ n6.w⟩
      · rw [n6.2.2.1 13 (by omega), e_sS, e_ve]
      · rw [e_sS, e_vn _ _ (by omega)]
    · rw [hv, if_pos rfl, if_pos rfl]
      obtain ⟨Cf, Mf, f1, f2, f3, f4, f5⟩ := t_fail (t_P_13 (v := -1) h) 3 (fun h1 => by omega)
      refine Or.inr ⟨Cf, Mf, by rw [f1, s_b2_s], by rw [f2, s_b2_s, t_or0], f3, f4, t_wM.tr ⟨fun b hb => ⟨e_sN hb, rfl⟩, rfl, fun j hj => ?_⟩ f5⟩
      rw [e_sS, e_vn _ _ (by omega)]
  · obtain ⟨Cf, Mf, f1, f2, f3, f4, f5⟩ := t_fail h 1 (fun _ => rfl)
    obtain ⟨v, hv⟩ := hpn (C.2.1 1 8)
    rw [e_bi_f h3, if_pos rfl, hv, s_b1_s]
    unfold fQ_passNamed_1
    rw [if_neg (fun hh => h3 ((t_c5 ho hC).2.1.mp hh))]
    exact Or.inr ⟨Cf, Mf, by rw [f1, s_b2_s], by rw [f2, s_b2_s, t_or0], f3, f4, f5⟩
theorem t_named_bo {n m a p N : Nat} {t : t_Tk} {C M : s_G} (h : t_P n m t a p C M) (b1 : N ≤ 7) (c0 : C.1 3 0 = Int32.ofNat N) (hN : ∀ j, j < N → e_nm (C.2.1 4 (j)) (M.2.1 137 (j))) :
    (∃ k C' M' t' a' p', 2 ≤ t.1 ∧ k < N ∧ s_b1 (fP_boyNamed_3 (C.2.1 1 8) C) (fun v7 => fQ_passNamed_1 v7 C) = some (Int32.ofNat k, C') ∧ fM_readNamed_130 0 (Int32.ofNat N) M = some (1, M') ∧ M'.1 130 13 = Int32.ofNat k ∧ t_P n m t' a' p' C' M' ∧ (2 ≤ t'.1 → a < a') ∧ t_wC C C' ∧ t_wM M M') ∨ (∃ C' M', s_b1 (fP_boyNamed_3 (C.2.1 1 8) C) (fun v7 => fQ_passNamed_1 v7 C) = some (-1, C') ∧ fM_readNamed_130 0 (Int32.ofNat N) M = some (0, M') ∧ t_F C' M' ∧ t_wC C C' ∧ t_wM M M') := by
  obtain ⟨hB, ha, hp, ho, hC, hM⟩ := id h
  have hpn : ∀ x, ∃ v, fP_boyNamed_3 x C = some v := by
    intro x
    unfold fP_boyNamed_3
    refine ⟨_, t_find (B := fun y => fP_boyNamed_3_2 x y C) (p := fun j => decide (C.2.1 4 (j) = x)) (N := N) (fun j hj => ?_) ?_⟩
    · try dsimp only
      unfold fP_boyNamed_3_2
      rw [c0]
      rw [if_pos (e_T hj (by omega)), e_ix (show j < 17 by omega) (by omega), s_b1_s, e_inc]
      by_cases hb : C.2.1 4 (j) = x
      · rw [if_pos (t_cmp.mpr hb), if_pos (decide_eq_true hb)]; rfl
      · rw [if_neg (fun hh => hb (t_cmp.mp hh)), if_neg (fun hh => hb (of_decide_eq_true hh))]
    · try dsimp only
      unfold fP_boyNamed_3_2
      rw [c0, if_neg (e_F (Nat.le_refl N) (by omega))]; rfl
  unfold fM_readNamed_130
  rw [t_isNM ho hM, s_b1_s]
  by_cases h3 : t.1 = 3
  · obtain ⟨o1, -⟩ := ho.2.2.1 h3
    obtain ⟨-, -, c8⟩ := hC.2.2.2.1 h3
    obtain ⟨-, m12⟩ := hM.2.2.2.1 h3
    have e1 : fM_findIn_137 0 (Int32.ofNat N) (Int64.ofNat (e_pk 27 t.2.2)) M = some (t_fst (t_sm (C.2.1 4) 0 t.2.2) N) := t_findM_137 (b := 0) o1 (fun j hj => by rw [Nat.zero_add]; exact hN j hj) (by omega)
    rw [e_bi_t h3, if_neg (by decide), c8, m12, t_boyC_3 c0 b1, s_b1_s, e1, s_b1_s]
    unfold fQ_passNamed_1
    rw [if_pos ((t_c5 ho hC).2.1.mpr h3)]
    rcases t_fst_c (t_sm (C.2.1 4) 0 t.2.2) N with ⟨k, hk, hv⟩ | hv
    · rw [hv, if_neg (t_ne_m1 (by omega)), if_neg (t_ne_m1 (by omega))]
      obtain ⟨C1, M1, t1, a1, p1, n1, n2, n3, n4, n5, n6⟩ := t_next (t_P_13 (v := Int32.ofNat k) h) (by omega)
      refine Or.inl ⟨k, C1, M1, t1, a1, p1, by omega, hk, by rw [n1, s_b1_s], by rw [n2, s_b1_s], ?_, n3, n4, n5.w, t_wM.tr ⟨fun b hb => ⟨e_sN hb, rfl⟩, rfl, fun j hj => ?_⟩ n6.w⟩
      · rw [n6.2.2.1 13 (by omega), e_sS, e_ve]
      · rw [e_sS, e_vn _ _ (by omega)]
    · rw [hv, if_pos rfl, if_pos rfl]
      obtain ⟨Cf, Mf, f1, f2, f3, f4, f5⟩ := t_fail (t_P_13 (v := -1) h) 3 (fun h1 => by omega)
      refine Or.inr ⟨Cf, Mf, by rw [f1, s_b2_s], by rw [f2, s_b2_s, t_or0], f3, f4, t_wM.tr ⟨fun b hb => ⟨e_sN hb, rfl⟩, rfl, fun j hj => ?_⟩ f5⟩
      rw [e_sS, e_vn _ _ (by omega)]
  · obtain ⟨Cf, Mf, f1, f2, f3, f4, f5⟩ := t_fail h 1 (fun _ => rfl)
    obtain ⟨v, hv⟩ := hpn (C.2.1 1 8)
    rw [e_bi_f h3, if_pos rfl, hv, s_b1_s]
    unfold fQ_passNamed_1
    rw [if_neg (fun hh => h3 ((t_c5 ho hC).2.1.mp hh))]
    exact Or.inr ⟨Cf, Mf, by rw [f1, s_b2_s], by rw [f2, s_b2_s, t_or0], f3, f4, f5⟩
-- how outcomes are put together
theorem t_OS.pre {n m ne d a a' o s : Nat} {C M C2 M2 : s_G} {oc om : Option (Int32 × s_G)} (h : t_OS n m ne d a' o s C2 M2 oc om) (hA : t_A s C M C2 M2) (yC : t_yC C C2) (yM : t_yM M M2) : t_OS n m ne d a o s C M oc om := by
  rcases h with ⟨C', M', t', a', p', o', s', k1, k2, k3, k4, k5, k6, k7, k8, k9⟩ | ⟨C', M', k1, k2, k3, k4, k5, k6⟩
  · exact Or.inl ⟨C', M', t', a', p', o', s', k1, k2, k3, k4, k5, k6, hA.tr k7 (Nat.le_refl _), yC.tr k8, yM.tr k9⟩
  · exact Or.inr ⟨C', M', k1, k2, k3, k4, yC.tr k5, yM.tr k6⟩
theorem t_OS.o1 {n m ne d a o s : Nat} {C M : s_G} {oc om : Option (Int32 × s_G)} (h : t_OS n m ne d a (o + 1) s C M oc om) : t_OS n m ne d a o s C M oc om := by
  rcases h with ⟨C', M', t', a', p', o', s', k1, k2, k3, k4, k5, k6, k7, k8, k9⟩ | h
  · exact Or.inl ⟨C', M', t', a', p', o', s', k1, k2, k3, k4, by omega, k6, k7, k8, k9⟩
  · exact Or.inr h
theorem t_OS.wC {n m ne d a o s : Nat} {C M : s_G} {oc om : Option (Int32 × s_G)} (h : t_OS n m ne d a o s C M oc om) : t_OS n m ne d a o s C M (s_b2 oc t_Wf) om := by
  rcases h with ⟨C', M', t', a', p', o', s', k1, k2, k3⟩ | ⟨C', M', k1, k2, k3⟩
  · exact Or.inl ⟨C', M', t', a', p', o', s', by rw [k1, t_W1], k2, k3⟩
  · exact Or.inr ⟨C', M', by rw [k1, t_W0], k2, k3⟩
/-- out again -/
theorem t_OS.dec {n m ne d a o s : Nat} {C M : s_G} {oc om : Option (Int32 × s_G)} {K : s_G → Option (Int32 × s_G)} (h : t_OS n m ne (d + 1) a o s C M oc om) : t_OS n m ne d a o s C M oc (s_b2 om fun v g => fM_readSaid_130_166 K v g) := by
  rcases h with ⟨C', M', t', a', p', o', s', k1, k2, k3, k4, k5, k6, k7, k8, k9⟩ | ⟨C', M', k1, k2, k3, k4, k5, k6⟩
  · refine Or.inl ⟨C', s_si M' 130 46 (Int32.ofNat d), t', a', p', o', s', k1, ?_, t_P_hi k3 (by omega), t_S_d k4 d, k5, ?_, ⟨k7.1, fun k hk => by rw [e_sN (by omega)]; exact k7.2 k hk⟩, k8, k9.tr (t_yM.s0 (by omega))⟩
    · rw [k2, s_b2_s]
      unfold fM_readSaid_130_166
      rw [t_or1, k4.1.2.2.1, e_dec (by omega)]
      rfl
    · rw [e_sS, e_vn _ _ (by omega)]
      exact t_X_cg k6 ⟨fun _ _ => ⟨rfl, rfl, rfl⟩, fun k _ => by rw [e_sN (by omega)]⟩
  · refine Or.inr ⟨C', s_si M' 130 46 (M'.1 130 46 - 1), k1, ?_, t_F_cg k3 rfl rfl (fun k hk => by rw [e_sS, e_vn _ _ (by omega)]) (e_sN (by omega)), k4, k5, k6.tr (t_yM.s0 (by omega))⟩
    rw [k2, s_b2_s]
    unfold fM_readSaid_130_166
    rw [t_or0]
/-- a step that is a leaf -/
theorem t_leaf {n m ne d a p o s w : Nat} {t : t_Tk} {C M : s_G} {x2 x3 y2 y3 y4 : Int32} (h : t_P n m t a p C M) (hS : t_S ne (o + 1) s d C M) (hs : s ≤ 2 * o) (hw : 20 ≤ w ∧ w ≤ 28) (h1 : w = 23 ∨ w = 24 → ∃ e, e < ne ∧ y2 = Int32.ofNat e ∧ x3 = Int32.ofNat e) (h2 : 25 ≤ w → y3 = x3 ∧ y4 = x2 ∧ (x2 = 60 ∨ x2 = 61 ∨ x2 = 62)) : t_OS n m ne d a o s C M (s_b1 (fS_addStep_32 (some (1000 + w)) x2 x3 C) fun g21 => some ((1 : Int32), g21)) (s_b2 (fM_saysOne_130 (Int32.ofNat (50 + w)) y2 y3 y4 M) fun v4 g3 => some ((1 : Int32), (s_si g3 130 47 v4))) := by
  have ho := hS.1.1.1
  have hwo : s_okw (some (1000 + w)) = true := by
    show (Nat.ble 1000 (1000 + w) && Nat.blt (1000 + w) 1029) = true
    rw [Nat.ble_eq_true_of_le (by omega)]
    exact Nat.ble_eq_true_of_le (show 1000 + w + 1 ≤ 1029 by omega)
  rw [t_addC hwo (by omega) hS.1.2.2.2.1, s_b1_s, t_addM (by omega) hS.1.2.2.2.2, s_b2_s]
  refine Or.inl ⟨_, _, t, a, p, o + 1, s + 1, rfl, rfl, t_P_hi (t_a_P h) (by omega), t_S_47 (t_a_S hS hwo (by omega)), by omega, ?_, ?_, t_aC_y, t_aM_y.tr (t_yM.s0 (by omega))⟩
  · rw [e_sS, e_ve]
    refine ⟨s, rfl, ?_⟩
    rw [show s + 1 - s = 0 + 1 by omega]
    obtain ⟨d1, d2, d3, d4⟩ := t_aM_nd (M := M) (s := s) (x1 := Int32.ofNat (50 + w)) (x2 := y2) (x3 := y3) (x4 := y4)
    obtain ⟨c1, c2, c3⟩ := t_aC_st (C := C) (w := 1000 + w) (s := s) (x2 := x2) (x3 := x3)
    rw [e_sN (by omega)]
    refine ⟨by omega, by omega, Or.inl ⟨rfl, w, hw, d1, c1, ?_, ?_⟩⟩
    · intro hq
      rw [d2, c3]; exact h1 hq
    · intro hq
      rw [d3, d4, c2, c3]; exact h2 hq
  · have hA : t_A s C M (t_aC (1000 + w) x2 x3 s C) (t_aM (Int32.ofNat (50 + w)) y2 y3 y4 s M) := t_aCM_A
    exact ⟨hA.1, fun k hk => by rw [e_sN (by omega)]; exact hA.2 k hk⟩
theorem t_fl {ne d o s : Nat} {C M C' : s_G} (hS : t_S ne o s d C M) (c : t_wC C C') : (∀ k, k < 40 → s_okw (C'.2.2 33 k) = true) ∧ ∃ q, q ≤ 40 ∧ C'.1 32 4 = Int32.ofNat q := by
  have := hS.1.1
  refine ⟨fun k hk => by rw [(c 33 (by omega)).2.2]; exact hS.2.1 k hk, s, by omega, by rw [(c 32 (by omega)).1]; exact hS.1.2.2.2.1⟩
