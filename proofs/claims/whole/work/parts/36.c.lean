-- SAID: the call
theorem t_cn_m {W : Nat → Bool} {nb : Nat} : ∀ k, e_cn (fun j => decide (j < nb) && W j) k = e_cn W (min k nb) := by
  intro k
  induction k with
  | zero => rw [Nat.zero_min]; rfl
  | succ k ih =>
    have e1 : e_cn (fun j => decide (j < nb) && W j) (k + 1) = e_cn (fun j => decide (j < nb) && W j) k + (if (decide (k < nb) && W k) = true then 1 else 0) := rfl
    rw [e1, ih]
    by_cases h : k < nb
    · rw [show min (k + 1) nb = k + 1 by omega, show min k nb = k by omega, decide_eq_true h, Bool.true_and]
      rfl
    · rw [show min (k + 1) nb = min k nb by omega, decide_eq_false h, Bool.false_and]
      rfl
theorem t_pc_ts {W : Nat → Bool} {nb : Nat} (hn : nb ≤ 7) : e_pc (e_ts W nb) = e_cn W nb := by
  unfold e_pc
  rw [e_cn_cg (q := fun j => decide (j < nb) && W j) 10 (fun k _ => e_ts_t W nb k), t_cn_m, show min 10 nb = nb by omega]
theorem k_said {g : s_G} (h : e_I g) (x : Int32) : e_k1 (fC_said_0 x g) (fM_said_130 x) := by
  obtain ⟨hR, nb, ne, n, p, hs, hJ⟩ := id h
  obtain ⟨hH, hC, hT, hS⟩ := e_I.jc hJ
  have h7 := hH.1.1
  obtain ⟨hok, hSE⟩ := hJ.1.2.2.2.2.2
  rcases hSE with ⟨o6, f3⟩ | ⟨o6, f3, N, t, hN, o4, f4, htr⟩
  · refine e_no h (-1) ?_ ?_
    · unfold fC_said_0
      rw [if_pos o6]
    · unfold fM_said_130
      rw [if_pos f3]
  · obtain ⟨W, w1, w2⟩ := t_ev hC hH hT o4 hN hok N t 0 N htr (Nat.le_refl _)
    have c10 : ∀ k, k ≤ 7 → e_cn W k ≤ 7 := fun k hk => Nat.le_trans (e_cn_le W k) hk
    -- the reference, wherever it stands
    have ref : ∀ G : s_G, G.1 132 = g.1 132 → ∃ v, fM_said_130 x G = some (v, s_si G 130 0 0) ∧ ((x = -1 ∧ v = Int32.ofNat (e_cn W nb)) ∨ (∃ k, k < nb ∧ W k = true ∧ Int32.ofNat (e_cn W k) = x ∧ (∀ j, j < k → W j = true → ¬ Int32.ofNat (e_cn W j) = x) ∧ v = Int32.ofNat k) ∨ (¬ x = -1 ∧ (∀ j, j < nb → W j = true → ¬ Int32.ofNat (e_cn W j) = x) ∧ v = -1)) := by
      intro G hG
      have hG' : (s_si G 130 0 0).1 132 = g.1 132 := by rw [e_sN (by omega), hG]
      have step : ∀ k, k < nb → fM_said_130_22 x (Int32.ofNat (e_cn W k)) (Int32.ofNat k) (s_si G 130 0 0) = if W k = true then (if Int32.ofNat (e_cn W k) = x then some (.inr (Int32.ofNat k, s_si G 130 0 0)) else some (.inl (Int32.ofNat (e_cn W (k + 1)), Int32.ofNat (k + 1)))) else some (.inl (Int32.ofNat (e_cn W (k + 1)), Int32.ofNat (k + 1))) := by
        intro k hk
        unfold fM_said_130_22
        have e1 : e_cn W (k + 1) = e_cn W k + (if W k = true then 1 else 0) := rfl
        rw [hG', hH.1.2, if_pos (e_T hk (by omega)), f4, w1 _ hG' 64 (by omega) k hk, s_b1_s, e_inc, e_inc, e1]
        cases hw : W k with
        | false => rw [if_pos (show t_bI false = 0 from rfl), if_neg (show ¬ false = true by decide), if_neg (show ¬ false = true by decide)]; rfl
        | true => rw [if_neg (show ¬ t_bI true = 0 by decide), if_pos rfl, if_pos rfl]; rfl
      have e0 : ¬ (G.1 132 133) = 0 := by rw [hG, f3]; decide
      obtain ⟨k1, k2, k3⟩ := e_fi_c (p := fun k => W k && decide (Int32.ofNat (e_cn W k) = x)) nb
      have no : ∀ j, j < e_fi (fun k => W k && decide (Int32.ofNat (e_cn W k) = x)) nb → W j = true → ¬ Int32.ofNat (e_cn W j) = x := by
        intro j hj hw hx
        have := k3 j hj
        try dsimp only at this
        rw [hw, decide_eq_true hx] at this
        exact absurd this (by decide)
      have run : ∀ R, fM_said_130_22 x (Int32.ofNat (e_cn W (e_fi (fun k => W k && decide (Int32.ofNat (e_cn W k) = x)) nb))) (Int32.ofNat (e_fi (fun k => W k && decide (Int32.ofNat (e_cn W k) = x)) nb)) (s_si G 130 0 0) = some (.inr R) → fM_said_130 x G = some R := by
        intro R hR2
        unfold fM_said_130
        rw [if_neg e0]
        refine e_seq2 (fun k => (Int32.ofNat (e_cn W k), Int32.ofNat k)) (e_fi (fun k => W k && decide (Int32.ofNat (e_cn W k) = x)) nb) rfl (fun k hk => ?_) hR2
        try dsimp only
        rw [step k (by omega)]
        by_cases hw : W k = true
        · rw [if_pos hw, if_neg (no k hk hw)]
        · rw [if_neg hw]
      by_cases hlt : e_fi (fun k => W k && decide (Int32.ofNat (e_cn W k) = x)) nb < nb
      · have h2 := k2 hlt
        try dsimp only at h2
        rw [Bool.and_eq_true] at h2
        refine ⟨_, run _ (by rw [step _ hlt, if_pos h2.1, if_pos (of_decide_eq_true h2.2)]), Or.inr (Or.inl ⟨_, hlt, h2.1, of_decide_eq_true h2.2, no, rfl⟩)⟩
      · have he : e_fi (fun k => W k && decide (Int32.ofNat (e_cn W k) = x)) nb = nb := by omega
        rw [he] at run no
        have hout : fM_said_130_22 x (Int32.ofNat (e_cn W nb)) (Int32.ofNat nb) (s_si G 130 0 0) = s_in (if x = (-1 : Int32) then (some (Int32.ofNat (e_cn W nb), s_si G 130 0 0)) else some ((-1 : Int32), s_si G 130 0 0)) := by
          unfold fM_said_130_22
          rw [hG', hH.1.2, if_neg (e_F (Nat.le_refl nb) (by omega))]
        by_cases hx : x = -1
        · exact ⟨_, run _ (by rw [hout, if_pos hx]; rfl), Or.inl ⟨hx, rfl⟩⟩
        · exact ⟨_, run _ (by rw [hout, if_neg hx]; rfl), Or.inr (Or.inr ⟨hx, no, rfl⟩)⟩
    unfold fC_said_0
    rw [if_neg (by rw [o6]; decide)]
    by_cases hx1 : x < -1
    · rw [if_pos hx1]
      obtain ⟨v, r1, r2⟩ := ref g rfl
      have hneg : ∀ c, c ≤ 7 → ¬ Int32.ofNat c = x := by
        intro c hc hq
        rw [← hq, Int32.lt_iff_toInt_lt, Int32.toInt_ofNat_of_lt (by omega), show (-1 : Int32).toInt = -1 from rfl] at hx1
        omega
      rcases r2 with ⟨hx, -⟩ | ⟨k, hk, -, hq, -⟩ | ⟨-, -, rfl⟩
      · rw [hx] at hx1; exact absurd hx1 (by decide)
      · exact absurd hq (hneg _ (c10 k (by omega)))
      · exact e_no h (-1) rfl r1
    · rw [if_neg hx1]
      obtain ⟨X, a1, a2, -, a4⟩ := w2 0 g (Nat.le_refl _) (e_fx.rf _ _ _)
      have hB : fS_boysOf_27_17 g = some (Int32.ofNat (e_ts W nb), X) := by
        unfold fS_boysOf_27_17
        rw [hC.1.1, hH.1.2, e_all nb (by omega), s_b1_s]
        rw [show s_lp (fun (x : Int32 × Int32 × s_G) => fS_boysOf_27_17_17 (Int32.ofNat (2 ^ nb - 1)) x.1 x.2.1 x.2.2) (0, 0, g) = _ from a1]
        apply s_lp_out
        dsimp only
        unfold fS_boysOf_27_17_17
        rw [a4.1 27 (by omega), o4, if_neg (e_F (Nat.le_refl N) (by omega)), if_pos (show Int32.ofNat (0 + 1) = 1 from rfl), a2]
        rfl
      have hIX : e_I X := e_I_cg h (fun a ha => a4.1 a (by unfold e_kc e_rc at ha; omega)) (by rw [a4.1 130 (by omega)]; exact e_f130.rf _) (by rw [a4.1 130 (by omega)]) a4.2
      obtain ⟨v, r1, r2⟩ := ref X (a4.1 132 (by omega))
      refine ⟨v, X, s_si X 130 0 0, ?_, r1, e_I_0 hIX 0⟩
      rw [hB, s_b2_s]
      have h128 : e_ts W nb < 1024 := Nat.lt_of_lt_of_le (e_ts_lt W nb) (Nat.le_trans (Nat.pow_le_pow_right (by omega) (show nb ≤ 10 by omega)) (by decide))
      by_cases hx : x = -1
      · rw [if_pos hx, e_bitCount h128, s_b1_s, t_pc_ts h7]
        rcases r2 with ⟨-, rfl⟩ | ⟨k, hk, -, hq, -⟩ | ⟨hn, -⟩
        · rfl
        · rw [hx] at hq; exact absurd hq (t_ne_m1 (by have := c10 k (by omega); omega))
        · exact absurd hx hn
      · rw [if_neg hx]
        have step : ∀ k, k < 7 → fC_said_0_44 x (Int32.ofNat (e_ts W nb)) (Int32.ofNat (e_cn (fun j => decide (j < nb) && W j) k)) (Int32.ofNat k) X = if (decide (k < nb) && W k) = true then (if Int32.ofNat (e_cn (fun j => decide (j < nb) && W j) k) = x then some (.inr (Int32.ofNat k, X)) else some (.inl (Int32.ofNat (e_cn (fun j => decide (j < nb) && W j) (k + 1)), Int32.ofNat (k + 1)))) else some (.inl (Int32.ofNat (e_cn (fun j => decide (j < nb) && W j) (k + 1)), Int32.ofNat (k + 1))) := by
          intro k hk
          have e1 : e_cn (fun j => decide (j < nb) && W j) (k + 1) = e_cn (fun j => decide (j < nb) && W j) k + (if (decide (k < nb) && W k) = true then 1 else 0) := rfl
          unfold fC_said_0_44
          rw [if_pos (show Int32.ofNat k < 7 from e_T (b := 7) hk (by omega)), e_inc, e_inc, e1]
          have hb : (((Int32.ofNat (e_ts W nb) >>> (Int32.ofNat k &&& 31)) &&& 1) = 1) ↔ (decide (k < nb) && W k) = true := by
            rw [e_bit _ (by omega), e_g_of _ (by omega), e_ts_t]
          by_cases hw : (decide (k < nb) && W k) = true
          · rw [if_pos (hb.mpr hw), if_pos hw, if_pos hw]; rfl
          · rw [if_neg (fun hh => hw (hb.mp hh)), if_neg hw, if_neg hw]; rfl
        have cnk : ∀ k, k ≤ nb → e_cn (fun j => decide (j < nb) && W j) k = e_cn W k := fun k hk => by rw [t_cn_m, show min k nb = k by omega]
        rcases r2 with ⟨hx', -⟩ | ⟨k, hk, hw, hq, hno, rfl⟩ | ⟨-, hno, rfl⟩
        · exact absurd hx' hx
        · refine e_seq2 (fun k => (Int32.ofNat (e_cn (fun j => decide (j < nb) && W j) k), Int32.ofNat k)) k rfl (fun j hj => ?_) ?_
          · try dsimp only
            rw [step j (by omega)]
            by_cases hwj : (decide (j < nb) && W j) = true
            · rw [if_pos hwj, if_neg]
              rw [cnk j (by omega)]
              rw [Bool.and_eq_true] at hwj
              exact hno j hj hwj.2
            · rw [if_neg hwj]
          · try dsimp only
            rw [step k (by omega), if_pos (by rw [decide_eq_true hk, hw]; rfl), if_pos (by rw [cnk k (by omega)]; exact hq)]
        · refine e_seq2 (fun k => (Int32.ofNat (e_cn (fun j => decide (j < nb) && W j) k), Int32.ofNat k)) 7 rfl (fun j hj => ?_) ?_
          · try dsimp only
            rw [step j (by omega)]
            by_cases hwj : (decide (j < nb) && W j) = true
            · rw [if_pos hwj, if_neg]
              rw [Bool.and_eq_true] at hwj
              have hjn := of_decide_eq_true hwj.1
              rw [cnk j (by omega)]
              exact hno j hjn hwj.2
            · rw [if_neg hwj]
          · try dsimp only
            unfold fC_said_0_44
            rw [if_neg (by decide)]
            rfl
