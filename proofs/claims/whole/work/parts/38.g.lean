-- BOOK: the call
theorem t_C3_cg {nb ne : Nat} {g g' : s_G} {f f' : Nat → Int32} (hn : nb ≤ 7) (hm : ne ≤ 10) (h : e_C3 nb ne g f) (hg : ∀ a, 3 ≤ a → a < 10 → g'.1 a = g.1 a) (hf : ∀ k, k < 47 → f' k = f k) : e_C3 nb ne g' f' := by
  unfold e_C3
  rw [hg 3 (by omega) (by omega), hg 5 (by omega) (by omega), hg 6 (by omega) (by omega), hg 7 (by omega) (by omega), hg 8 (by omega) (by omega), hg 9 (by omega) (by omega)]
  exact e_CR_cg hn hm h hf
theorem t_bookJ {C M : s_G} {x : Int32} {L nb ne n p : Nat} {hs : Nat → Nat → Int32} {f : Nat → Int32} (hx : x = 0 ∨ x = 1) (hB : t_Bk L nb ne C M) (hL : t_Ln nb ne L C M) (hH : e_HW nb ne f) (hS : e_SW nb ne f) (hC : e_C3 nb ne C f) (hT : e_T17 C f) (hHC : e_HC n p hs C) (hM : M.1 132 = f) (hHM : e_HM n hs M) (hsw : ∀ j, j < n → e_SW nb ne (hs j)) :
    ∃ v gC gM n' p' hs' f', (s_b1 (fT_copyFrom_22_17 (s_si C 0 1 (C.1 1 10))) fun g4 => s_b2 (fB_judge_37_22 g4) fun v6 g5 => if x = (1 : Int32) then (if 0 < (g5.1 37 8) then (s_b1 (fC_keepTrial_0 g5) fun g7 => some (v6, g7)) else some (v6, g5)) else some (v6, g5)) = some (v, gC) ∧ (s_b1 (fM_layAside_130 M) fun g3 => s_lp (fun (y : Int32 × Int32 × s_G) => fM_book_130_73 x y.1 y.2.1 y.2.2) ((0 : Int32), (0 : Int32), g3)) = some (v, gM) ∧ (e_T17 gC f' ∧ e_HC n' p' hs' gC ∧ gM.1 132 = f' ∧ e_HM n' hs' gM ∧ e_so f f' ∧ e_SW nb ne f' ∧ ∀ j, j < n' → e_SW nb ne (hs' j)) ∧ ((∀ k, k < 4 → gC.1 37 (7 + k) = gM.1 150 k) ∧ gC.1 37 6 = 1 ∧ gM.1 130 42 = 1) ∧ (gC.1 0 = va_up (C.1 0) 1 (C.1 1 10) ∧ (∀ a, ¬ a = 0 ∧ ¬ a = 37 ∧ (a < 17 ∨ 26 < a) ∧ (a < 43 ∨ 84 < a) → gC.1 a = C.1 a) ∧ gC.2 = C.2) ∧ (∀ a, ¬ a = 130 ∧ ¬ a = 132 ∧ ¬ a = 135 ∧ ¬ a = 136 ∧ ¬ a = 150 → gM.1 a = M.1 a) ∧ (∀ k, ¬ k = 25 ∧ ¬ k = 42 → gM.1 130 k = M.1 130 k) ∧ gM.2 = M.2 := by
  have hn := hH.1.1
  have hm := hH.2.1.1
  have hn8 := hHC.1.1
  obtain ⟨⟨l1, l2, l3⟩, -⟩ := id hB
  generalize hX : s_si C 0 1 (C.1 1 10) = X
  have fX : ∀ a, ¬ a = 0 → X.1 a = C.1 a := fun a ha => by rw [← hX, e_sN ha]
  have x0 : X.1 0 = va_up (C.1 0) 1 (C.1 1 10) := by rw [← hX, e_sS]
  have lX : X.2 = C.2 := by rw [← hX]; rfl
  have f4 := e_cpA_fx 22 17 X
  have T4 : e_T22 (e_cpA 22 17 X) f := e_cpA_TA (d := 22) (s := 17) (by omega) (e_TA_cg (a := 17) hT (fun b _ _ => fX b (by omega)) (fun _ _ _ => rfl))
  generalize hg4 : e_cpA 22 17 X = g4 at f4 T4
  generalize hY : s_si (s_si g4 37 7 (0 : Int32)) 37 8 (0 : Int32) = Y
  have fY : ∀ a, ¬ a = 37 → Y.1 a = g4.1 a := fun a ha => by rw [← hY, e_sN ha, e_sN ha]
  have y37 : Y.1 37 = va_up (va_up (g4.1 37) 7 0) 8 0 := by rw [← hY, e_sS, e_sS]
  have lY : Y.2 = C.2 := by rw [← hY]; show g4.2 = _; rw [f4.2, lX]
  have qY : ∀ a, ¬ a = 0 ∧ ¬ a = 37 ∧ (a < 22 ∨ 26 < a) → Y.1 a = C.1 a := fun a ha => by rw [fY a ha.2.1, f4.1 a (by omega), fX a ha.1]
  obtain ⟨G, b1, b2, b3⟩ := e_layAside (g := M)
  have c37 : g4.1 37 = C.1 37 := by rw [f4.1 37 (by omega), fX 37 (by omega)]
  obtain ⟨K, W, fe, Ye, Ge, d1, d2, d3, d4, d5, d6, d7, d8, d9, d10, d11⟩ := t_judge (nb := nb) (ne := ne) (x1 := x) l1 L 0 f Y G (by omega) (by rw [y37, e_vn _ _ (by omega), e_vn _ _ (by omega), c37]; exact l2) (by rw [y37, e_vn _ _ (by omega), e_ve]) (by rw [y37, e_ve]; rfl) (fun j hj => by
      rw [qY 38 (by omega), qY 39 (by omega), qY 40 (by omega), qY 41 (by omega), qY 42 (by omega), b3.1 149 (by omega)]; exact hL j hj) hH hS (t_C3_cg hn hm hC (fun a h1 h2 => qY a (by omega)) (fun _ _ => rfl)) (by unfold e_T22; rw [fY 22 (by omega), fY 23 (by omega), fY 24 (by omega), fY 25 (by omega), fY 26 (by omega)]; exact T4) (by rw [b3.1 132 (by omega)]; exact hM) (by rw [b3.1 130 (by omega)]; exact l3)
  have hHe : e_HW nb ne fe := e_HW_cg hH (fun k hk => d8 k (by omega))
  have qE : ∀ a, ¬ a = 0 ∧ ¬ a = 37 ∧ (a < 22 ∨ 26 < a) → Ye.1 a = C.1 a := fun a ha => by rw [d10.1 a ha.2, qY a ha]
  have hCe : ∀ v w, e_C3 nb ne (s_si (s_si Ye 37 6 v) 37 9 w) fe := fun v w => t_C3_cg hn hm hC (fun a h1 h2 => by rw [e_sN (by omega), e_sN (by omega)]; exact qE a (by omega)) (fun k hk => d8 k (by omega))
  have o22 : Ye.1 22 8 = fe 47 := d6.1.2.2.2.1
  generalize hZ : s_si (s_si (s_si Ye 37 6 (1 : Int32)) 37 9 (fe 47)) 37 10 (e_ovs fe nb) = Z
  have ov : fT_overBits_22 (s_si (s_si Ye 37 6 (1 : Int32)) 37 9 (fe 47)) = some (e_ovs fe nb) := e_overBits_22 (hCe 1 (fe 47)) hHe (t_T22_7 (t_T22_7 d6))
  have eJ : fB_judge_37_22 g4 = some (if W = 0 then -1 else Int32.ofNat K, Z) := by
    unfold fB_judge_37_22
    rw [hY]
    refine d2 _ ?_
    unfold fB_judge_37_22_69
    rw [o22, ov, s_b1_s, hZ, d4, d5]
    by_cases hw : W = 0
    · rw [if_pos hw, if_pos hw]
    · rw [if_neg hw, if_neg hw]
  have z37 : Z.1 37 = va_up (va_up (va_up (Ye.1 37) 6 1) 9 (fe 47)) 10 (e_ovs fe nb) := by rw [← hZ, e_sS, e_sS, e_sS]
  have fZ : ∀ a, ¬ a = 37 → Z.1 a = Ye.1 a := fun a ha => by rw [← hZ, e_sN ha, e_sN ha, e_sN ha]
  have lZ : Z.2 = C.2 := by rw [← hZ]; show Ye.2 = _; rw [d10.2.2, lY]
  have qZ : ∀ a, ¬ a = 0 ∧ ¬ a = 37 ∧ (a < 22 ∨ 26 < a) → Z.1 a = C.1 a := fun a ha => by rw [fZ a ha.2.1, qE a ha]
  have zz0 : Z.1 0 = va_up (C.1 0) 1 (C.1 1 10) := by rw [fZ 0 (by omega), d10.1 0 (by omega), fY 0 (by omega), f4.1 0 (by omega), x0]
  have z8 : Z.1 37 8 = Int32.ofNat K := by rw [z37, e_vn _ _ (by omega), e_vn _ _ (by omega), e_vn _ _ (by omega), d5]
  have T17Z : e_T17 Z f := e_TA_cg (a := 17) hT (fun b _ _ => qZ b (by omega)) (fun _ _ _ => rfl)
  have T22Z : e_T22 Z fe := by rw [← hZ]; exact t_T22_7 (t_T22_7 (t_T22_7 d6))
  have HCZ : e_HC n p hs Z := e_HC_cg hHC (fun a _ _ => qZ a (by omega))
  -- the reference
  generalize hP : s_si (s_si (s_si (s_si (s_si Ge 150 0 W) 150 1 (Int32.ofNat K)) 150 2 (fe 47)) 150 3 (e_ovs fe nb)) 130 42 (1 : Int32) = P
  have fP : ∀ a, ¬ a = 130 ∧ ¬ a = 150 → P.1 a = Ge.1 a := fun a ha => by rw [← hP, e_sN ha.1, e_sN ha.2, e_sN ha.2, e_sN ha.2, e_sN ha.2]
  have p130 : P.1 130 = va_up (Ge.1 130) 42 1 := by rw [← hP, e_sS, e_sN (by omega), e_sN (by omega), e_sN (by omega), e_sN (by omega)]
  have p150 : P.1 150 = va_up (va_up (va_up (va_up (Ge.1 150) 0 W) 1 (Int32.ofNat K)) 2 (fe 47)) 3 (e_ovs fe nb) := by rw [← hP, e_sN (by omega), e_sS, e_sS, e_sS, e_sS]
  have lP : P.2 = M.2 := by rw [← hP]; show Ge.2 = _; rw [d11.2, b3.2]
  have e47 : Ge.1 132 47 = fe 47 := by rw [d7]
  have ovM : fM_overs_130 (s_si (s_si (s_si Ge 150 0 W) 150 1 (Int32.ofNat K)) 150 2 (fe 47)) = some (e_ovs fe nb) := by
    have e1 : (s_si (s_si (s_si Ge 150 0 W) 150 1 (Int32.ofNat K)) 150 2 (fe 47)).1 132 = fe := by rw [e_sN (by omega), e_sN (by omega), e_sN (by omega), d7]
    rw [e_overs (n := nb) hn (by rw [e1]; exact hHe.1.2), e1]
  have e103 : fM_book_130_103 x (Int32.ofNat K) W Ge = if x = (1 : Int32) then (if 0 < Int32.ofNat K then (s_b1 (fM_stay_130 (1 : Int32) P) fun g7 => if W = 0 then (some ((-1 : Int32), g7)) else some (Int32.ofNat K, g7)) else fM_book_130_159 (Int32.ofNat K) W P) else fM_book_130_159 (Int32.ofNat K) W P := by
    unfold fM_book_130_103
    rw [e47, ovM, s_b1_s, hP]
  have P136 : ∀ k, k < 86 → P.1 136 k = f (47 + k) := fun k hk => by rw [fP 136 (by omega), d11.1 136 (by omega), b2 k hk, hM]
  have P132 : P.1 132 = fe := by rw [fP 132 (by omega), d7]
  have bo : ∀ S : s_G, (∀ a, ¬ a = 132 ∧ ¬ a = 136 → S.1 a = P.1 a) → ∀ k, k < 4 → Z.1 37 (7 + k) = S.1 150 k := by
    intro S hS' k hk
    rw [hS' 150 (by omega), p150, z37]
    have : k = 0 ∨ k = 1 ∨ k = 2 ∨ k = 3 := by omega
    rcases this with rfl | rfl | rfl | rfl
    · simp (disch := omega) only [e_vn, e_ve]; exact d4
    · simp (disch := omega) only [e_vn, e_ve]; exact d5
    · simp (disch := omega) only [e_vn, e_ve]
    · simp (disch := omega) only [e_ve]
  have oM : ∀ a, ¬ a = 130 ∧ ¬ a = 132 ∧ ¬ a = 136 ∧ ¬ a = 150 → P.1 a = M.1 a := fun a ha => by rw [fP a (by omega), d11.1 a (by omega), b3.1 a (by omega)]
  have kM : ∀ k, ¬ k = 42 → P.1 130 k = M.1 130 k := fun k hk => by rw [p130, e_vn _ _ hk, d11.1 130 (by omega), b3.1 130 (by omega)]
  have lay : ∀ R, fM_book_130_103 x (Int32.ofNat K) W Ge = some R → (s_b1 (fM_layAside_130 M) fun g3 => s_lp (fun (y : Int32 × Int32 × s_G) => fM_book_130_73 x y.1 y.2.1 y.2.2) ((0 : Int32), (0 : Int32), g3)) = some R := by
    intro R hR
    rw [b1, s_b1_s]
    exact d3 R hR
  by_cases hst : x = 1 ∧ 0 < K
  · obtain ⟨S, s1, s2, s3, s4, s5⟩ := t_swap (x1 := 1) P136 P132 d8
    obtain ⟨g7, k1, k2, k3, k4⟩ := e_keepTrial HCZ T17Z T22Z
    have HMS : e_HM n hs S := e_HM_cg hHM (by rw [s3 130 (by omega), kM 25 (by omega)]) (by rw [s3 135 (by omega), oM 135 (by omega)])
    obtain ⟨S2, t1, t2, t3, t4⟩ := e_snap hn8 HMS
    obtain ⟨S3, u1, u2, u3⟩ := e_takeBack (g := S2) (f := fe) (fun k hk => by rw [t4.1 136 (by omega)]; exact s2 k hk)
    have hstay : fM_stay_130 1 P = some S3 := s5 S3 (by rw [if_neg (by decide), t1, s_b1_s, u1, s_b1_s])
    refine ⟨if W = 0 then -1 else Int32.ofNat K, g7, S3, min (n + 1) 8, (p + 1) % 8, e_psh n hs f, fe, ?_, ?_, ⟨k2, k3, ?_, ?_, d8, d9, e_psh_SW hS hn8 hsw⟩, ⟨?_, ?_, ?_⟩, ⟨?_, ?_, ?_⟩, ?_, ?_, ?_⟩
    · rw [show fT_copyFrom_22_17 X = some g4 from by rw [← hg4]; rfl, s_b1_s, eJ, s_b2_s, if_pos hst.1, z8, if_pos (show (0 : Int32) < Int32.ofNat K from e_T (a := 0) hst.2 (by omega)), k1, s_b1_s]
    · apply lay
      rw [e103, if_pos hst.1, if_pos (show (0 : Int32) < Int32.ofNat K from e_T (a := 0) hst.2 (by omega)), hstay, s_b1_s]
      by_cases hw : W = 0
      · rw [if_pos hw, if_pos hw]
      · rw [if_neg hw, if_neg hw]
    · rw [u2, t4.1 132 (by omega), s1]
      have := e_mx_id (f := fe) (f' := f) (fun k hk => (d8 k hk).symm)
      exact this
    · rw [s1] at t2
      exact e_HM_cg t2 (by rw [u3.1 130 (by omega)]) (u3.1 135 (by omega))
    · intro k hk
      rw [k4.1 37 (by omega), u3.1 150 (by omega), t4.1 150 (by omega)]
      exact bo S s3 k hk
    · rw [k4.1 37 (by omega), z37, e_vn _ _ (by omega), e_vn _ _ (by omega), e_ve]
    · rw [u3.1 130 (by omega), t3, e_vn _ _ (by omega), s3 130 (by omega), p130, e_ve]
    · rw [k4.1 0 (by omega)]; exact zz0
    · intro a ha
      rw [k4.1 a (by omega), qZ a (by omega)]
    · rw [k4.2, lZ]
    · intro a ha
      rw [u3.1 a (by omega), t4.1 a (by omega), s3 a (by omega), oM a (by omega)]
    · intro k hk
      rw [u3.1 130 (by omega), t3, e_vn _ _ hk.1, s3 130 (by omega), kM k hk.2]
    · rw [u3.2, t4.2, s4, lP]
  · obtain ⟨S, s1, s2, s3, s4, s5⟩ := t_swap (x1 := 0) P136 P132 d8
    have hstay : fM_stay_130 0 P = some S := s5 S (if_pos rfl)
    have h159 : fM_book_130_159 (Int32.ofNat K) W P = some (if W = 0 then -1 else Int32.ofNat K, S) := by
      unfold fM_book_130_159
      rw [hstay, s_b1_s]
      by_cases hw : W = 0
      · rw [if_pos hw, if_pos hw]
      · rw [if_neg hw, if_neg hw]
    refine ⟨if W = 0 then -1 else Int32.ofNat K, Z, S, n, p, hs, f, ?_, ?_, ⟨T17Z, HCZ, s1, ?_, e_so.rf f, hS, hsw⟩, ⟨bo S s3, ?_, ?_⟩, ⟨zz0, ?_, lZ⟩, ?_, ?_, ?_⟩
    · rw [show fT_copyFrom_22_17 X = some g4 from by rw [← hg4]; rfl, s_b1_s, eJ, s_b2_s]
      by_cases hx1 : x = 1
      · rw [if_pos hx1, z8, if_neg (show ¬ (0 : Int32) < Int32.ofNat K from e_F (b := K) (a := 0) (Nat.le_of_not_lt (fun hk => hst ⟨hx1, hk⟩)) (by omega))]
      · rw [if_neg hx1]
    · apply lay
      rw [e103]
      by_cases hx1 : x = 1
      · rw [if_pos hx1, if_neg (show ¬ (0 : Int32) < Int32.ofNat K from e_F (b := K) (a := 0) (Nat.le_of_not_lt (fun hk => hst ⟨hx1, hk⟩)) (by omega)), h159]
      · rw [if_neg hx1, h159]
    · exact e_HM_cg hHM (by rw [s3 130 (by omega), kM 25 (by omega)]) (by rw [s3 135 (by omega), oM 135 (by omega)])
    · rw [z37, e_vn _ _ (by omega), e_vn _ _ (by omega), e_ve]
    · rw [s3 130 (by omega), p130, e_ve]
    · intro a ha
      exact qZ a (by omega)
    · intro a ha
      rw [s3 a (by omega), oM a (by omega)]
    · intro k hk
      rw [s3 130 (by omega), kM k hk.2]
    · rw [s4, lP]
