-- BOY: what the class's call comes to, and the reference's
def b_L (x y : Int32) : s_L := [some (.ref 0), some (.int x), some (.int y)]
def b_R (x y : Int32) (g : s_G) : Prop := ∃ v, s_Fin 3 s_m155 (0, b_L x y, [], s_hg g) (some (.int v)) (s_hg g) ∧ ∀ G : s_G, G.1 = g.1 → e_I G → ∃ g2, fM_boy_130 x y G = some (v, g2) ∧ g2.1 130 0 = 0 ∧ g2.2 = G.2 ∧ e_I g2
def b_T (x y : Int32) (g : s_G) : Prop := ∃ px, (px = 11 ∨ px = 133) ∧ s_To 3 s_m155 (0, b_L x y, [], s_hg g) (px, b_L x y, [], s_hg g) ∧ ∀ G : s_G, G.1 = g.1 → e_I G → ∃ w g2, fM_boy_130 x y G = some (w, g2) ∧ g2.1 130 0 = 1 ∧ g2.2 = G.2 ∧ e_I g2
theorem b_130 {g : s_G} {v : Int32} : (s_si g 130 0 v).1 130 0 = v := by rw [e_sS]; exact if_pos rfl
theorem b_refuse {g : s_G} : fM_refuse_130 g = some (0, s_si g 130 0 1) := rfl
theorem b_evbM {g : s_G} {b : Nat} (hb : b < 7) : s_lp (fun (x : Int32 × Int32) => fM_boy_130_115 (Int32.ofNat b) x.1 x.2 g) ((0 : Int32), (0 : Int32)) = some (e_evb (g.1 132) b 10, g) := by
  refine e_seq2 (fun k => (e_evb (g.1 132) b k, Int32.ofNat k)) 10 rfl ?_ ?_
  · intro k hk
    dsimp only
    unfold fM_boy_130_115
    rw [if_pos (show Int32.ofNat k < 10 from e_T (b := 10) hk (by omega)), e_onOf hb hk, s_b1_s, e_inc]
    conv => rhs; unfold e_evb
    split <;> rfl
  · dsimp only
    unfold fM_boy_130_115
    rw [if_neg (by decide)]
    rfl
theorem k_boy {g : s_G} (h : e_I g) (x y : Int32) : b_R x y g ∨ b_T x y g := by
  obtain ⟨hR, nb, ne, n, p, hs, hJ⟩ := id h
  obtain ⟨hH, hC, hT, hS⟩ := e_I.jc hJ
  have hn := hH.1.1
  have hm := hH.2.1.1
  have eC : fP_hasBoy_3 x g = some (e_bi (e_hs nb x)) := e_hasBoy_3 (n := nb) (by rw [hC.1.1, hH.1.2])
  have eM : ∀ G : s_G, G.1 = g.1 → fM_isBoy_130 x (s_si G 130 0 (0 : Int32)) = some (e_bi (e_hs nb x)) := fun G hG => e_isBoy (n := nb) (by omega) (by rw [e_sN (by omega), hG]; exact hH.1.2)
  -- the way to the first question
  have way : ∀ z, s_To 3 s_m155 (8, b_L x y, [.int (e_bi (e_hs nb x))], s_hg g) z → s_To 3 s_m155 (0, b_L x y, [], s_hg g) z := by
    intro z hz
    refine s_To.sg 3 (y := (5, b_L x y, [.int x, .ref 3], s_hg g)) rfl ?_
    exact s_To.cl (d := 2) (q1 := s_m49) (md := 49) (vs := [.ref 3, .int x]) (rest := []) rfl rfl rfl (Nat.le_of_ble_eq_true rfl) (s_Ev.up (by omega) (fP_hasBoy_3_s eC)) hz
  by_cases h1 : e_hs nb x
  · obtain ⟨b, hb, rfl⟩ := e_hs_k (by omega) h1
    rw [e_bi_t h1] at eC way
    have eM : ∀ G : s_G, G.1 = g.1 → fM_isBoy_130 (Int32.ofNat b) (s_si G 130 0 (0 : Int32)) = some 1 := fun G hG => by rw [eM G hG, e_bi_t h1]
    have way2 : ∀ z, s_To 3 s_m155 (22, b_L (Int32.ofNat b) y, [.int y], s_hg g) z → s_To 3 s_m155 (0, b_L (Int32.ofNat b) y, [], s_hg g) z := by
      intro z hz
      refine way z (s_To.br (c := ¬ (1 : Int32) = 0) (tg := 21) (p2 := 8) (L1 := b_L (Int32.ofNat b) y) (st1 := []) rfl (fun _ => ?_) (fun hq => absurd (by decide) hq))
      exact s_To.sg 1 (y := (22, b_L (Int32.ofNat b) y, [.int y], s_hg g)) rfl hz
    have hM0 : ∀ G : s_G, G.1 = g.1 → fM_boy_130 (Int32.ofNat b) y G = if y = 0 then (s_b1 (fM_loadOf_130 (Int32.ofNat b) (s_si G 130 0 (0 : Int32))) fun v4 => some (v4, (s_si G 130 0 (0 : Int32))))
        else if y = 1 then (s_b1 (s_ix 375 ((10 : Int32) + Int32.ofNat b)) fun k6 => some (G.1 132 k6, (s_si G 130 0 (0 : Int32))))
        else if y = 2 then (s_b1 (fM_isOver_130 (Int32.ofNat b) (s_si G 130 0 (0 : Int32))) fun v7 => if v7 = 0 then (some ((0 : Int32), (s_si G 130 0 (0 : Int32)))) else some ((1 : Int32), (s_si G 130 0 (0 : Int32))))
        else if y = 3 then (s_b1 (fM_isHushed_130 (Int32.ofNat b) (s_si G 130 0 (0 : Int32))) fun v8 => if v8 = 0 then (some ((0 : Int32), (s_si G 130 0 (0 : Int32)))) else some ((1 : Int32), (s_si G 130 0 (0 : Int32))))
        else if y = 4 then (s_b1 (s_ix 375 ((56 : Int32) + Int32.ofNat b)) fun k10 => some (G.1 132 k10, (s_si G 130 0 (0 : Int32))))
        else if y = 5 then (s_lp (fun x => fM_boy_130_115 (Int32.ofNat b) x.1 x.2 (s_si G 130 0 (0 : Int32))) ((0 : Int32), (0 : Int32)))
        else s_b2 (fM_refuse_130 (s_si G 130 0 (0 : Int32))) fun v13 g12 => some (v13, g12) := by
      intro G hG
      unfold fM_boy_130
      rw [eM G hG, s_b1_s, e_i1]
    have f132 : ∀ G : s_G, G.1 = g.1 → (s_si G 130 0 (0 : Int32)).1 132 = g.1 132 := fun G hG => by rw [e_sN (by omega), hG]
    by_cases hc0 : y = 0
    · subst hc0
      refine Or.inl ⟨e_ld (g.1 132) b, ?_, fun G hG hI => ⟨_, by rw [hM0 G hG, if_pos rfl, e_loadOf (by omega), s_b1_s, f132 G hG], b_130, rfl, e_I_0 hI 0⟩⟩
      refine s_Fin.to (way2 _ s_To.rf) ?_
      refine s_Fin.nx (pc1 := 60) (L1 := b_L (Int32.ofNat b) 0) (st1 := []) (h1 := s_hg g) rfl rfl ?_
      refine s_Fin.sg 4 (y := (68, b_L (Int32.ofNat b) 0, [.int (Int32.ofNat b), .ref 19], s_hg g)) rfl ?_
      refine s_Fin.ix (n := 7) (i := Int32.ofNat b) (pc1 := 69) (L1 := b_L (Int32.ofNat b) 0) (fun j9 => [.int (g.1 19 j9)]) (fun j9 => s_hg g) (e_ix (by omega) (by omega)) rfl rfl ?_
      refine (show s_Fin 3 s_m155 (69, b_L (Int32.ofNat b) 0, [.int (g.1 19 b)], s_hg g) (some (.int (e_ld (g.1 132) b))) (s_hg g) from ?_)
      rw [hT.2.2.1 b (by omega)]
      exact s_Fin.rt rfl rfl
    by_cases hc1 : y = 1
    · subst hc1
      refine Or.inl ⟨g.1 132 (10 + b), ?_, fun G hG hI => ⟨_, by rw [hM0 G hG, if_neg hc0, if_pos rfl, show (10 : Int32) + Int32.ofNat b = Int32.ofNat (10 + b) from (Int32.ofNat_add 10 b).symm, e_ix (by omega) (by omega), s_b1_s, hG], b_130, rfl, e_I_0 hI 0⟩⟩
      refine s_Fin.to (way2 _ s_To.rf) ?_
      refine s_Fin.nx (pc1 := 70) (L1 := b_L (Int32.ofNat b) 1) (st1 := []) (h1 := s_hg g) rfl rfl ?_
      refine s_Fin.sg 4 (y := (78, b_L (Int32.ofNat b) 1, [.int (Int32.ofNat b), .ref 5], s_hg g)) rfl ?_
      refine s_Fin.ix (n := 7) (i := Int32.ofNat b) (pc1 := 79) (L1 := b_L (Int32.ofNat b) 1) (fun j9 => [.int (g.1 5 j9)]) (fun j9 => s_hg g) (e_ix (by omega) (by omega)) rfl rfl ?_
      refine (show s_Fin 3 s_m155 (79, b_L (Int32.ofNat b) 1, [.int (g.1 5 b)], s_hg g) (some (.int (g.1 132 (10 + b)))) (s_hg g) from ?_)
      rw [hC.2.2.1 b hb]
      exact s_Fin.rt rfl rfl
    by_cases hc2 : y = 2
    · subst hc2
      have eO := e_isOver_17 hC hH hT hb
      refine Or.inl ⟨if e_bi (e_ov (g.1 132) b) = 0 then 0 else 1, ?_, fun G hG hI => ⟨s_si G 130 0 0, by rw [hM0 G hG, if_neg hc0, if_neg hc1, if_pos rfl, e_isOver (by omega), s_b1_s, f132 G hG]; split <;> rfl, b_130, rfl, e_I_0 hI 0⟩⟩
      refine s_Fin.to (way2 _ s_To.rf) ?_
      refine s_Fin.nx (pc1 := 80) (L1 := b_L (Int32.ofNat b) 2) (st1 := []) (h1 := s_hg g) rfl rfl ?_
      refine s_Fin.sg 3 (y := (85, b_L (Int32.ofNat b) 2, [.int (Int32.ofNat b), .ref 17], s_hg g)) rfl ?_
      refine s_Fin.cl (d := 2) (q1 := s_m59) (md := 59) (vs := [.ref 17, .int (Int32.ofNat b)]) (rest := []) (h1 := s_hg g) (u := some (.int (e_bi (e_ov (g.1 132) b)))) (s_Ev.up (by omega) (fT_isOver_17_s eO)) rfl rfl rfl rfl ?_
      by_cases hv : e_bi (e_ov (g.1 132) b) = 0
      · rw [if_pos hv]
        refine s_Fin.bt (c := e_bi (e_ov (g.1 132) b) = 0) (tg := 95) (p2 := 88) (L1 := b_L (Int32.ofNat b) 2) (st1 := []) hv rfl ?_
        exact s_Fin.sg 1 (y := (96, b_L (Int32.ofNat b) 2, [.int 0], s_hg g)) rfl (s_Fin.rt rfl rfl)
      · rw [if_neg hv]
        refine s_Fin.bf (c := e_bi (e_ov (g.1 132) b) = 0) (tg := 95) (p2 := 88) (L1 := b_L (Int32.ofNat b) 2) (st1 := []) hv rfl ?_
        exact s_Fin.sg 2 (y := (96, b_L (Int32.ofNat b) 2, [.int 1], s_hg g)) rfl (s_Fin.rt rfl rfl)
    by_cases hc3 : y = 3
    · subst hc3
      have eO := e_isHushed_17 (b := b) hT
      refine Or.inl ⟨if e_bi (e_hu (g.1 132) b) = 0 then 0 else 1, ?_, fun G hG hI => ⟨s_si G 130 0 0, by rw [hM0 G hG, if_neg hc0, if_neg hc1, if_neg hc2, if_pos rfl, e_isHushed, s_b1_s, f132 G hG]; split <;> rfl, b_130, rfl, e_I_0 hI 0⟩⟩
      refine s_Fin.to (way2 _ s_To.rf) ?_
      refine s_Fin.nx (pc1 := 97) (L1 := b_L (Int32.ofNat b) 3) (st1 := []) (h1 := s_hg g) rfl rfl ?_
      refine s_Fin.sg 3 (y := (102, b_L (Int32.ofNat b) 3, [.int (Int32.ofNat b), .ref 17], s_hg g)) rfl ?_
      refine s_Fin.cl (d := 2) (q1 := s_m65) (md := 65) (vs := [.ref 17, .int (Int32.ofNat b)]) (rest := []) (h1 := s_hg g) (u := some (.int (e_bi (e_hu (g.1 132) b)))) (s_Ev.up (by omega) (fT_isHushed_17_s eO)) rfl rfl rfl rfl ?_
      by_cases hv : e_bi (e_hu (g.1 132) b) = 0
      · rw [if_pos hv]
        refine s_Fin.bt (c := e_bi (e_hu (g.1 132) b) = 0) (tg := 112) (p2 := 105) (L1 := b_L (Int32.ofNat b) 3) (st1 := []) hv rfl ?_
        exact s_Fin.sg 1 (y := (113, b_L (Int32.ofNat b) 3, [.int 0], s_hg g)) rfl (s_Fin.rt rfl rfl)
      · rw [if_neg hv]
        refine s_Fin.bf (c := e_bi (e_hu (g.1 132) b) = 0) (tg := 112) (p2 := 105) (L1 := b_L (Int32.ofNat b) 3) (st1 := []) hv rfl ?_
        exact s_Fin.sg 2 (y := (113, b_L (Int32.ofNat b) 3, [.int 1], s_hg g)) rfl (s_Fin.rt rfl rfl)
    by_cases hc4 : y = 4
    · subst hc4
      refine Or.inl ⟨g.1 132 (56 + b), ?_, fun G hG hI => ⟨_, by rw [hM0 G hG, if_neg hc0, if_neg hc1, if_neg hc2, if_neg hc3, if_pos rfl, show (56 : Int32) + Int32.ofNat b = Int32.ofNat (56 + b) from (Int32.ofNat_add 56 b).symm, e_ix (by omega) (by omega), s_b1_s, hG], b_130, rfl, e_I_0 hI 0⟩⟩
      refine s_Fin.to (way2 _ s_To.rf) ?_
      refine s_Fin.nx (pc1 := 114) (L1 := b_L (Int32.ofNat b) 4) (st1 := []) (h1 := s_hg g) rfl rfl ?_
      refine s_Fin.sg 4 (y := (122, b_L (Int32.ofNat b) 4, [.int (Int32.ofNat b), .ref 21], s_hg g)) rfl ?_
      refine s_Fin.ix (n := 7) (i := Int32.ofNat b) (pc1 := 123) (L1 := b_L (Int32.ofNat b) 4) (fun j9 => [.int (g.1 21 j9)]) (fun j9 => s_hg g) (e_ix (by omega) (by omega)) rfl rfl ?_
      refine (show s_Fin 3 s_m155 (123, b_L (Int32.ofNat b) 4, [.int (g.1 21 b)], s_hg g) (some (.int (g.1 132 (56 + b)))) (s_hg g) from ?_)
      rw [hT.2.2.2.2 b (by omega)]
      exact s_Fin.rt rfl rfl
    by_cases hc5 : y = 5
    · subst hc5
      refine Or.inl ⟨e_evb (g.1 132) b ne, ?_, fun G hG hI => ⟨_, by rw [hM0 G hG, if_neg hc0, if_neg hc1, if_neg hc2, if_neg hc3, if_neg hc4, if_pos rfl, b_evbM (by omega), f132 G hG, e_evb_z hS (by omega) 10 (by omega) (by omega)], b_130, rfl, e_I_0 hI 0⟩⟩
      refine s_Fin.to (way2 _ s_To.rf) ?_
      refine s_Fin.nx (pc1 := 124) (L1 := b_L (Int32.ofNat b) 5) (st1 := []) (h1 := s_hg g) rfl rfl ?_
      refine s_Fin.sg 3 (y := (129, b_L (Int32.ofNat b) 5, [.int (Int32.ofNat b), .ref 17], s_hg g)) rfl ?_
      refine s_Fin.cl (d := 2) (q1 := s_m98) (md := 98) (vs := [.ref 17, .int (Int32.ofNat b)]) (rest := []) (h1 := s_hg g) (u := some (.int (e_evb (g.1 132) b ne))) (s_Ev.up (by omega) (fT_eventBits_17_s (e_eventBits_17 hC hH hT (by omega)))) rfl rfl rfl rfl ?_
      exact s_Fin.rt rfl rfl
    have ht : y.toInt < 0 ∨ (6 : Int) ≤ y.toInt := by
      have q0 : ¬ y.toInt = 0 := s_tne hc0 (by decide)
      have q1 : ¬ y.toInt = 1 := s_tne hc1 (by decide)
      have q2 : ¬ y.toInt = 2 := s_tne hc2 (by decide)
      have q3 : ¬ y.toInt = 3 := s_tne hc3 (by decide)
      have q4 : ¬ y.toInt = 4 := s_tne hc4 (by decide)
      have q5 : ¬ y.toInt = 5 := s_tne hc5 (by decide)
      omega
    refine Or.inr ⟨133, Or.inr rfl, ?_, fun G hG hI => ⟨0, s_si (s_si G 130 0 0) 130 0 1, by rw [hM0 G hG, if_neg hc0, if_neg hc1, if_neg hc2, if_neg hc3, if_neg hc4, if_neg hc5]; rfl, b_130, rfl, e_I_0 (e_I_0 hI 0) 1⟩⟩
    exact way2 _ (s_To.nx (pc1 := 133) (L1 := b_L (Int32.ofNat b) y) (st1 := []) (h1 := s_hg g) ((show _ = s_ts y.toInt 22 (b_L (Int32.ofNat b) y) [] (s_hg g) 111 0 [38, 48, 58, 75, 92, 102] from rfl).trans (s_ts_ms (n := 6) rfl ht (t := 133) rfl)) rfl s_To.rf)
  · rw [e_bi_f h1] at eC way
    have eM : ∀ G : s_G, G.1 = g.1 → fM_isBoy_130 x (s_si G 130 0 (0 : Int32)) = some 0 := fun G hG => by rw [eM G hG, e_bi_f h1]
    refine Or.inr ⟨11, Or.inl rfl, ?_, fun G hG hI => ⟨0, s_si (s_si G 130 0 0) 130 0 1, ?_, b_130, rfl, e_I_0 (e_I_0 hI 0) 1⟩⟩
    · exact way _ (s_To.br (c := ¬ (0 : Int32) = 0) (tg := 21) (p2 := 8) (L1 := b_L x y) (st1 := []) rfl (fun hq => absurd rfl hq) (fun _ => s_To.rf))
    · unfold fM_boy_130
      rw [eM G hG, s_b1_s, e_i0]
      rfl
/-- the law's own box is no matter of class and reference -/
theorem b_out {g : s_G} {w : Int64} (h : e_I g) : e_I (s_sl g 152 0 w) := by
  obtain ⟨⟨h1, h2, h3, ⟨h4, h5⟩, h6⟩, nb, ne, n, p, hs, h7, h8⟩ := h
  have L : ∀ a, ¬ a = 152 → (s_sl g 152 0 w).2.1 a = g.2.1 a := fun a ha => s_up_n _ _ _ ha
  have im : ∀ k, k < 2 → e_im k g → e_im k (s_sl g 152 0 w) := by
    intro k hk hi
    rcases hi with hi | ⟨i1, i2, nb, ne, i3⟩
    · exact Or.inl hi
    · refine Or.inr ⟨i1, i2, nb, ne, ?_⟩
      obtain ⟨j1, j2, j3, j4, j5, j6⟩ := i3
      refine ⟨j1, j2, ?_, j4, j5, j6⟩
      rw [L _ (by omega), L 139 (by omega)]
      exact j3
  obtain ⟨j1, j2, j3, j4, j5, j6⟩ := h7
  refine ⟨⟨h1, h2, h3, ⟨im 0 (by omega) h4, im 1 (by omega) h5⟩, h6⟩, nb, ne, n, p, hs, ⟨j1, j2, ?_, j4, j5, j6⟩, h8⟩
  rw [L _ (by omega), L 137 (by omega)]
  exact j3
