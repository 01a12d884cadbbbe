-- THE CALLS tell, lie, give, log, rake, days, undo, end
theorem e_act0 {what x y z u : Int32} {G : s_G} : fM_act_130 what x y z u 0 G = some (-1, G) := by
  unfold fM_act_130
  rw [if_pos rfl]
theorem e_no {g : s_G} (h : e_I g) {F : Option (Int32 × s_G)} {G : s_G → Option (Int32 × s_G)} (v : Int32) (h1 : F = some (v, g)) (h2 : G g = some (v, s_si g 130 0 0)) : e_k1 F G := ⟨v, g, _, h1, h2, e_I_0 h 0⟩
theorem e_hB {nb ne : Nat} {g : s_G} {f : Nat → Int32} (hC : e_C3 nb ne g f) (hH : e_HW nb ne f) (x : Int32) : fP_hasBoy_3 x g = some (e_bi (e_hs nb x)) := e_hasBoy_3 (by rw [hC.1.1, hH.1.2])
theorem e_hE {nb ne : Nat} {g : s_G} {f : Nat → Int32} (hC : e_C3 nb ne g f) (hH : e_HW nb ne f) (x : Int32) : fP_hasEvent_3 x g = some (e_bi (e_hs ne x)) := e_hasEvent_3 (by rw [hC.1.2.1, hH.2.1.2])
theorem e_iB {nb ne : Nat} {G : s_G} {f : Nat → Int32} (hG : G.1 132 = f) (hH : e_HW nb ne f) (x : Int32) (v : Int32) : fM_isBoy_130 x (s_si G 130 0 v) = some (e_bi (e_hs nb x)) := e_isBoy (by have := hH.1.1; omega) (by rw [e_sN (by omega), hG]; exact hH.1.2)
theorem e_iE {nb ne : Nat} {G : s_G} {f : Nat → Int32} (hG : G.1 132 = f) (hH : e_HW nb ne f) (x : Int32) (v : Int32) : fM_isEvent_130 x (s_si G 130 0 v) = some (e_bi (e_hs ne x)) := e_isEvent (by have := hH.2.1.1; omega) (by rw [e_sN (by omega), hG]; exact hH.2.1.2)
theorem k_tell {g : s_G} (h : e_I g) (x y : Int32) : e_k1 (fC_tell_0 x y g) (fM_tell_130 x y) := by
  obtain ⟨hR, nb, ne, n, p, hs, hJ⟩ := id h
  obtain ⟨hH, hC, hT, hS⟩ := e_I.jc hJ
  have hn := hH.1.1
  have hm := hH.2.1.1
  unfold fC_tell_0
  rw [e_hB hC hH, s_b1_s]
  by_cases h1 : e_hs nb x
  · rw [e_bi_t h1, e_i1, e_hE hC hH, s_b1_s]
    by_cases h2 : e_hs ne y
    · rw [e_bi_t h2, e_i1]
      obtain ⟨b, hb, rfl⟩ := e_hs_k (by omega) h1
      obtain ⟨e, he, rfl⟩ := e_hs_k (by omega) h2
      obtain ⟨k, hk, ek⟩ := (hH.2.2.2.2.2 e he).2.1
      have key := e_both hR hJ (f' := e_tell (g.1 132) b e k) (w := e_why (g.1 132) b e) (F := fT_tellEvent_22 (Int32.ofNat b) (Int32.ofNat e)) (what := 0) (x := Int32.ofNat b) (y := Int32.ofNat e) (z := 0) (u := 0)
        (fun g0 hC0 hT0 => by
          obtain ⟨g', a1, a2, a3, _⟩ := e_tellEvent_22 hC0 hT0 (show b < 7 by omega) he hm hk ek
          exact ⟨g', a1, a2, a3⟩)
        (fun G hG => by unfold fM_why_130; rw [if_pos rfl, e_whySay (by omega) (by omega), s_b1_s, hG])
        (fun _ G hG => by
          obtain ⟨g', a1, a2, a3⟩ := e_live0 (g := G) (x := 0) (y := 0) (show b < 7 by omega) (show e < 10 by omega) hk (by rw [hG]; exact ek)
          exact ⟨g', a1, by rw [a2, hG], a3⟩)
        (fun _ => e_so_tell (by omega) (by omega) hk)
        (fun hw => e_tell_SW hH hS hb he hk (e_why_0 hw).2)
      obtain ⟨v, g1, g2, a1, a2, a3, e132⟩ := key
      refine ⟨v, g1, g2, a1, ?_, a3⟩
      unfold fM_tell_130
      rw [e_iB e132 hH, s_b1_s, e_bi_t h1, e_i1, e_iE e132 hH, s_b1_s, e_bi_t h2, e_i1]
      exact a2
    · rw [e_bi_f h2, e_i0]
      refine e_no h (-1) rfl ?_
      unfold fM_tell_130
      rw [e_iB rfl hH, s_b1_s, e_bi_t h1, e_i1, e_iE rfl hH, s_b1_s, e_bi_f h2, e_i0, e_act0, s_b2_s]
  · rw [e_bi_f h1, e_i0]
    refine e_no h (-1) rfl ?_
    unfold fM_tell_130
    rw [e_iB rfl hH, s_b1_s, e_bi_f h1, e_i0, e_act0, s_b2_s]
theorem k_lie {g : s_G} (h : e_I g) (x y : Int32) : e_k1 (fC_lie_0 x y g) (fM_lie_130 x y) := by
  obtain ⟨hR, nb, ne, n, p, hs, hJ⟩ := id h
  obtain ⟨hH, hC, hT, hS⟩ := e_I.jc hJ
  have hn := hH.1.1
  have hm := hH.2.1.1
  unfold fC_lie_0
  rw [e_hB hC hH, s_b1_s]
  by_cases h1 : e_hs nb x
  · rw [e_bi_t h1, e_i1, e_hE hC hH, s_b1_s]
    by_cases h2 : e_hs ne y
    · rw [e_bi_t h2, e_i1]
      obtain ⟨b, hb, rfl⟩ := e_hs_k (by omega) h1
      obtain ⟨e, he, rfl⟩ := e_hs_k (by omega) h2
      have key := e_both hR hJ (f' := e_lie (g.1 132) b e) (w := e_why (g.1 132) b e) (F := fT_lieAbout_22 (Int32.ofNat b) (Int32.ofNat e)) (what := 1) (x := Int32.ofNat b) (y := Int32.ofNat e) (z := 0) (u := 0)
        (fun g0 hC0 hT0 => by
          obtain ⟨g', a1, a2, a3, _⟩ := e_lieAbout_22 hC0 hT0 hS (show b < 7 by omega) (show e < 10 by omega)
          exact ⟨g', a1, a2, a3⟩)
        (fun G hG => by unfold fM_why_130; rw [if_neg (by decide), if_pos rfl, e_whySay (by omega) (by omega), s_b1_s, hG])
        (fun _ G hG => by
          obtain ⟨g', a1, a2, a3⟩ := e_live1 (g := G) (x := 0) (y := 0) (show b < 7 by omega) (show e < 10 by omega)
          exact ⟨g', a1, by rw [a2, hG], a3⟩)
        (fun _ => e_so_lie (by omega) (by omega))
        (fun hw => e_lie_SW hH hS hb he (e_why_0 hw).2)
      obtain ⟨v, g1, g2, a1, a2, a3, e132⟩ := key
      refine ⟨v, g1, g2, a1, ?_, a3⟩
      unfold fM_lie_130
      rw [e_iB e132 hH, s_b1_s, e_bi_t h1, e_i1, e_iE e132 hH, s_b1_s, e_bi_t h2, e_i1]
      exact a2
    · rw [e_bi_f h2, e_i0]
      refine e_no h (-1) rfl ?_
      unfold fM_lie_130
      rw [e_iB rfl hH, s_b1_s, e_bi_t h1, e_i1, e_iE rfl hH, s_b1_s, e_bi_f h2, e_i0, e_act0, s_b2_s]
  · rw [e_bi_f h1, e_i0]
    refine e_no h (-1) rfl ?_
    unfold fM_lie_130
    rw [e_iB rfl hH, s_b1_s, e_bi_f h1, e_i0, e_act0, s_b2_s]

theorem e_isIn_1 {g : s_G} {m : Nat} {x : Int32} (hm : m < 1000000) : fM_isIn_s x 1 (Int32.ofNat m) g = some (e_bi (¬ x < 1 ∧ ¬ Int32.ofNat m < x)) := by
  unfold fM_isIn_s
  by_cases h1 : x < 1
  · rw [if_pos h1, e_bi_f (fun h => h.1 h1)]
  · rw [if_neg h1]
    by_cases h2 : Int32.ofNat m < x
    · rw [if_pos h2, e_bi_f (fun h => h.2 h2)]
    · rw [if_neg h2, e_bi_t ⟨h1, h2⟩]
theorem e_rng1 {x : Int32} {m : Nat} (hm : m < 1000000) (h1 : ¬ x < 1) (h2 : ¬ Int32.ofNat m < x) : ∃ k, 1 ≤ k ∧ k ≤ m ∧ x = Int32.ofNat k := by
  have h0 : ¬ x < 0 := by
    intro h
    apply h1
    rw [Int32.lt_iff_toInt_lt] at h ⊢
    exact Int.lt_trans h (by decide)
  obtain ⟨k, hk, rfl⟩ := e_rng2 h0 h2 (by omega)
  refine ⟨k, ?_, hk, rfl⟩
  rcases Nat.eq_zero_or_pos k with rfl | h
  · exact absurd (by decide) h1
  · exact h
theorem k_give {g : s_G} (h : e_I g) (x y z u : Int32) : e_k1 (fC_give_0 x y z u g) (fM_give_130 x y z u) := by
  obtain ⟨hR, nb, ne, n, p, hs, hJ⟩ := id h
  obtain ⟨hH, hC, hT, hS⟩ := e_I.jc hJ
  have hn := hH.1.1
  have hm := hH.2.1.1
  unfold fC_give_0
  rw [e_hB hC hH, s_b1_s]
  by_cases h1 : e_hs nb x
  · rw [e_bi_t h1, e_i1, e_hE hC hH, s_b1_s]
    by_cases h2 : e_hs ne y
    · rw [e_bi_t h2, e_i1, e_hB hC hH, s_b1_s]
      by_cases h3 : e_hs nb z
      · rw [e_bi_t h3, e_i1]
        by_cases h4 : ¬ u < 1 ∧ ¬ Int32.ofNat 40 < u
        · rw [if_neg h4.1, if_neg (show ¬ 40 < u from h4.2)]
          obtain ⟨b, hb, rfl⟩ := e_hs_k (by omega) h1
          obtain ⟨e, he, rfl⟩ := e_hs_k (by omega) h2
          obtain ⟨c, hc, rfl⟩ := e_hs_k (by omega) h3
          obtain ⟨m, hm1, hm2, rfl⟩ := e_rng1 (by omega) h4.1 h4.2
          have key := e_both hR hJ (f' := e_give (g.1 132) b e c (Int32.ofNat m)) (w := e_why2 (g.1 132) b e c (Int32.ofNat m)) (F := fT_giveSome_22 (Int32.ofNat b) (Int32.ofNat e) (Int32.ofNat c) (Int32.ofNat m)) (what := 2) (x := Int32.ofNat b) (y := Int32.ofNat e) (z := Int32.ofNat c) (u := Int32.ofNat m)
            (fun g0 hC0 hT0 => by
              obtain ⟨g', a1, a2, a3, _⟩ := e_giveSome_22 (n := Int32.ofNat m) hC0 hT0 (show b < 7 by omega) hc hn (show e < 10 by omega)
              exact ⟨g', a1, a2, a3⟩)
            (fun G hG => by
              unfold fM_why_130 e_why2
              rw [if_neg (by decide), if_neg (by decide), if_pos rfl]
              split
              · rfl
              · rw [e_onOf (by omega) (by omega), s_b1_s, hG]
                split
                · rfl
                · simp (disch := omega) only [e_loadOf, s_b1_s, e_10, ← Int32.ofNat_add, e_ix, hG]
                  split <;> rfl)
            (fun hw G hG => by
              have hbc : ¬ b = c := by
                intro hq
                unfold e_why2 at hw
                rw [if_pos (by rw [hq])] at hw
                exact absurd hw (by decide)
              obtain ⟨g', a1, a2, a3⟩ := e_live2 (g := G) (n := Int32.ofNat m) (show b < 7 by omega) (show c < 7 by omega) (show e < 10 by omega) hbc
              exact ⟨g', a1, by rw [a2, hG], a3⟩)
            (fun _ => e_so_give (by omega) (by omega) (by omega))
            (fun hw => e_give_SW hH hS hb he hc hm2 hw)
          obtain ⟨v, g1, g2, a1, a2, a3, e132⟩ := key
          refine ⟨v, g1, g2, a1, ?_, a3⟩
          unfold fM_give_130
          rw [e_iB e132 hH, s_b1_s, e_bi_t h1, e_i1, e_iE e132 hH, s_b1_s, e_bi_t h2, e_i1, e_iB e132 hH, s_b1_s, e_bi_t h3, e_i1, show (40 : Int32) = Int32.ofNat 40 from rfl, e_isIn_1 (by omega), s_b1_s, e_bi_t h4, e_i1]
          exact a2
        · refine e_no h (-1) ?_ ?_
          · by_cases h5 : u < 1
            · rw [if_pos h5]
            · rw [if_neg h5, if_pos (show 40 < u from Classical.byContradiction (fun h6 => h4 ⟨h5, h6⟩))]
          · unfold fM_give_130
            rw [e_iB rfl hH, s_b1_s, e_bi_t h1, e_i1, e_iE rfl hH, s_b1_s, e_bi_t h2, e_i1, e_iB rfl hH, s_b1_s, e_bi_t h3, e_i1, show (40 : Int32) = Int32.ofNat 40 from rfl, e_isIn_1 (by omega), s_b1_s, e_bi_f h4, e_i0, e_act0, s_b2_s]
      · rw [e_bi_f h3, e_i0]
        refine e_no h (-1) rfl ?_
        unfold fM_give_130
        rw [e_iB rfl hH, s_b1_s, e_bi_t h1, e_i1, e_iE rfl hH, s_b1_s, e_bi_t h2, e_i1, e_iB rfl hH, s_b1_s, e_bi_f h3, e_i0, e_act0, s_b2_s]
    · rw [e_bi_f h2, e_i0]
      refine e_no h (-1) rfl ?_
      unfold fM_give_130
      rw [e_iB rfl hH, s_b1_s, e_bi_t h1, e_i1, e_iE rfl hH, s_b1_s, e_bi_f h2, e_i0, e_act0, s_b2_s]
  · rw [e_bi_f h1, e_i0]
    refine e_no h (-1) rfl ?_
    unfold fM_give_130
    rw [e_iB rfl hH, s_b1_s, e_bi_f h1, e_i0, e_act0, s_b2_s]
theorem k_log {g : s_G} (h : e_I g) : e_k1 (fC_log_0 g) fM_log_130 := by
  obtain ⟨hR, nb, ne, n, p, hs, hJ⟩ := id h
  obtain ⟨hH, hC, hT, hS⟩ := e_I.jc hJ
  obtain ⟨v, g1, g2, a1, a2, a3, _⟩ := e_both hR hJ (f' := e_log (g.1 132)) (w := e_why3 (g.1 132)) (F := fT_putLogOn_22) (what := 3) (x := 0) (y := 0) (z := 0) (u := 0)
    (fun g0 hC0 hT0 => by
      obtain ⟨g', a1, a2, a3, _⟩ := e_putLogOn_22 hT0
      exact ⟨g', a1, a2, a3⟩)
    (fun G hG => by
      unfold fM_why_130 e_why3
      rw [if_neg (by decide), if_neg (by decide), if_neg (by decide), if_pos rfl, hG]
      split
      · rfl
      · split <;> rfl)
    (fun _ G hG => by
      obtain ⟨g', a1, a2, a3⟩ := e_live3 (g := G) (x := 0) (y := 0) (z := 0) (w := 0)
      exact ⟨g', a1, by rw [a2, hG], a3⟩)
    (fun _ => e_so_log) (fun hw => e_log_SW hS hw)
  exact ⟨v, g1, g2, a1, a2, a3⟩
theorem k_rake {g : s_G} (h : e_I g) : e_k1 (fC_rake_0 g) fM_rake_130 := by
  obtain ⟨hR, nb, ne, n, p, hs, hJ⟩ := id h
  obtain ⟨hH, hC, hT, hS⟩ := e_I.jc hJ
  obtain ⟨v, g1, g2, a1, a2, a3, _⟩ := e_both hR hJ (f' := e_rk (g.1 132)) (w := e_why4 (g.1 132)) (F := fT_rakeAshes_22) (what := 4) (x := 0) (y := 0) (z := 0) (u := 0)
    (fun g0 hC0 hT0 => by
      obtain ⟨g', a1, a2, a3, _⟩ := e_rakeAshes_22 hT0
      exact ⟨g', a1, a2, a3⟩)
    (fun G hG => by
      unfold fM_why_130 e_why4
      rw [if_neg (by decide), if_neg (by decide), if_neg (by decide), if_neg (by decide), show fM_sum_130 52 4 G = _ from e_sum (a := 52) (n := 4) (by omega), s_b1_s, hG]
      split <;> rfl)
    (fun _ G hG => by
      obtain ⟨g', a1, a2, a3⟩ := e_live4 (g := G) (x := 0) (y := 0) (z := 0) (w := 0)
      exact ⟨g', a1, by rw [a2, hG], a3⟩)
    (fun _ => e_so_rk) (fun hw => e_rk_SW hS)
  exact ⟨v, g1, g2, a1, a2, a3⟩
theorem k_days {g : s_G} (h : e_I g) (x : Int32) : e_k1 (fC_days_0 x g) (fM_days_130 x) := by
  obtain ⟨hR, nb, ne, n, p, hs, hJ⟩ := id h
  obtain ⟨hH, hC, hT, hS⟩ := e_I.jc hJ
  have hn8 := hJ.2.1.1.1
  have hn := hH.1.1
  have hm := hH.2.1.1
  obtain ⟨d, hd, ed⟩ := hS.2.2.1
  unfold fC_days_0
  by_cases h4 : ¬ x < 1 ∧ ¬ Int32.ofNat 60 < x
  · rw [if_neg h4.1, if_neg (show ¬ 60 < x from h4.2)]
    obtain ⟨m, hm1, hm2, rfl⟩ := e_rng1 (by omega) h4.1 h4.2
    have f1 := e_cpA_fx 22 17 g
    obtain ⟨g4, a1, a2, a3⟩ := e_passDays_22 (g := e_cpA 22 17 g) (f := g.1 132) (n := m) (e_C3_cg hn hm hC (fun a ha => f1.1 a (by omega)) (fun _ _ => rfl)) hH (e_cpA_TA (d := 22) (s := 17) (by omega) hT) ed hd (by omega)
    have f2 : e_fx 22 26 g g4 := f1.tr a3
    rw [e_cp_22_17, s_b1_s, a1, s_b2_s]
    by_cases hz : d = 400
    · rw [if_neg (show ¬ (0 : Int32) < Int32.ofNat (min m (400 - d)) by rw [show min m (400 - d) = 0 by omega]; decide)]
      refine ⟨_, _, _, rfl, ?_, e_I_0 (e_I_22 h f2) 0⟩
      unfold fM_days_130
      rw [show (60 : Int32) = Int32.ofNat 60 from rfl, e_isIn_1 (by omega), s_b1_s, e_bi_t h4, e_i1, f2.1 132 (by omega), ed, hz, if_pos (show Int32.ofNat 400 = 400 from rfl)]
      rw [show min m (400 - 400) = 0 by omega]; rfl
    · have hpos : 0 < min m (400 - d) := by omega
      rw [if_pos (show (0 : Int32) < Int32.ofNat (min m (400 - d)) from e_T (a := 0) hpos (by omega))]
      obtain ⟨g5, b1, b2, b3, b4⟩ := e_keepTrial (f := g.1 132) (f' := e_dys (g.1 132) nb (min m (400 - d))) (e_HC_cg hJ.2.1 (fun a _ _ => f2.1 a (by omega))) (e_TA_cg (a := 17) hT (fun b _ _ => f2.1 b (by omega)) (fun _ _ _ => rfl)) a2
      rw [b1, s_b1_s]
      have c3 : e_fr (fun a => a < 17 ∨ 26 < a ∧ a < 43 ∨ 84 < a) g g5 := (f2.fr (fun a ha => by omega)).tr (b4.mo (fun a ha => by omega))
      have e132 : (s_si g5 130 0 0).1 132 = g.1 132 := by rw [e_sN (by omega), c3.1 132 (by omega)]
      have hM : e_HM n hs (s_si g5 130 0 0) := e_HM_cg hJ.2.2.1 (by rw [e_sS, e_vn _ _ (by omega), c3.1 130 (by omega)]) (by rw [e_sN (by omega), c3.1 135 (by omega)])
      obtain ⟨g6, s1, s2, s3, s4⟩ := e_snap hn8 hM
      have e6 : g6.1 132 = g.1 132 := (s4.1 132 (by omega)).trans e132
      obtain ⟨g7, p1, p2, p3⟩ := e_passDays_130 (g := g6) (nb := nb) (n := m) (d := d) hn (by rw [e6]; exact hH.1.2) (by rw [e6]; exact ed) hd (by omega)
      refine ⟨_, g5, g7, rfl, ?_, ?_⟩
      · unfold fM_days_130
        rw [show (60 : Int32) = Int32.ofNat 60 from rfl, e_isIn_1 (by omega), s_b1_s, e_bi_t h4, e_i1, c3.1 132 (by omega), ed, if_neg (show ¬ Int32.ofNat d = 400 from fun hq => hz (e_in (b := 400) (by omega) (by omega) hq)), s1, s_b1_s, p1, s_b2_s]
      · rw [e132] at s2
        refine e_done hR hJ b2 b3 c3 (by rw [p2, e6]) (e_HM_cg s2 (by rw [p3.1 130 (by omega)]) (p3.1 135 (by omega))) ?_ ?_ (e_so_dys hn _) (e_dys_all hH hS ed _ (by omega)).1 (e_psh_SW hS hn8 hJ.2.2.2)
        · rw [p3.1 130 (by omega), s3, e_sS]
          exact (e_f130.up (by omega)).tr (e_f130.up (by omega))
        · have q1 : e_fr (fun a => ¬ a = 130 ∧ ¬ a = 132 ∧ ¬ a = 135) g5 (s_si g5 130 0 0) := ⟨fun a ha => e_sN ha.1, rfl⟩
          exact (q1.tr (s4.mo (fun a ha => ⟨ha.1, ha.2.2⟩))).tr (p3.fr (fun a ha => by omega))
  · refine e_no h (-1) ?_ ?_
    · by_cases h5 : x < 1
      · rw [if_pos h5]
      · rw [if_neg h5, if_pos (show 60 < x from Classical.byContradiction (fun h6 => h4 ⟨h5, h6⟩))]
    · unfold fM_days_130
      rw [show (60 : Int32) = Int32.ofNat 60 from rfl, e_isIn_1 (by omega), s_b1_s, e_bi_f h4, e_i0]
theorem k_undo {g : s_G} (h : e_I g) : e_k1 (fC_undo_0 g) fM_undo_130 := by
  obtain ⟨hR, nb, ne, n, p, hs, hJ⟩ := id h
  have hn8 := hJ.2.1.1.1
  obtain ⟨hH, hC, hT, hS⟩ := e_I.jc hJ
  rcases Nat.eq_zero_or_pos n with hz | hpos
  · refine e_no h (-1) ?_ ?_
    · unfold fC_undo_0 fH_takeBack_43_17
      rw [if_pos (by rw [hJ.2.1.2.1.1, hz]; rfl)]
      rfl
    · unfold fM_undo_130
      rw [if_pos (by rw [hJ.2.2.1.1, hz]; rfl)]
  · obtain ⟨g1, a1, a2, a3, a4⟩ := e_undo_0 hJ.2.1 hpos
    have hM : e_HM n hs g1 := e_HM_cg hJ.2.2.1 (by rw [a4.1 130 (by omega)]) (a4.1 135 (by omega))
    obtain ⟨g2, b1, b2, b3, b4⟩ := e_undo_130 hpos hn8 hM
    refine ⟨_, g1, g2, a1, b1, ?_⟩
    have e1 : g1.1 132 = g.1 132 := a4.1 132 (by omega)
    have hSn := hJ.2.2.2 (n - 1) (by omega)
    rw [e1] at b2
    refine e_done (f' := e_mx (g.1 132) (hs (n - 1))) hR hJ (e_TR_cg a2 (fun k h1 h2 => e_mx_so h1 h2)) a3 (a4.mo (fun a ha => by omega)) b2 ?_ ?_ (b4.mo (fun a ha => ⟨ha.1, ha.2.1⟩)) ?_ ?_ (fun j hj => hJ.2.2.2 j (by omega))
    · refine ⟨by rw [b3, e_ve], fun j k hj hk => ?_⟩
      rw [b4.1 135 (by omega)]; exact hM.2 j k (by omega) hk
    · rw [b3]; exact (e_f130.up (by omega)).tr (e_f130.up (by omega))
    · intro k hk
      rcases hk with hk | hk
      · exact e_mx_hd hk
      · exact e_mx_se hk
    · exact e_SW_cg hSn (fun k h1 h2 => e_mx_so h1 h2)
-- the tape
theorem e_R_tp {g g' : s_G} (h : e_R g) (hg : ∀ a, e_rc a ∧ ¬ a = 1 ∧ ¬ a = 2 ∧ ¬ a = 131 → g'.1 a = g.1 a) (h1 : e_f130 (va_up (g.1 130) 2 (g'.1 130 2)) (g'.1 130)) (h2 : g'.2 = g.2) (ht : e_tp (g'.1 1 1) (g'.1 130 2) (g'.1 2) (g'.1 131)) : e_R g' := by
  have q : ∀ a, (a = 0 ∨ a = 37 ∨ (85 ≤ a ∧ a ≤ 124) ∨ a = 127 ∨ a = 129 ∨ a = 134 ∨ a = 140 ∨ a = 144 ∨ a = 145 ∨ a = 148 ∨ a = 150) → g'.1 a = g.1 a := fun a ha => hg a ⟨by unfold e_rc; omega, by omega, by omega, by omega⟩
  obtain ⟨⟨a1, a2⟩, ⟨b1, b2, b3⟩, ⟨c1, c2, c3⟩, ⟨d1, d2⟩, d3⟩ := h
  obtain ⟨⟨p1, p2, p3, p4⟩, p5, p6, p7, p8, p9⟩ := h1
  rw [e_vn _ _ (by omega)] at p2 p3 p4 p5 p6 p7 p8 p9
  refine ⟨⟨ht, ?_⟩, ⟨?_, ?_, ?_⟩, ⟨?_, ?_, ?_⟩, ⟨?_, ?_⟩, ?_⟩
  · rw [q 0 (by omega), p2]; exact a2
  · rw [q 122 (by omega), q 123 (by omega), q 144 (by omega), p3]; exact b1
  · rw [q 122 (by omega), q 124 (by omega), q 145 (by omega), p4, p5]; exact b2
  · rw [q 122 (by omega), p6]; exact b3
  · rw [q 127 (by omega), p7]; exact c1
  · rw [q 0 (by omega), q 129 (by omega), q 148 (by omega), p8]; exact c2
  · rw [q 37 (by omega), q 150 (by omega), p9]; exact c3
  · exact e_im_cg d1 (by omega) (fun a _ _ => q a (by omega)) (q _ (by omega)) (q _ (by omega)) (by rw [h2]) (by rw [h2]) (by rw [h2])
  · exact e_im_cg d2 (by omega) (fun a _ _ => q a (by omega)) (q _ (by omega)) (q _ (by omega)) (by rw [h2]) (by rw [h2]) (by rw [h2])
  · rw [h2]; exact d3
theorem k_end {g : s_G} (h : e_I g) (x : Int32) : e_k1 (fC_end_0 x g) (fM_end_130 x) := by
  obtain ⟨hR, nb, ne, n, p, hs, hJ⟩ := id h
  obtain ⟨⟨m, hm, t1, t2⟩, hby⟩ := hR.1.1
  unfold fC_end_0
  rw [t1]
  by_cases h0 : x < 0
  · rw [if_pos h0]
    refine e_no h 0 rfl ?_
    unfold fM_end_130
    rw [if_pos h0]
  · rw [if_neg h0]
    by_cases h1 : Int32.ofNat m < x
    · rw [if_pos h1]
      refine e_no h 0 rfl ?_
      unfold fM_end_130
      rw [if_neg h0, t2, if_pos h1]
    · rw [if_neg h1]
      obtain ⟨k, hk, rfl⟩ := e_rng2 h0 h1 (by omega)
      refine ⟨1, _, s_si (s_si (s_si g 1 1 (Int32.ofNat k)) 130 0 0) 130 2 (Int32.ofNat k), rfl, ?_, ?_⟩
      · unfold fM_end_130
        rw [if_neg h0, e_sN (by omega), t2, if_neg h1]
      · refine ⟨e_R_tp hR ?_ ?_ rfl ?_, nb, ne, n, p, hs, e_J_cg hJ ?_ ?_ rfl⟩
        · intro a ha
          have := ha.1
          unfold e_rc at this
          rw [e_sN (by omega), e_sN (by omega), e_sN (by omega)]
        · rw [e_sS, e_sS, e_sN (by omega), e_ve]
          refine ⟨⟨by rw [e_ve, e_ve], ?_, ?_, ?_⟩, ?_, ?_, ?_, ?_, ?_⟩ <;> rw [e_vn _ _ (by omega), e_vn _ _ (by omega), e_vn _ _ (by omega)]
        · rw [e_sN (by omega), e_sN (by omega), e_sS, e_sS, e_sS, e_sN (by omega), e_sN (by omega), e_sN (by omega), e_sN (by omega), e_sN (by omega), e_sN (by omega), e_ve, e_ve]
          exact ⟨⟨k, by omega, rfl, rfl⟩, hby⟩
        · intro a ha
          rw [e_sN (by omega), e_sN (by omega), e_sN (by omega)]
        · rw [e_sS, e_sS, e_sN (by omega), e_vn _ _ (by omega), e_vn _ _ (by omega)]
