-- ODDS
noncomputable def e_od (nb ne : Nat) (f : Nat → Int32) (b m : Nat) (s : Int32) : Nat → Int32
  | 0 => 0
  | k + 1 => if e_bi (e_ov (e_dd nb ne (f, s + Int32.ofNat k) m).1 b) = 0 then e_od nb ne f b m s k + 1 else e_od nb ne f b m s k
theorem k_odds {g : s_G} (h : e_I g) (x y s : Int32) : e_k1 (fC_odds_0 x y s g) (fM_odds_130 x y s) := by
  obtain ⟨hR, nb, ne, n, p, hs, hJ⟩ := id h
  obtain ⟨hH, hC, hT, hS⟩ := e_I.jc hJ
  have hn := hH.1.1
  have hm := hH.2.1.1
  obtain ⟨d, hd, ed⟩ := hS.2.2.1
  unfold fC_odds_0
  rw [e_hB hC hH, s_b1_s]
  by_cases h1 : e_hs nb x
  · rw [e_bi_t h1, e_i1]
    by_cases h4 : ¬ y < 1 ∧ ¬ Int32.ofNat 30 < y
    · rw [if_neg h4.1, if_neg (show ¬ 30 < y from h4.2)]
      obtain ⟨b, hb, rfl⟩ := e_hs_k (by omega) h1
      obtain ⟨m, hm1, hm2, rfl⟩ := e_rng1 (by omega) h4.1 h4.2
      obtain ⟨w, ⟨c1, c2, c3⟩, c4⟩ := e_lpN (B := fun (x : Int32 × Int32 × s_G) => fC_odds_0_30 (Int32.ofNat b) (Int32.ofNat m) s x.1 x.2.1 x.2.2) (fun k (w : Int32 × Int32 × s_G) => w.1 = e_od nb ne (g.1 132) b (min 20 (400 - d)) s k ∧ w.2.1 = Int32.ofNat k ∧ e_fr e_nd g w.2.2) m (x := (0, 0, g)) (by
        intro k w hk hw
        obtain ⟨w1, w2, w3⟩ := w
        obtain ⟨c1, c2, c3⟩ := hw
        dsimp only at c1 c2 c3
        subst c1 c2
        have q : ∀ a, (a < 22 ∨ 26 < a) ∧ ¬ a = 128 → w3.1 a = g.1 a := fun a ha => c3.1 a ha
        have f1 := e_cpA_fx 22 17 w3
        have f1' : e_fr e_nd w3 (s_si (e_cpA 22 17 w3) 128 0 (s + Int32.ofNat k)) := (e_nd_fx f1).tr e_nd_si
        have hT' : e_T17 w3 (g.1 132) := e_TA_cg (a := 17) hT (fun c _ _ => q c (by omega)) (fun _ _ _ => rfl)
        obtain ⟨g4, a1, a2, a3⟩ := e_drawDays (g := s_si (e_cpA 22 17 w3) 128 0 (s + Int32.ofNat k)) (x := (g.1 132, s + Int32.ofNat k)) (n := 20) (e_C3_cg hn hm hC (fun a ha => by rw [f1'.1 a ⟨by omega, by omega⟩, q a (by omega)]) (fun _ _ => rfl)) hH hS ⟨e_TA_cg (a := 22) (e_cpA_TA (d := 22) (s := 17) (by omega) hT') (fun c _ _ => e_sN (by omega)) (fun _ _ _ => rfl), by rw [e_sS, e_ve]⟩ ed hd (by omega)
        have f2 : e_fr e_nd g g4 := (c3.tr f1').tr a3
        obtain ⟨ok, _⟩ := e_dd_ok (x := (g.1 132, s + Int32.ofNat k)) (e_ok.rf hH hS) ed (min 20 (400 - d)) (by omega)
        refine ⟨(e_od nb ne (g.1 132) b (min 20 (400 - d)) s (k + 1), Int32.ofNat (k + 1), g4), ?_, rfl, rfl, f2⟩
        unfold fC_odds_0_30
        dsimp only
        rw [if_pos (e_T hk (by omega)), e_cp_22_17, s_b1_s, show fD_start_128 (s + Int32.ofNat k) (e_cpA 22 17 w3) = some (s_si (e_cpA 22 17 w3) 128 0 (s + Int32.ofNat k)) from rfl, s_b1_s, show (20 : Int32) = Int32.ofNat 20 from rfl, a1, s_b2_s, e_isOver_22 (e_C3_cg hn hm hC (fun a ha => f2.1 a ⟨by omega, by omega⟩) (fun j hj => ok.1 j (by omega))) ok.2.2 a2.1 hb, s_b1_s, e_inc]
        conv => rhs; unfold e_od
        split <;> rfl) ⟨rfl, rfl, ⟨fun _ _ => rfl, rfl⟩⟩
      obtain ⟨w1, w2, g1⟩ := w
      dsimp only at c1 c2 c3
      subst c1 c2
      have q : ∀ a, (a < 22 ∨ 26 < a) ∧ ¬ a = 128 → g1.1 a = g.1 a := fun a ha => c3.1 a ha
      have e132 : g1.1 132 = g.1 132 := q 132 (by omega)
      obtain ⟨G, l1, l2, l3⟩ := e_layAside (g := s_si g1 130 0 0)
      have eG : G.1 132 = g.1 132 := by rw [l3.1 132 (by omega), e_sN (by omega), e132]
      have lG : ∀ k, k < 86 → G.1 136 k = g.1 132 (47 + k) := fun k hk => by rw [l2 k hk, e_sN (by omega), e132]
      obtain ⟨w, ⟨m1, m2, m3, m4⟩, m5⟩ := e_lpN (B := fun (x : Int32 × Int32 × s_G) => fM_odds_130_35 (Int32.ofNat b) (Int32.ofNat m) s x.1 x.2.1 x.2.2) (fun k (w : Int32 × Int32 × s_G) => w.1 = e_od nb ne (g.1 132) b (min 20 (400 - d)) s k ∧ w.2.1 = Int32.ofNat k ∧ w.2.2.1 132 = g.1 132 ∧ e_md G w.2.2) m (x := (0, 0, G)) (by
        intro k w hk hw
        obtain ⟨w1, w2, w3⟩ := w
        obtain ⟨c1, c2, c3, c4⟩ := hw
        dsimp only at c1 c2 c3 c4
        subst c1 c2
        obtain ⟨g4, a1, a2, a3⟩ := e_mDays (g := w3) (s := s + Int32.ofNat k) (n := 20) hH hS c3 ed hd (by omega)
        obtain ⟨ok, _⟩ := e_dd_ok (x := (g.1 132, s + Int32.ofNat k)) (e_ok.rf hH hS) ed (min 20 (400 - d)) (by omega)
        have c5 : e_md G g4 := c4.tr a3
        obtain ⟨g5, b1, b2, b3⟩ := e_takeBack (g := g4) (f := g.1 132) (fun k hk => by rw [c5.1.1 136 (by omega)]; exact lG k hk)
        refine ⟨(e_od nb ne (g.1 132) b (min 20 (400 - d)) s (k + 1), Int32.ofNat (k + 1), g5), ?_, rfl, rfl, ?_, c5.tr (e_md.fx b3)⟩
        · unfold fM_odds_130_35
          dsimp only
          rw [if_pos (e_T hk (by omega)), show (20 : Int32) = Int32.ofNat 20 from rfl, a1, s_b2_s, e_isOver (by omega), s_b1_s, a2.1, b1, s_b1_s, s_b1_s, e_inc]
          conv => rhs; unfold e_od
          split <;> rfl
        · dsimp only
          rw [b2, a2.1, e_mx_id ok.1]) ⟨rfl, rfl, eG, e_md.rf _⟩
      obtain ⟨w1, w2, g2⟩ := w
      dsimp only at m1 m2 m3 m4
      subst m1 m2
      refine ⟨e_od nb ne (g.1 132) b (min 20 (400 - d)) s m, g1, g2, ?_, ?_, ?_⟩
      · rw [c4]
        apply s_lp_out
        dsimp only
        unfold fC_odds_0_30
        rw [if_neg (e_F (Nat.le_refl m) (by omega))]
        rfl
      · unfold fM_odds_130
        rw [e_iB e132 hH, s_b1_s, e_bi_t h1, e_i1, show (30 : Int32) = Int32.ofNat 30 from rfl, e_isIn_1 (by omega), s_b1_s, e_bi_t h4, e_i1, l1, s_b1_s, m5]
        apply s_lp_out
        dsimp only
        unfold fM_odds_130_35
        rw [if_neg (e_F (Nat.le_refl m) (by omega))]
        rfl
      · have q3 : ∀ k, ¬ k = 0 ∧ ¬ k = 38 → g2.1 130 k = g.1 130 k := by
          intro k hk
          rw [m4.2 k hk.2, l3.1 130 (by omega), e_sS, e_vn _ _ hk.1, q 130 (by omega)]
        refine e_I_cg h (fun a ha => ?_) ?_ (q3 25 (by omega)) ((m4.1.2.trans l3.2).trans c3.2)
        · by_cases hq : a = 132
          · subst hq; exact m3
          · have : ¬ a = 130 ∧ ¬ a = 136 ∧ (a < 22 ∨ 26 < a) ∧ ¬ a = 128 := by unfold e_kc e_rc at ha; omega
            rw [m4.1.1 a ⟨this.1, hq⟩, l3.1 a (by omega), e_sN this.1, q a (by omega)]
        · exact ⟨⟨q3 _ (by omega), q3 _ (by omega), q3 _ (by omega), q3 _ (by omega)⟩, q3 _ (by omega), q3 _ (by omega), q3 _ (by omega), q3 _ (by omega), q3 _ (by omega)⟩
    · refine e_no h (-1) ?_ ?_
      · by_cases h5 : y < 1
        · rw [if_pos h5]
        · rw [if_neg h5, if_pos (show 30 < y from Classical.byContradiction (fun h6 => h4 ⟨h5, h6⟩))]
      · unfold fM_odds_130
        rw [e_iB rfl hH, s_b1_s, e_bi_t h1, e_i1, show (30 : Int32) = Int32.ofNat 30 from rfl, e_isIn_1 (by omega), s_b1_s, e_bi_f h4, e_i0]
  · rw [e_bi_f h1, e_i0]
    refine e_no h (-1) rfl ?_
    unfold fM_odds_130
    rw [e_iB rfl hH, s_b1_s, e_bi_f h1, e_i0]
-- CALM
theorem e_hv_c {f : Nat → Int32} {b : Nat} : ∀ n, n ≤ 10 → ((e_hv f b n).1 = -1 ∧ (e_hv f b n).2 = 0 ∧ ∀ e, e < n → ¬ 0 < f (63 + 10 * b + e)) ∨ ∃ k, k < n ∧ (e_hv f b n).1 = Int32.ofNat k ∧ (e_hv f b n).2 = f (63 + 10 * b + k) ∧ 0 < f (63 + 10 * b + k) := by
  intro n
  induction n with
  | zero => intro _; exact Or.inl ⟨rfl, rfl, fun e he => absurd he (by omega)⟩
  | succ n ih =>
    intro hn
    unfold e_hv
    rcases ih (by omega) with ⟨h1, h2, h3⟩ | ⟨k, hk, h1, h2, h3⟩
    · rw [h2]
      by_cases hq : 0 < f (63 + 10 * b + n)
      · rw [if_pos hq]
        exact Or.inr ⟨n, by omega, rfl, rfl, hq⟩
      · rw [if_neg hq]
        refine Or.inl ⟨h1, h2, fun e he => ?_⟩
        by_cases hen : e = n
        · subst hen; exact hq
        · exact h3 e (by omega)
    · rw [h2]
      by_cases hq : f (63 + 10 * b + k) < f (63 + 10 * b + n)
      · rw [if_pos hq]
        refine Or.inr ⟨n, by omega, rfl, rfl, ?_⟩
        rw [Int32.lt_iff_toInt_lt] at h3 hq ⊢
        omega
      · rw [if_neg hq]
        exact Or.inr ⟨k, by omega, h1, h2, h3⟩
theorem e_on1 {k : Nat} (hk : k < 1000000) : ¬ Int32.ofNat k = -1 := by
  intro h
  have : Int32.ofNat k < 0 := by rw [h]; decide
  exact e_nn (by omega) this
theorem e_mostOf {g : s_G} {ne b : Nat} (hm : ne ≤ 10) (h0 : g.1 132 1 = Int32.ofNat ne) (hb : b < 7) : fM_mostOf_130 (Int32.ofNat b) g = some (e_hv (g.1 132) b ne).1 := by
  unfold fM_mostOf_130
  refine e_seq2 (fun k => ((e_hv (g.1 132) b k).1, Int32.ofNat k)) ne rfl ?_ ?_
  · intro k hk
    dsimp only
    unfold fM_mostOf_130_4
    rw [h0, if_pos (e_T hk (by omega)), e_onOf hb (by omega), s_b1_s, e_inc]
    conv => rhs; unfold e_hv
    rcases e_hv_c (f := g.1 132) (b := b) k (by omega) with ⟨h1, h2, h3⟩ | ⟨j, hj, h1, h2, h3⟩
    · rw [h1, h2, if_pos rfl]
      split
      · rfl
      · rw [h1]
    · rw [h1, h2, if_neg (e_on1 (by omega)), e_onOf hb (by omega), s_b1_s]
      split
      · rfl
      · rw [h1]
  · dsimp only
    unfold fM_mostOf_130_4
    rw [h0, if_neg (e_F (Nat.le_refl ne) (by omega))]
    rfl
/-- who is over has something on him -/
theorem e_ov_hv {nb ne b : Nat} {f : Nat → Int32} (hH : e_HW nb ne f) (hS : e_SW nb ne f) (hb : b < nb) (ho : e_ov f b) : ∃ k, k < ne ∧ (e_hv f b ne).1 = Int32.ofNat k := by
  have hn := hH.1.1
  have hm := hH.2.1.1
  rcases e_hv_c (f := f) (b := b) ne hm with ⟨h1, h2, h3⟩ | ⟨k, hk, h1, _⟩
  · exfalso
    have hz : e_ld f b = 0 := by
      unfold e_ld
      rw [e_su_z (m := 0) 10 (by omega) ?_]
      · rfl
      · intro k _ hk
        by_cases hq : k < ne
        · obtain ⟨y, hy, ey⟩ := hS.1 b k (by omega) hk
          have := h3 k hq
          rw [ey] at this ⊢
          rcases Nat.eq_zero_or_pos y with rfl | hp
          · rfl
          · exact absurd (show (0 : Int32) < Int32.ofNat y from e_T (a := 0) hp (by omega)) this
        · exact hS.2.1 b k (by omega) hk (Or.inr (by omega))
    obtain ⟨z, hz2, ez⟩ := hH.2.2.2.2.1 b hb
    unfold e_ov at ho
    rw [hz, ez] at ho
    exact e_nn (by omega) ho
  · exact ⟨k, hk, h1⟩
noncomputable def e_at (ne b : Nat) (f : Nat → Int32) : Nat → Int32 := if e_bi (e_ov f b) = 0 then f else if e_why f b (e_hv f b ne).1.toNatClampNeg = 0 then e_tl f b (e_hv f b ne).1.toNatClampNeg else f
noncomputable def e_ats (ne : Nat) (f : Nat → Int32) : Nat → Nat → Int32
  | 0 => f
  | n + 1 => e_at ne n (e_ats ne f n)
noncomputable def e_cd (nb ne : Nat) (f : Nat → Int32) : Nat → Nat → Int32
  | 0 => f
  | n + 1 => e_day (e_ats ne (e_cd nb ne f n) nb) nb
theorem e_at_ok {nb ne b : Nat} {f x : Nat → Int32} (hb : b < nb) (h : e_ok nb ne f x) : e_ok nb ne f (e_at ne b x) ∧ e_at ne b x 47 = x 47 := by
  unfold e_at
  by_cases ho : e_ov x b
  · rw [if_neg (by rw [e_bi_t ho]; decide)]
    obtain ⟨k, hk, ek⟩ := e_ov_hv h.2.2 h.2.1 hb ho
    rw [ek, e_nt (by have := h.2.2.2.1.1; omega)]
    split
    · rename_i hw
      exact ⟨h.mk' (e_so_tl h.2.2 hb hk) (e_tl_SW h.2.2 h.2.1 hb hk (e_why_0 hw).2), e_tl_47 h.2.2 hb hk⟩
    · exact ⟨h, rfl⟩
  · rw [if_pos (e_bi_f ho)]
    exact ⟨h, rfl⟩
theorem e_ats_ok {nb ne : Nat} {f x : Nat → Int32} (h : e_ok nb ne f x) : ∀ n, n ≤ nb → e_ok nb ne f (e_ats ne x n) ∧ e_ats ne x n 47 = x 47 := by
  intro n
  induction n with
  | zero => intro _; exact ⟨h, rfl⟩
  | succ n ih =>
    intro hn
    have h1 := ih (by omega)
    have h2 := e_at_ok (b := n) (by omega) h1.1
    exact ⟨h2.1, h2.2.trans h1.2⟩
theorem e_cd_ok {nb ne d : Nat} {f : Nat → Int32} (hH : e_HW nb ne f) (hS : e_SW nb ne f) (hd : f 47 = Int32.ofNat d) : ∀ n, d + n ≤ 400 → e_ok nb ne f (e_cd nb ne f n) ∧ e_cd nb ne f n 47 = Int32.ofNat (d + n) := by
  intro n
  induction n with
  | zero => intro _; exact ⟨e_ok.rf hH hS, hd⟩
  | succ n ih =>
    intro hn
    obtain ⟨h1, h2⟩ := ih (by omega)
    obtain ⟨h5, h6⟩ := e_ats_ok h1 nb (Nat.le_refl _)
    have e47 : e_ats ne (e_cd nb ne f n) nb 47 = Int32.ofNat (d + n) := by rw [h6, h2]
    refine ⟨h5.mk' (e_so_day h5.2.2.1.1) (e_day_SW h5.2.2 h5.2.1 ⟨d + n, by omega, e47⟩), ?_⟩
    show e_day _ nb 47 = _
    rw [e_day_47, e47, e_inc]
    rfl
noncomputable def e_ca (nb ne b : Nat) (f : Nat → Int32) : Nat → Nat → Int32
  | 0, k => if e_bi (e_ov (e_cd nb ne f k) b) = 0 then Int32.ofNat k else -1
  | r + 1, k => if e_bi (e_ov (e_cd nb ne f k) b) = 0 then Int32.ofNat k else e_ca nb ne b f r (k + 1)
theorem e_allTell {g : s_G} {nb ne : Nat} {f x : Nat → Int32} (hC : e_C3 nb ne g x) (hok : e_ok nb ne f x) (hT : e_T22 g x) : ∃ g', fT_allWhoAreOverTell_22 g = some g' ∧ e_T22 g' (e_ats ne x nb) ∧ e_fx 22 26 g g' := by
  have hn := hok.2.2.1.1
  have hm := hok.2.2.2.1.1
  unfold fT_allWhoAreOverTell_22
  obtain ⟨w, ⟨h1, h2, h3⟩, h4⟩ := e_lpN (B := fun (x : Int32 × s_G) => fT_allWhoAreOverTell_22_2 x.1 x.2) (fun k (w : Int32 × s_G) => w.1 = Int32.ofNat k ∧ e_T22 w.2 (e_ats ne x k) ∧ e_fx 22 26 g w.2) nb (x := (0, g)) (by
    intro k w hk hw
    obtain ⟨w1, w2⟩ := w
    obtain ⟨h1, h2, h3⟩ := hw
    dsimp only at h1 h2 h3
    subst h1
    obtain ⟨ok, _⟩ := e_ats_ok hok k (by omega)
    have C2 : e_C3 nb ne w2 (e_ats ne x k) := e_C3_cg hn hm hC (fun a ha => h3.1 a (by omega)) (fun j hj => by rw [ok.1 j (by omega), hok.1 j (by omega)])
    unfold fT_allWhoAreOverTell_22_2
    dsimp only
    rw [C2.1.1, ok.2.2.1.2, if_pos (e_T hk (by omega)), e_isOver_22 C2 ok.2.2 h2 hk, s_b1_s, e_heaviest_22 C2 ok.2.2 h2 (by omega), s_b1_s]
    show ∃ y : Int32 × s_G, _ = some (Sum.inl y) ∧ y.1 = _ ∧ e_T22 y.2 (e_at ne k (e_ats ne x k)) ∧ _
    unfold e_at
    by_cases ho : e_ov (e_ats ne x k) k
    · rw [if_neg (by rw [e_bi_t ho]; decide), if_neg (by rw [e_bi_t ho]; decide)]
      obtain ⟨j, hj, ej⟩ := e_ov_hv ok.2.2 ok.2.1 hk ho
      obtain ⟨hk4, ek⟩ := e_kd ok.2.2 hj
      obtain ⟨g', a1, a2, a3, a4⟩ := e_tellEvent_22 (b := k) (e := j) C2 h2 (by omega) hj hm hk4 ek
      rw [ej, e_nt (by omega)]
      unfold fT_allWhoAreOverTell_22_30
      rw [if_neg (e_on1 (by omega)), a1, s_b2_s, e_inc]
      by_cases hw : e_why (e_ats ne x k) k j = 0
      · rw [if_pos hw]
        exact ⟨(_, g'), rfl, rfl, a3 hw, h3.tr a2⟩
      · rw [if_neg hw, a4 hw]
        exact ⟨(_, w2), rfl, rfl, h2, h3⟩
    · rw [if_pos (e_bi_f ho), if_pos (e_bi_f ho)]
      unfold fT_allWhoAreOverTell_22_30
      rw [if_pos rfl, e_inc]
      exact ⟨(_, w2), rfl, rfl, h2, h3⟩) ⟨rfl, hT, e_fx.rf _ _ _⟩
  obtain ⟨w1, w2⟩ := w
  dsimp only at h1 h2 h3
  subst h1
  refine ⟨w2, ?_, h2, h3⟩
  rw [h4]
  apply s_lp_out
  dsimp only
  unfold fT_allWhoAreOverTell_22_2
  rw [h3.1 3 (by omega), hC.1.1, hok.2.2.1.2, if_neg (e_F (Nat.le_refl nb) (by omega))]
  rfl
theorem e_calm_lp {g : s_G} {nb ne b d : Nat} {f : Nat → Int32} (hC : e_C3 nb ne g f) (hH : e_HW nb ne f) (hS : e_SW nb ne f) (hd : f 47 = Int32.ofNat d) (hb : b < nb) : ∀ r k w, d + k + r = 400 → e_T22 w (e_cd nb ne f k) → e_fx 22 26 g w → ∃ g', s_lp (fun (x : Int32 × s_G) => fT_daysToCalm_22_7 (Int32.ofNat b) (Int32.ofNat (400 - d)) x.1 x.2) (Int32.ofNat k, w) = some (e_ca nb ne b f r k, g') ∧ e_fx 22 26 g g' := by
  have hn := hH.1.1
  have hm := hH.2.1.1
  intro r
  induction r with
  | zero =>
    intro k w hk hT hf
    obtain ⟨ok, _⟩ := e_cd_ok hH hS hd k (by omega)
    have C2 : e_C3 nb ne w (e_cd nb ne f k) := e_C3_cg hn hm hC (fun a ha => hf.1 a (by omega)) (fun j hj => ok.1 j (by omega))
    refine ⟨w, ?_, hf⟩
    unfold e_ca
    have e1 : fT_daysToCalm_22_7 (Int32.ofNat b) (Int32.ofNat (400 - d)) (Int32.ofNat k) w = if e_bi (e_ov (e_cd nb ne f k) b) = 0 then some (.inr (Int32.ofNat k, w)) else some (.inl (Int32.ofNat (k + 1), w)) := by
      unfold fT_daysToCalm_22_7
      rw [if_neg (e_F (by omega) (by omega)), e_isOver_22 C2 ok.2.2 hT hb, s_b1_s, if_neg (show ¬ Int32.ofNat k < Int32.ofNat (400 - d) from e_F (by omega) (by omega)), e_inc]
      rfl
    by_cases ho : e_bi (e_ov (e_cd nb ne f k) b) = 0
    · rw [if_pos ho] at e1 ⊢
      exact s_lp_out e1
    · rw [if_neg ho] at e1 ⊢
      rw [s_lp_in (y := (Int32.ofNat (k + 1), w)) e1]
      apply s_lp_out
      dsimp only
      unfold fT_daysToCalm_22_7
      rw [if_pos (e_T (by omega) (by omega))]
      rfl
  | succ r ih =>
    intro k w hk hT hf
    obtain ⟨ok, _⟩ := e_cd_ok hH hS hd k (by omega)
    have C2 : e_C3 nb ne w (e_cd nb ne f k) := e_C3_cg hn hm hC (fun a ha => hf.1 a (by omega)) (fun j hj => ok.1 j (by omega))
    unfold e_ca
    by_cases ho : e_bi (e_ov (e_cd nb ne f k) b) = 0
    · rw [if_pos ho]
      refine ⟨w, ?_, hf⟩
      apply s_lp_out
      dsimp only
      unfold fT_daysToCalm_22_7
      rw [if_neg (e_F (by omega) (by omega)), e_isOver_22 C2 ok.2.2 hT hb, s_b1_s, if_pos ho]
      rfl
    · rw [if_neg ho]
      obtain ⟨g3, a1, a2, a3⟩ := e_allTell C2 ok hT
      obtain ⟨ok2, _⟩ := e_ats_ok ok nb (Nat.le_refl _)
      obtain ⟨g4, b1, b2, b3⟩ := e_passDay_22 (g := g3) (e_C3_cg hn hm C2 (fun a ha => a3.1 a (by omega)) (fun j hj => by rw [ok2.1 j (by omega), ok.1 j (by omega)])) ok2.2.2 a2
      obtain ⟨g', c1, c2⟩ := ih (k + 1) g4 (by omega) b2 ((hf.tr a3).tr b3)
      refine ⟨g', ?_, c2⟩
      rw [← c1]
      apply s_lp_in
      dsimp only
      unfold fT_daysToCalm_22_7
      rw [if_neg (e_F (by omega) (by omega)), e_isOver_22 C2 ok.2.2 hT hb, s_b1_s, if_neg ho, if_pos (e_T (by omega) (by omega)), a1, s_b1_s, b1, s_b1_s, e_inc]
theorem e_mTell {g : s_G} {nb ne : Nat} {x1 : Int32} {f x : Nat → Int32} (hok : e_ok nb ne f x) (hM : g.1 132 = x) : ∃ g', s_lp (fun (x : Int32 × s_G) => fM_calm_130_42 x1 x.1 x.2) (0, g) = some (.inl g') ∧ g'.1 132 = e_day (e_ats ne x nb) nb ∧ e_fx 132 132 g g' := by
  have hn := hok.2.2.1.1
  have hm := hok.2.2.2.1.1
  obtain ⟨w, ⟨h1, h2, h3⟩, h4⟩ := e_lpN (B := fun (x : Int32 × s_G) => fM_calm_130_42 x1 x.1 x.2) (fun k (w : Int32 × s_G) => w.1 = Int32.ofNat k ∧ w.2.1 132 = e_ats ne x k ∧ e_fx 132 132 g w.2) nb (x := (0, g)) (by
    intro k w hk hw
    obtain ⟨w1, w2⟩ := w
    obtain ⟨h1, h2, h3⟩ := hw
    dsimp only at h1 h2 h3
    subst h1
    obtain ⟨ok, _⟩ := e_ats_ok hok k (by omega)
    unfold fM_calm_130_42
    dsimp only
    rw [h2, ok.2.2.1.2, if_pos (e_T hk (by omega)), e_isOver (by omega), s_b1_s, h2, e_mostOf hm (by rw [h2]; exact ok.2.2.2.1.2) (by omega), s_b1_s, h2]
    show ∃ y : Int32 × s_G, _ = some (Sum.inl y) ∧ y.1 = _ ∧ y.2.1 132 = e_at ne k (e_ats ne x k) ∧ _
    unfold e_at
    by_cases ho : e_ov (e_ats ne x k) k
    · rw [if_neg (by rw [e_bi_t ho]; decide), if_neg (by rw [e_bi_t ho]; decide)]
      obtain ⟨j, hj, ej⟩ := e_ov_hv ok.2.2 ok.2.1 hk ho
      obtain ⟨hk4, ek⟩ := e_kd ok.2.2 hj
      rw [ej, e_nt (by omega), e_whySay (by omega) (by omega), s_b1_s, h2, s_b1_s, e_inc]
      by_cases hw : e_why (e_ats ne x k) k j = 0
      · obtain ⟨g', a1, a2, a3⟩ := e_doTell (g := w2) (b := k) (e := j) (by omega) (by omega) hk4 (by rw [h2]; exact ek)
        rw [if_pos hw, if_pos hw, a1, s_b1_s]
        exact ⟨(_, g'), rfl, rfl, by rw [a2, h2]; rfl, h3.tr a3⟩
      · rw [if_neg hw, if_neg hw]
        exact ⟨(_, w2), rfl, rfl, h2, h3⟩
    · rw [if_pos (e_bi_f ho), if_pos (e_bi_f ho), e_inc]
      exact ⟨(_, w2), rfl, rfl, h2, h3⟩) ⟨rfl, hM, e_fx.rf _ _ _⟩
  obtain ⟨w1, w2⟩ := w
  dsimp only at h1 h2 h3
  subst h1
  obtain ⟨ok, _⟩ := e_ats_ok hok nb (Nat.le_refl _)
  obtain ⟨g', a1, a2, a3⟩ := e_oneDay (g := w2) hn (by rw [h2]; exact ok.2.2.1.2)
  refine ⟨g', ?_, by rw [a2, h2], h3.tr a3⟩
  rw [h4]
  apply s_lp_out
  dsimp only
  unfold fM_calm_130_42
  rw [h2, ok.2.2.1.2, if_neg (e_F (Nat.le_refl nb) (by omega)), a1]
  rfl
theorem e_mcalm_lp {G : s_G} {nb ne b d : Nat} {f : Nat → Int32} (hH : e_HW nb ne f) (hS : e_SW nb ne f) (hd : f 47 = Int32.ofNat d) (hb : b < nb) (hA : ∀ k, k < 86 → G.1 136 k = f (47 + k)) : ∀ r k w, d + k + r = 400 → w.1 132 = e_cd nb ne f k → e_fx 132 132 G w → ∃ g', s_lp (fun (x : s_G) => fM_calm_130_19 (Int32.ofNat b) x) w = some (e_ca nb ne b f r k, g') ∧ g'.1 132 = f ∧ e_fx 132 132 G g' := by
  have hn := hH.1.1
  have hm := hH.2.1.1
  have fin : ∀ k w, d + k ≤ 400 → w.1 132 = e_cd nb ne f k → e_fx 132 132 G w → ∃ g', fM_calm_130_96 (Int32.ofNat b) w = some (if e_bi (e_ov (e_cd nb ne f k) b) = 0 then Int32.ofNat k else -1, g') ∧ g'.1 132 = f ∧ e_fx 132 132 G g' := by
    intro k w hk hT hf
    obtain ⟨ok, e47⟩ := e_cd_ok hH hS hd k hk
    obtain ⟨g', a1, a2, a3⟩ := e_takeBack (g := w) (f := f) (fun k hk => by rw [hf.1 136 (by omega)]; exact hA k hk)
    have e2 : g'.1 132 = f := by rw [a2, hT, e_mx_id ok.1]
    refine ⟨g', ?_, e2, hf.tr a3⟩
    unfold fM_calm_130_96 fM_calm_130_115
    rw [e_isOver (by omega), s_b1_s, hT, a1, s_b1_s, s_b1_s, e47]
    by_cases ho : e_bi (e_ov (e_cd nb ne f k) b) = 0
    · rw [if_pos ho, if_pos ho, if_neg (e_on1 (by omega)), e2, hd, ← Int32.ofNat_sub _ _ (by omega), show d + k - d = k by omega]
    · rw [if_neg ho, if_neg ho, if_pos rfl]
  intro r
  induction r with
  | zero =>
    intro k w hk hT hf
    obtain ⟨ok, e47⟩ := e_cd_ok hH hS hd k (by omega)
    obtain ⟨g', a1, a2, a3⟩ := fin k w (by omega) hT hf
    refine ⟨g', ?_, a2, a3⟩
    apply s_lp_out
    unfold fM_calm_130_19 e_ca
    rw [e_isOver (by omega), s_b1_s, hT, e47, if_neg (show ¬ Int32.ofNat (d + k) < 400 from e_F (b := 400) (by omega) (by omega)), a1]
    split <;> rfl
  | succ r ih =>
    intro k w hk hT hf
    obtain ⟨ok, e47⟩ := e_cd_ok hH hS hd k (by omega)
    unfold e_ca
    by_cases ho : e_bi (e_ov (e_cd nb ne f k) b) = 0
    · rw [if_pos ho]
      obtain ⟨g', a1, a2, a3⟩ := fin k w (by omega) hT hf
      rw [if_pos ho] at a1
      refine ⟨g', ?_, a2, a3⟩
      apply s_lp_out
      unfold fM_calm_130_19
      rw [e_isOver (by omega), s_b1_s, hT, if_pos ho, a1]
      rfl
    · rw [if_neg ho]
      obtain ⟨g3, a1, a2, a3⟩ := e_mTell (x1 := Int32.ofNat b) ok hT
      obtain ⟨g', c1, c2, c3⟩ := ih (k + 1) g3 (by omega) a2 (hf.tr a3)
      refine ⟨g', ?_, c2, c3⟩
      rw [← c1]
      apply s_lp_in
      unfold fM_calm_130_19
      rw [e_isOver (by omega), s_b1_s, hT, if_neg ho, e47, if_pos (show Int32.ofNat (d + k) < 400 from e_T (b := 400) (by omega) (by omega)), a1]
theorem k_calm {g : s_G} (h : e_I g) (x : Int32) : e_k1 (fC_calm_0 x g) (fM_calm_130 x) := by
  obtain ⟨hR, nb, ne, n, p, hs, hJ⟩ := id h
  obtain ⟨hH, hC, hT, hS⟩ := e_I.jc hJ
  have hn := hH.1.1
  have hm := hH.2.1.1
  obtain ⟨d, hd, ed⟩ := hS.2.2.1
  unfold fC_calm_0
  rw [e_hB hC hH, s_b1_s]
  by_cases h1 : e_hs nb x
  · rw [e_bi_t h1, e_i1]
    obtain ⟨b, hb, rfl⟩ := e_hs_k (by omega) h1
    have f1 := e_cpA_fx 22 17 g
    have C1 : e_C3 nb ne (e_cpA 22 17 g) (g.1 132) := e_C3_cg hn hm hC (fun a ha => f1.1 a (by omega)) (fun _ _ => rfl)
    have T1 : e_T22 (e_cpA 22 17 g) (g.1 132) := e_cpA_TA (d := 22) (s := 17) (by omega) hT
    obtain ⟨g1, a1, a2⟩ := e_calm_lp C1 hH hS ed hb (400 - d) 0 (e_cpA 22 17 g) (by omega) T1 (e_fx.rf _ _ _)
    have f2 : e_fx 22 26 g g1 := f1.tr a2
    obtain ⟨G, l1, l2, l3⟩ := e_layAside (g := s_si g1 130 0 0)
    have eG : G.1 132 = g.1 132 := by rw [l3.1 132 (by omega), e_sN (by omega), f2.1 132 (by omega)]
    obtain ⟨g2, b1, b2, b3⟩ := e_mcalm_lp (G := G) hH hS ed hb (fun k hk => by rw [l2 k hk, e_sN (by omega), f2.1 132 (by omega)]) (400 - d) 0 G (by omega) eG (e_fx.rf _ _ _)
    refine ⟨e_ca nb ne b (g.1 132) (400 - d) 0, g1, g2, ?_, ?_, ?_⟩
    · rw [e_cp_22_17, s_b1_s]
      unfold fT_daysToCalm_22 fT_daysLeft_22
      rw [T1.1.2.2.2.1, ed, show (400 : Int32) - Int32.ofNat d = Int32.ofNat (400 - d) from (Int32.ofNat_sub 400 d hd).symm, s_b1_s, show ((0 : Int32), e_cpA 22 17 g) = (Int32.ofNat 0, e_cpA 22 17 g) from rfl, a1, s_b2_s]
    · unfold fM_calm_130
      rw [e_iB (f2.1 132 (by omega)) hH, s_b1_s, e_bi_t h1, e_i1, l1, s_b1_s, b1]
    · have e130 : g2.1 130 = va_up (g.1 130) 0 0 := by rw [b3.1 130 (by omega), l3.1 130 (by omega), e_sS, f2.1 130 (by omega)]
      refine e_I_cg h (fun a ha => ?_) (by rw [e130]; exact e_f130.up (by omega)) (by rw [e130, e_vn _ _ (by omega)]) ((b3.2.trans l3.2).trans f2.2)
      by_cases hq : a = 132
      · subst hq; exact b2
      · have : ¬ a = 130 ∧ ¬ a = 136 ∧ (a < 22 ∨ 26 < a) := by unfold e_kc e_rc at ha; omega
        rw [b3.1 a (by omega), l3.1 a (by omega), e_sN this.1, f2.1 a this.2.2]
  · rw [e_bi_f h1, e_i0]
    refine e_no h (-1) rfl ?_
    unfold fM_calm_130
    rw [e_iB rfl hH, s_b1_s, e_bi_f h1, e_i0]
