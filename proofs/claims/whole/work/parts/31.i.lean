-- ACTS: bounds are kept
theorem e_su_c {h : Nat → Int32} {a m : Nat} : ∀ n, n ≤ 1000 → m ≤ 1000 → (∀ k, k < n → e_c m (h (a + k))) → ∃ L, L ≤ m * n ∧ e_su h a n = Int32.ofNat L ∧ ∀ k, k < n → ∃ x, x ≤ L ∧ h (a + k) = Int32.ofNat x := by
  intro n
  induction n with
  | zero => intro _ _ _; exact ⟨0, by omega, rfl, fun k hk => absurd hk (by omega)⟩
  | succ n ih =>
    intro hn hm hh
    obtain ⟨L, h1, h2, h3⟩ := ih (by omega) hm (fun k hk => hh k (by omega))
    obtain ⟨x, hx, ex⟩ := hh n (by omega)
    refine ⟨L + x, by rw [Nat.mul_succ]; omega, by rw [e_su, h2, ex, Int32.ofNat_add], fun k hk => ?_⟩
    by_cases hq : k = n
    · subst hq; exact ⟨x, by omega, ex⟩
    · obtain ⟨y, hy, ey⟩ := h3 k (by omega)
      exact ⟨y, by omega, ey⟩
theorem e_ld_c {nb ne b : Nat} {f : Nat → Int32} (hS : e_SW nb ne f) (hb : b < 7) : ∃ L, L ≤ 990 ∧ e_ld f b = Int32.ofNat L ∧ ∀ e, e < 10 → ∃ x, x ≤ L ∧ f (63 + 10 * b + e) = Int32.ofNat x := by
  obtain ⟨L, h1, h2, h3⟩ := e_su_c (h := f) (a := 63 + 10 * b) (m := 99) 10 (by omega) (by omega) (fun k hk => hS.1 b k hb hk)
  exact ⟨L, by omega, h2, h3⟩
theorem e_ne0 {x : Nat} (hx : x < 2147483648) (h : ¬ Int32.ofNat x = 0) : 0 < x := by
  rcases Nat.eq_zero_or_pos x with rfl | h'
  · exact absurd rfl h
  · exact h'
theorem e_why_0 {f : Nat → Int32} {b e : Nat} (h : e_why f b e = 0) : ¬ f (63 + 10 * b + e) = 0 ∧ ¬ f 48 = 0 := by
  unfold e_why at h
  split at h
  · exact absurd h (by decide)
  · rename_i h1
    split at h
    · split at h
      · exact absurd h (by decide)
      · rename_i h2; exact ⟨h1, h2⟩
    · exact absurd h (by decide)
theorem e_hsh_SW {nb ne b : Nat} {f : Nat → Int32} (hS : e_SW nb ne f) (h0 : ¬ f 48 = 0) : e_SW nb ne (e_hsh f b) := by
  obtain ⟨x, hx, ex⟩ := hS.2.2.2.1
  have hp : 0 < x := e_ne0 (by omega) (by rw [← ex]; exact h0)
  unfold e_hsh
  refine e_SW_up (e_SW_up hS (by omega) ⟨fun h => absurd h (by omega), fun _ => ?_, fun h => absurd h (by omega)⟩) (by omega) ⟨fun h => absurd h (by omega), fun h => absurd h (by omega), fun h => absurd h (by omega)⟩
  exact ⟨x - 1, by omega, by rw [ex, e_dec hp]⟩
theorem e_tk_c {nb ne k : Nat} {f : Nat → Int32} (hH : e_HW nb ne f) (hS : e_SW nb ne f) (hk : k < 4) : e_c 15 (e_tk f k) := by
  obtain ⟨x, hx, ex⟩ := hS.2.2.2.1
  obtain ⟨y, hy, ey⟩ := hH.2.2.2.1 k hk
  refine ⟨y + x / 5, by omega, ?_⟩
  unfold e_tk
  rw [ex, ey, Int32.ofNat_add, Int32.ofNat_div (by omega) (by omega)]
  rfl
theorem e_gn_c {nb ne b e k : Nat} {f : Nat → Int32} (hH : e_HW nb ne f) (hS : e_SW nb ne f) (hb : b < 7) (he : e < 10) (hk : k < 4) : ∃ x y, x ≤ y ∧ y ≤ 99 ∧ e_gn f b e k = Int32.ofNat x ∧ f (63 + 10 * b + e) = Int32.ofNat y := by
  obtain ⟨y, hy, ey⟩ := hS.1 b e hb he
  obtain ⟨t, ht, et⟩ := e_tk_c hH hS hk
  unfold e_gn
  rw [ey, et]
  by_cases h : y < t
  · rw [if_pos (e_T h (by omega))]; exact ⟨y, y, by omega, hy, rfl, rfl⟩
  · rw [if_neg (e_F (by omega) (by omega))]; exact ⟨t, y, by omega, hy, rfl, rfl⟩
theorem e_tell_SW {nb ne b e k : Nat} {f : Nat → Int32} (hH : e_HW nb ne f) (hS : e_SW nb ne f) (hb : b < nb) (he : e < ne) (hk : k < 4) (h0 : ¬ f 48 = 0) : e_SW nb ne (e_tell f b e k) := by
  have hn := hH.1.1
  have hm := hH.2.1.1
  obtain ⟨x, y, h1, h2, h3, h4⟩ := e_gn_c hH hS (show b < 7 by omega) (show e < 10 by omega) hk
  have hA := e_SW_on hS hb he hn hm (v := f (63 + 10 * b + e) - e_gn f b e k) ⟨y - x, by omega, by rw [h3, h4, Int32.ofNat_sub _ _ h1]⟩
  have hB := e_SW_up hA (j := 52 + k) (by omega) (v := f (52 + k) + e_gn f b e k) ⟨fun h => absurd h (by omega), fun h => absurd h (by omega), fun h => absurd h (by omega)⟩
  have hD := e_hsh_SW (b := b) hB (by rw [e_vn _ _ (by omega), e_vn _ _ (by omega)]; exact h0)
  unfold e_hsh at hD
  rw [e_vn _ _ (by omega), e_vn _ _ (by omega), e_vn _ _ (by omega), e_vn _ _ (by omega)] at hD
  exact hD
theorem e_lie_SW {nb ne b e : Nat} {f : Nat → Int32} (hH : e_HW nb ne f) (hS : e_SW nb ne f) (hb : b < nb) (he : e < ne) (h0 : ¬ f 48 = 0) : e_SW nb ne (e_lie f b e) := by
  have hn := hH.1.1
  have hm := hH.2.1.1
  unfold e_lie
  refine e_hsh_SW (e_SW_up (e_SW_on hS hb he hn hm (e_li_c (hS.1 b e (by omega) (by omega)))) (by omega) ⟨fun h => absurd h (by omega), fun h => absurd h (by omega), fun h => absurd h (by omega)⟩) ?_
  rw [e_vn _ _ (by omega), e_vn _ _ (by omega)]; exact h0
theorem e_give_SW {nb ne b e c n : Nat} {f : Nat → Int32} (hH : e_HW nb ne f) (hS : e_SW nb ne f) (hb : b < nb) (he : e < ne) (hc : c < nb) (hn40 : n ≤ 40) (hw : e_why2 f b e c (Int32.ofNat n) = 0) : e_SW nb ne (e_give f b e c (Int32.ofNat n)) := by
  have hn := hH.1.1
  have hm := hH.2.1.1
  unfold e_why2 at hw
  split at hw
  · exact absurd hw (by decide)
  · rename_i hbc
    split at hw
    · exact absurd hw (by decide)
    · rename_i h1
      split at hw
      · exact absurd hw (by decide)
      · rename_i h2
        obtain ⟨y, hy, ey⟩ := hS.1 b e (by omega) (by omega)
        obtain ⟨L, hL, eL, hx⟩ := e_ld_c hS (show c < 7 by omega)
        obtain ⟨x, hx, ex⟩ := hx e (by omega)
        obtain ⟨z, hz, ez⟩ := hH.2.2.2.2.1 c hc
        rw [ey] at h1
        rw [eL, ez, ← Int32.ofNat_add] at h2
        have h1' : ¬ y < n := fun h => h1 (e_T h (by omega))
        have h2' : ¬ z < L + n := fun h => h2 (e_T h (by omega))
        have hne : ¬ b = c := fun h => hbc (by rw [h])
        unfold e_give
        refine e_SW_on (e_SW_on hS hb he hn hm ⟨y - n, by omega, by rw [ey, Int32.ofNat_sub _ _ (by omega)]⟩) hc he hn hm ⟨x + n, by omega, by rw [ex, Int32.ofNat_add]⟩
theorem e_log_SW {nb ne : Nat} {f : Nat → Int32} (hS : e_SW nb ne f) (hw : e_why3 f = 0) : e_SW nb ne (e_log f) := by
  unfold e_why3 at hw
  split at hw
  · exact absurd hw (by decide)
  · rename_i h1
    obtain ⟨x, hx, ex⟩ := hS.2.2.2.1
    obtain ⟨y, hy, ey⟩ := hS.2.2.2.2
    have hp : 0 < y := e_ne0 (by omega) (by rw [← ey]; exact h1)
    unfold e_log
    refine e_SW_up (e_SW_up hS (by omega) ⟨fun h => absurd h (by omega), fun h => absurd h (by omega), fun _ => ?_⟩) (by omega) ⟨fun h => absurd h (by omega), fun _ => ?_, fun h => absurd h (by omega)⟩
    · exact ⟨y - 1, by omega, by rw [ey, e_dec hp]⟩
    · rw [ex, show Int32.ofNat x + 4 = Int32.ofNat (x + 4) by rw [Int32.ofNat_add]; rfl]
      by_cases h : 30 < x + 4
      · rw [if_pos (show (30 : Int32) < Int32.ofNat (x + 4) from e_T (a := 30) h (by omega))]
        exact ⟨30, by omega, rfl⟩
      · rw [if_neg (show ¬ (30 : Int32) < Int32.ofNat (x + 4) from e_F (a := 30) (by omega) (by omega))]
        exact ⟨x + 4, by omega, rfl⟩
theorem e_rk_SW {nb ne : Nat} {f : Nat → Int32} (hS : e_SW nb ne f) : e_SW nb ne (e_rk f) := by
  unfold e_rk
  refine e_SW_up (e_SW_up (e_SW_up (e_SW_up hS (by omega) ?_) (by omega) ?_) (by omega) ?_) (by omega) ?_
  · exact ⟨fun h => absurd h (by omega), fun h => absurd h (by omega), fun h => absurd h (by omega)⟩
  · exact ⟨fun h => absurd h (by omega), fun h => absurd h (by omega), fun h => absurd h (by omega)⟩
  · exact ⟨fun h => absurd h (by omega), fun h => absurd h (by omega), fun h => absurd h (by omega)⟩
  · exact ⟨fun h => absurd h (by omega), fun h => absurd h (by omega), fun h => absurd h (by omega)⟩
-- numbers of the row that an act leaves as they are
def e_so (f f' : Nat → Int32) : Prop := ∀ k, k < 47 ∨ 133 ≤ k → f' k = f k
theorem e_so_tell {f : Nat → Int32} {b e k : Nat} (hb : b < 7) (he : e < 10) (hk : k < 4) : e_so f (e_tell f b e k) := fun j hj => by
  unfold e_tell
  rw [e_vn _ _ (by omega), e_vn _ _ (by omega), e_vn _ _ (by omega), e_vn _ _ (by omega)]
theorem e_so_hsh {f : Nat → Int32} {b : Nat} : e_so f (e_hsh f b) := fun j hj => by
  unfold e_hsh
  rw [e_vn _ _ (by omega), e_vn _ _ (by omega)]
theorem e_so_lie {f : Nat → Int32} {b e : Nat} (hb : b < 7) (he : e < 10) : e_so f (e_lie f b e) := fun j hj => by
  unfold e_lie
  rw [e_so_hsh j hj, e_vn _ _ (by omega), e_vn _ _ (by omega)]
theorem e_so_give {f : Nat → Int32} {b e c : Nat} {n : Int32} (hb : b < 7) (he : e < 10) (hc : c < 7) : e_so f (e_give f b e c n) := fun j hj => by
  unfold e_give
  rw [e_vn _ _ (by omega), e_vn _ _ (by omega)]
theorem e_so_log {f : Nat → Int32} : e_so f (e_log f) := fun j hj => by
  unfold e_log
  rw [e_vn _ _ (by omega), e_vn _ _ (by omega)]
theorem e_so_rk {f : Nat → Int32} : e_so f (e_rk f) := fun j hj => by
  unfold e_rk
  rw [e_vn _ _ (by omega), e_vn _ _ (by omega), e_vn _ _ (by omega), e_vn _ _ (by omega)]
theorem e_so_wp {f : Nat → Int32} {n : Nat} (hn : n ≤ 7) : e_so f (e_wp f n) := fun j hj => e_wp_o n (by omega)
theorem e_so_day {f : Nat → Int32} {n : Nat} (hn : n ≤ 7) : e_so f (e_day f n) := fun j hj => by
  unfold e_day
  rw [e_vn _ _ (by omega), e_vn _ _ (by omega), e_vn _ _ (by omega)]
  exact e_so_wp hn j hj
theorem e_so.tr {f f' f'' : Nat → Int32} (h : e_so f f') (h' : e_so f' f'') : e_so f f'' := fun j hj => (h' j hj).trans (h j hj)
theorem e_so_dys {f : Nat → Int32} {nb : Nat} (hn : nb ≤ 7) : ∀ n, e_so f (e_dys f nb n) := by
  intro n
  induction n with
  | zero => exact fun _ _ => rfl
  | succ n ih => exact ih.tr (e_so_day hn)
-- the trial alone has changed
theorem e_I_22 {g g' : s_G} (h : e_I g) (hf : e_fx 22 26 g g') : e_I g' := by
  obtain ⟨hR, nb, ne, n, p, hs, hJ⟩ := h
  refine ⟨e_R_cg hR (fun a ha => hf.1 a (by unfold e_rc at ha; omega)) (by rw [hf.1 130 (by omega)]; exact e_f130.rf _) hf.2, nb, ne, n, p, hs, ?_⟩
  exact e_J_cg hJ (fun a ha => hf.1 a (by omega)) (by rw [hf.1 130 (by omega)]) hf.2
/-- an act that was done -/
theorem e_done {g g1 g2 : s_G} {nb ne n p n' p' : Nat} {hs hs' : Nat → Nat → Int32} {f' : Nat → Int32} (hR : e_R g) (hJ : e_J nb ne n p hs g) (c1 : e_T17 g1 f') (c2 : e_HC n' p' hs' g1) (c3 : e_fr (fun a => a < 17 ∨ 26 < a ∧ a < 43 ∨ 84 < a) g g1) (m1 : g2.1 132 = f') (m2 : e_HM n' hs' g2) (m3 : e_f130 (g1.1 130) (g2.1 130)) (m4 : e_fr (fun a => ¬ a = 130 ∧ ¬ a = 132 ∧ ¬ a = 135) g1 g2) (hso : e_so (g.1 132) f') (hS : e_SW nb ne f') (hsw : ∀ j, j < n' → e_SW nb ne (hs' j)) : e_I g2 := by
  obtain ⟨⟨j1, j2, j3, j4, j5, j6⟩, j7⟩ := hJ
  have hn := j1.1.1
  have hm := j1.2.1.1
  have q : ∀ a, (a < 17 ∨ 26 < a ∧ a < 43 ∨ 84 < a ∧ ¬ a = 130 ∧ ¬ a = 132 ∧ ¬ a = 135) → g2.1 a = g.1 a := by
    intro a ha
    rw [m4.1 a (by omega), c3.1 a (by omega)]
  have e130 : g1.1 130 = g.1 130 := c3.1 130 (by omega)
  have hg2 : g2.2 = g.2 := m4.2.trans c3.2
  refine ⟨e_R_cg hR (fun a ha => q a (by unfold e_rc at ha; omega)) (by rw [← e130]; exact m3) hg2, nb, ne, n', p', hs', ⟨?_, ?_, ?_, ?_, ?_, ?_⟩, e_HC_cg c2 (fun a _ _ => m4.1 a (by omega)), m2, hsw⟩
  · rw [m1]; exact e_HW_cg j1 (fun k hk => hso k (by omega))
  · rw [m1, q 3 (by omega), q (3 + 2) (by omega), q (3 + 3) (by omega), q (3 + 4) (by omega), q (3 + 5) (by omega), q (3 + 6) (by omega)]
    exact e_CR_cg hn hm j2 (fun k hk => hso k (by omega))
  · rw [hg2]; exact j3
  · rw [m1]
    exact e_TA_cg (a := 17) c1 (fun b _ _ => m4.1 b (by omega)) (fun _ _ _ => rfl)
  · rw [m1]; exact hS
  · rw [m1, hg2, q 27 (by omega), q (27 + 2) (by omega), q (27 + 3) (by omega)]
    exact e_SE_cg j6 (fun k hk _ => hso k (by omega)) (fun _ _ => ⟨rfl, rfl, rfl⟩)
/-- the reference's act -/
theorem e_act {G : s_G} {n : Nat} {hs : Nat → Nat → Int32} {f' : Nat → Int32} {what x y z u w : Int32} (hn : n ≤ 8) (h : e_HM n hs G) (hw : fM_why_130 what x y z u G = some w) (hl : w = 0 → ∀ G', G'.1 132 = G.1 132 → ∃ g', fM_live_130 what x y z u G' = some g' ∧ g'.1 132 = f' ∧ e_fx 132 132 G' g') : ∃ g2, fM_act_130 what x y z u 1 G = some (w, g2) ∧ (¬ w = 0 → g2 = G) ∧ (w = 0 → g2.1 132 = f' ∧ e_HM (min (n + 1) 8) (e_psh n hs (G.1 132)) g2 ∧ e_f130 (G.1 130) (g2.1 130) ∧ e_fr (fun a => ¬ a = 130 ∧ ¬ a = 132 ∧ ¬ a = 135) G g2) := by
  unfold fM_act_130
  rw [if_neg (by decide), hw, s_b1_s]
  by_cases h0 : w = 0
  · rw [if_pos h0]
    obtain ⟨g3, a1, a2, a3, a4⟩ := e_snap hn h
    obtain ⟨g4, b1, b2, b3⟩ := hl h0 g3 (a4.1 132 (by omega))
    rw [a1, s_b1_s, b1, s_b1_s]
    refine ⟨g4, by rw [h0], fun h => absurd h0 h, fun _ => ⟨b2, ?_, ?_, ?_⟩⟩
    · exact e_HM_cg a2 (by rw [b3.1 130 (by omega)]) (b3.1 135 (by omega))
    · rw [b3.1 130 (by omega), a3]; exact e_f130.up (by omega)
    · exact (a4.mo (fun a ha => ⟨ha.1, ha.2.2⟩)).tr (b3.fr (fun a ha => by omega))
  · rw [if_neg h0]
    exact ⟨G, rfl, fun _ => rfl, fun h => absurd h h0⟩
theorem e_psh_SW {nb ne n : Nat} {hs : Nat → Nat → Int32} {f : Nat → Int32} (hS : e_SW nb ne f) (hn : n ≤ 8) (h : ∀ j, j < n → e_SW nb ne (hs j)) : ∀ j, j < min (n + 1) 8 → e_SW nb ne (e_psh n hs f j) := by
  intro j hj
  unfold e_psh
  split
  · split
    · exact hS
    · exact h (j + 1) (by omega)
  · split
    · exact hS
    · exact h j (by omega)
/-- an act, of both: its answer w, the row f' behind it -/
theorem e_both {g : s_G} {nb ne n p : Nat} {hs : Nat → Nat → Int32} (hR : e_R g) (hJ : e_J nb ne n p hs g) {f' : Nat → Int32} {w : Int32} {F : s_G → Option (Int32 × s_G)} {what x y z u : Int32} (hF : ∀ g0, e_C3 nb ne g0 (g.1 132) → e_T22 g0 (g.1 132) → ∃ g', F g0 = some (w, g') ∧ e_fx 22 26 g0 g' ∧ (w = 0 → e_T22 g' f')) (hw : ∀ G, G.1 132 = g.1 132 → fM_why_130 what x y z u G = some w) (hl : w = 0 → ∀ G, G.1 132 = g.1 132 → ∃ g', fM_live_130 what x y z u G = some g' ∧ g'.1 132 = f' ∧ e_fx 132 132 G g') (hso : w = 0 → e_so (g.1 132) f') (hS' : w = 0 → e_SW nb ne f') : ∃ v g1 g2, (s_b1 (fT_copyFrom_22_17 g) fun g3 => s_b2 (F g3) fun v5 g4 => s_b2 (fC_keepIfDone_0 v5 g4) fun v7 g6 => some (v7, g6)) = some (v, g1) ∧ (s_b2 (fM_act_130 what x y z u 1 (s_si g1 130 0 0)) fun v8 g7 => some (v8, g7)) = some (v, g2) ∧ e_I g2 ∧ g1.1 132 = g.1 132 := by
  obtain ⟨hH, hC, hT, hS⟩ := e_I.jc hJ
  have hnb := hH.1.1
  have hne := hH.2.1.1
  have hn := hJ.2.1.1.1
  have f1 := e_cpA_fx 22 17 g
  obtain ⟨g4, a1, a2, a3⟩ := hF (e_cpA 22 17 g) (e_C3_cg hnb hne hC (fun a ha => f1.1 a (by omega)) (fun _ _ => rfl)) (e_cpA_TA (d := 22) (s := 17) (by omega) hT)
  rw [e_cp_22_17, s_b1_s, a1, s_b2_s]
  have f2 : e_fx 22 26 g g4 := f1.tr a2
  unfold fC_keepIfDone_0
  by_cases h0 : w = 0
  · rw [if_pos h0]
    obtain ⟨g5, b1, b2, b3, b4⟩ := e_keepTrial (f := g.1 132) (f' := f') (e_HC_cg hJ.2.1 (fun a _ _ => f2.1 a (by omega))) (e_TA_cg (a := 17) hT (fun b _ _ => f2.1 b (by omega)) (fun _ _ _ => rfl)) (a3 h0)
    rw [b1, s_b1_s, s_b2_s]
    have c3 : e_fr (fun a => a < 17 ∨ 26 < a ∧ a < 43 ∨ 84 < a) g g5 := (f2.fr (fun a ha => by omega)).tr (b4.mo (fun a ha => by omega))
    have e132 : (s_si g5 130 0 0).1 132 = g.1 132 := by rw [e_sN (by omega), c3.1 132 (by omega)]
    have hM : e_HM n hs (s_si g5 130 0 0) := e_HM_cg hJ.2.2.1 (by rw [e_sS, e_vn _ _ (by omega), c3.1 130 (by omega)]) (by rw [e_sN (by omega), c3.1 135 (by omega)])
    obtain ⟨g6, d1, d2, d3⟩ := e_act (f' := f') hn hM (hw _ e132) (fun h0 G hG => hl h0 G (hG.trans e132))
    obtain ⟨d4, d5, d6, d7⟩ := d3 h0
    rw [e132] at d5
    refine ⟨w, g5, g6, rfl, by rw [d1, s_b2_s], ?_, c3.1 132 (by omega)⟩
    refine e_done hR hJ b2 b3 c3 d4 d5 ?_ ?_ (hso h0) (hS' h0) (e_psh_SW hS hn hJ.2.2.2)
    · refine e_f130.tr ?_ d6
      rw [e_sS]; exact e_f130.up (by omega)
    · refine e_fr.tr ?_ d7
      exact ⟨fun a ha => e_sN ha.1, rfl⟩
  · rw [if_neg h0, s_b2_s]
    have e132 : (s_si g4 130 0 0).1 132 = g.1 132 := by rw [e_sN (by omega), f2.1 132 (by omega)]
    have hM : e_HM n hs (s_si g4 130 0 0) := e_HM_cg hJ.2.2.1 (by rw [e_sS, e_vn _ _ (by omega), f2.1 130 (by omega)]) (by rw [e_sN (by omega), f2.1 135 (by omega)])
    obtain ⟨g6, d1, d2, d3⟩ := e_act (f' := f') hn hM (hw _ e132) (fun h0 G hG => hl h0 G (hG.trans e132))
    refine ⟨w, g4, g6, rfl, by rw [d1, s_b2_s], ?_, f2.1 132 (by omega)⟩
    rw [d2 h0]
    exact e_I_0 (e_I_22 ⟨hR, nb, ne, n, p, hs, hJ⟩ f2) 0
