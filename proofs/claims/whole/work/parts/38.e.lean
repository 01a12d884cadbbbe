-- BOOK: lines are lived
theorem t_wy_c {f : Nat → Int32} {b e : Nat} : ∃ c, c ≤ 4 ∧ e_why f b e = Int32.ofNat c := by
  unfold e_why
  repeat' split
  · exact ⟨1, by omega, rfl⟩
  · exact ⟨3, by omega, rfl⟩
  · exact ⟨0, by omega, rfl⟩
  · exact ⟨4, by omega, rfl⟩
  · exact ⟨2, by omega, rfl⟩
theorem t_wy2_c {f : Nat → Int32} {b e c : Nat} {n : Int32} : ∃ k, k ≤ 4 ∧ e_why2 f b e c n = Int32.ofNat k := by
  unfold e_why2
  repeat' split
  · exact ⟨1, by omega, rfl⟩
  · exact ⟨2, by omega, rfl⟩
  · exact ⟨3, by omega, rfl⟩
  · exact ⟨0, by omega, rfl⟩
theorem t_wy3_c {f : Nat → Int32} : ∃ k, k ≤ 4 ∧ e_why3 f = Int32.ofNat k := by
  unfold e_why3
  repeat' split
  · exact ⟨1, by omega, rfl⟩
  · exact ⟨2, by omega, rfl⟩
  · exact ⟨0, by omega, rfl⟩
theorem t_wy4_c {f : Nat → Int32} : ∃ k, k ≤ 4 ∧ e_why4 f = Int32.ofNat k := by
  unfold e_why4
  repeat' split
  · exact ⟨1, by omega, rfl⟩
  · exact ⟨0, by omega, rfl⟩
theorem e_so.rf (f : Nat → Int32) : e_so f f := fun _ _ => rfl
/-- the reference's line that is no stride -/
theorem t_goAct {G : s_G} {i w u : Nat} {x y z v : Int32} (hi : i < 40) (hw : w ≤ 4) (h0 : G.1 149 (5 * i) = Int32.ofNat w) (h1 : G.1 149 (5 * i + 1) = x) (h2 : G.1 149 (5 * i + 2) = y) (h3 : G.1 149 (5 * i + 3) = z) (h4 : G.1 149 (5 * i + 4) = v) (hwy : fM_why_130 (Int32.ofNat w) x y z v G = some (Int32.ofNat u)) (hu : u ≤ 4) (G' : s_G) (hl : u = 0 → fM_live_130 (Int32.ofNat w) x y z v G = some G') : fM_goBy_130 (Int32.ofNat (5 * i)) G = some (if u = 0 then ((0 : Int32), G') else (Int32.ofNat (10 * w) + Int32.ofNat u, G)) := by
  unfold fM_goBy_130
  rw [show Int32.ofNat (5 * i) + 1 = Int32.ofNat (5 * i + 1) from e_inc _, show Int32.ofNat (5 * i) + 2 = Int32.ofNat (5 * i + 2) from by rw [Int32.ofNat_add]; rfl, show Int32.ofNat (5 * i) + 3 = Int32.ofNat (5 * i + 3) from by rw [Int32.ofNat_add]; rfl, show Int32.ofNat (5 * i) + 4 = Int32.ofNat (5 * i + 4) from by rw [Int32.ofNat_add]; rfl, e_ix (show 5 * i + 1 < 200 by omega) (by omega), s_b1_s, e_ix (show 5 * i < 200 by omega) (by omega), s_b1_s, h0, if_neg (show ¬ Int32.ofNat w = 5 from fun hh => by have := e_in (b := 5) (by omega) (by omega) hh; omega), e_ix (show 5 * i + 2 < 200 by omega) (by omega), s_b1_s, e_ix (show 5 * i + 3 < 200 by omega) (by omega), s_b1_s, e_ix (show 5 * i + 4 < 200 by omega) (by omega), s_b1_s, h1, h2, h3, h4, hwy, s_b1_s]
  by_cases hq : u = 0
  · subst hq
    rw [if_pos (show Int32.ofNat 0 = 0 from rfl), if_pos rfl, hl rfl, s_b1_s]
  · rw [if_neg (show ¬ Int32.ofNat u = 0 from fun hh => hq (e_in (b := 0) (by omega) (by omega) hh)), if_neg hq, show (10 : Int32) * Int32.ofNat w = Int32.ofNat (10 * w) from by rw [Int32.ofNat_mul]; rfl]
theorem t_goBy {nb ne i : Nat} {f : Nat → Int32} {Y G : s_G} (hi : i < 40) (hb1 : t_b1 nb ne i (Y.1 38) (Y.1 39) (Y.1 40) (Y.1 41) (Y.1 42) (G.1 149)) (hH : e_HW nb ne f) (hS : e_SW nb ne f) (hC : e_C3 nb ne Y f) (hT : e_T22 Y f) (hG : G.1 132 = f) :
    ∃ u w f' Y' G', u ≤ 4 ∧ w ≤ 5 ∧ Y.1 38 i = Int32.ofNat (10 * w) ∧ fB_liveLine_37_22 (Int32.ofNat i) Y = some (Int32.ofNat u, Y') ∧ fM_goBy_130 (Int32.ofNat (5 * i)) G = some (if u = 0 then ((0 : Int32), G') else (Int32.ofNat (10 * w) + Int32.ofNat u, G)) ∧ e_fx 22 26 Y Y' ∧ e_fx 132 132 G G' ∧ (u = 0 → e_T22 Y' f' ∧ G'.1 132 = f' ∧ e_so f f' ∧ e_SW nb ne f') ∧ (¬ u = 0 → Y' = Y) := by
  have h7 := hH.1.1
  have h10 := hH.2.1.1
  obtain ⟨w, hw, r8, l0, hA, hB, hD⟩ := hb1
  have eL : fB_liveLine_37_22 (Int32.ofNat i) Y = if Int32.ofNat (10 * w) = 0 then (s_b2 (fT_tellEvent_22 (Y.1 39 i) (Y.1 40 i) Y) fun v6 g5 => some (v6, g5))
  else if Int32.ofNat (10 * w) = 10 then (s_b2 (fT_lieAbout_22 (Y.1 39 i) (Y.1 40 i) Y) fun v10 g9 => some (v10, g9))
  else if Int32.ofNat (10 * w) = 20 then (s_b2 (fT_giveSome_22 (Y.1 39 i) (Y.1 40 i) (Y.1 41 i) (Y.1 42 i) Y) fun v16 g15 => some (v16, g15))
  else if Int32.ofNat (10 * w) = 30 then (s_b2 (fT_putLogOn_22 Y) fun v18 g17 => some (v18, g17))
  else if Int32.ofNat (10 * w) = 40 then (s_b2 (fT_rakeAshes_22 Y) fun v20 g19 => some (v20, g19))
  else s_b2 (fB_liveDays_22 (Y.1 42 i) Y) fun v23 g22 => some (v23, g22) := by
    unfold fB_liveLine_37_22
    rw [e_ix hi (by omega), s_b1_s, r8]
  have hcs : w = 0 ∨ w = 1 ∨ w = 2 ∨ w = 3 ∨ w = 4 ∨ w = 5 := by omega
  rcases hcs with rfl | rfl | rfl | rfl | rfl | rfl
  · -- tells
    obtain ⟨b, e, hb, he, y9, l1, y0, l2⟩ := hA (by omega)
    obtain ⟨k, hk, ek⟩ := (hH.2.2.2.2.2 e he).2.1
    obtain ⟨u, hu, eu⟩ := t_wy_c (f := f) (b := b) (e := e)
    obtain ⟨Y', a1, a2, a3, a4⟩ := e_tellEvent_22 hC hT (show b < 7 by omega) he h10 hk ek
    obtain ⟨G', b1, b2, b3⟩ := e_live0 (g := G) (x := G.1 149 (5 * i + 3)) (y := G.1 149 (5 * i + 4)) (show b < 7 by omega) (show e < 10 by omega) hk (by rw [hG]; exact ek)
    have z0 : e_why f b e = 0 ↔ u = 0 := by rw [eu]; exact ⟨fun h => e_in (b := 0) (by omega) (by omega) h, fun h => by rw [h]; rfl⟩
    refine ⟨u, 0, e_tell f b e k, Y', G', hu, by omega, r8, ?_, t_goAct hi (by omega) l0 l1 l2 rfl rfl ?_ hu G' (fun _ => b1), a2, b3, fun h => ⟨a3 (z0.mpr h), by rw [b2, hG], e_so_tell (by omega) (by omega) hk, e_tell_SW hH hS hb he hk (e_why_0 (z0.mpr h)).2⟩, fun h => a4 (fun h2 => h (z0.mp h2))⟩
    · rw [eL, if_pos (by decide), y9, y0, a1, s_b2_s, eu]
    · unfold fM_why_130
      rw [if_pos (by decide), e_whySay (by omega) (by omega), s_b1_s, hG, eu]
  · -- lies
    obtain ⟨b, e, hb, he, y9, l1, y0, l2⟩ := hA (by omega)
    obtain ⟨u, hu, eu⟩ := t_wy_c (f := f) (b := b) (e := e)
    obtain ⟨Y', a1, a2, a3, a4⟩ := e_lieAbout_22 hC hT hS (show b < 7 by omega) (show e < 10 by omega)
    obtain ⟨G', b1, b2, b3⟩ := e_live1 (g := G) (x := G.1 149 (5 * i + 3)) (y := G.1 149 (5 * i + 4)) (show b < 7 by omega) (show e < 10 by omega)
    have z0 : e_why f b e = 0 ↔ u = 0 := by rw [eu]; exact ⟨fun h => e_in (b := 0) (by omega) (by omega) h, fun h => by rw [h]; rfl⟩
    refine ⟨u, 1, e_lie f b e, Y', G', hu, by omega, r8, ?_, t_goAct hi (by omega) l0 l1 l2 rfl rfl ?_ hu G' (fun _ => b1), a2, b3, fun h => ⟨a3 (z0.mpr h), by rw [b2, hG], e_so_lie (by omega) (by omega), e_lie_SW hH hS hb he (e_why_0 (z0.mpr h)).2⟩, fun h => a4 (fun h2 => h (z0.mp h2))⟩
    · rw [eL, if_neg (by decide), if_pos (by decide), y9, y0, a1, s_b2_s, eu]
    · unfold fM_why_130
      rw [if_neg (by decide), if_pos (by decide), e_whySay (by omega) (by omega), s_b1_s, hG, eu]
  · -- gives
    obtain ⟨b, e, hb, he, y9, l1, y0, l2⟩ := hA (by omega)
    obtain ⟨c, k, hc, hk1, hk2, y1, l3, y2, l4⟩ := hB rfl
    obtain ⟨u, hu, eu⟩ := t_wy2_c (f := f) (b := b) (e := e) (c := c) (n := Int32.ofNat k)
    obtain ⟨Y', a1, a2, a3, a4⟩ := e_giveSome_22 (n := Int32.ofNat k) hC hT (show b < 7 by omega) hc h7 (show e < 10 by omega)
    have z0 : e_why2 f b e c (Int32.ofNat k) = 0 ↔ u = 0 := by rw [eu]; exact ⟨fun h => e_in (b := 0) (by omega) (by omega) h, fun h => by rw [h]; rfl⟩
    have hwhy : fM_why_130 (Int32.ofNat 2) (Int32.ofNat b) (Int32.ofNat e) (Int32.ofNat c) (Int32.ofNat k) G = some (Int32.ofNat u) := by
      rw [← eu]
      unfold fM_why_130 e_why2
      rw [if_neg (by decide), if_neg (by decide), if_pos (by decide)]
      split
      · rfl
      · rw [e_onOf (by omega) (by omega), s_b1_s, hG]
        split
        · rfl
        · simp (disch := omega) only [e_loadOf, s_b1_s, e_10, ← Int32.ofNat_add, e_ix, hG]
          split <;> rfl
    by_cases hu0 : u = 0
    · have hbc : ¬ b = c := by
        intro hq
        have hw := z0.mpr hu0
        unfold e_why2 at hw
        rw [if_pos (by rw [hq])] at hw
        exact absurd hw (by decide)
      obtain ⟨G', b1, b2, b3⟩ := e_live2 (g := G) (n := Int32.ofNat k) (show b < 7 by omega) (show c < 7 by omega) (show e < 10 by omega) hbc
      refine ⟨u, 2, e_give f b e c (Int32.ofNat k), Y', G', hu, by omega, r8, ?_, t_goAct hi (by omega) l0 l1 l2 l3 l4 hwhy hu G' (fun _ => b1), a2, b3, fun h => ⟨a3 (z0.mpr h), by rw [b2, hG], e_so_give (by omega) (by omega) (by omega), e_give_SW hH hS hb he hc hk2 (z0.mpr h)⟩, fun h => a4 (fun h2 => h (z0.mp h2))⟩
      rw [eL, if_neg (by decide), if_neg (by decide), if_pos (by decide), y9, y0, y1, y2, a1, s_b2_s, eu]
    · refine ⟨u, 2, f, Y', G, hu, by omega, r8, ?_, t_goAct hi (by omega) l0 l1 l2 l3 l4 hwhy hu G (fun h => absurd h hu0), a2, e_fx.rf _ _ _, fun h => absurd h hu0, fun h => a4 (fun h2 => h (z0.mp h2))⟩
      rw [eL, if_neg (by decide), if_neg (by decide), if_pos (by decide), y9, y0, y1, y2, a1, s_b2_s, eu]
  · -- a log
    obtain ⟨u, hu, eu⟩ := t_wy3_c (f := f)
    obtain ⟨Y', a1, a2, a3, a4⟩ := e_putLogOn_22 hT
    obtain ⟨G', b1, b2, b3⟩ := e_live3 (g := G) (x := G.1 149 (5 * i + 1)) (y := G.1 149 (5 * i + 2)) (z := G.1 149 (5 * i + 3)) (w := G.1 149 (5 * i + 4))
    have z0 : e_why3 f = 0 ↔ u = 0 := by rw [eu]; exact ⟨fun h => e_in (b := 0) (by omega) (by omega) h, fun h => by rw [h]; rfl⟩
    refine ⟨u, 3, e_log f, Y', G', hu, by omega, r8, ?_, t_goAct hi (by omega) l0 rfl rfl rfl rfl ?_ hu G' (fun _ => b1), a2, b3, fun h => ⟨a3 (z0.mpr h), by rw [b2, hG], e_so_log, e_log_SW hS (z0.mpr h)⟩, fun h => a4 (fun h2 => h (z0.mp h2))⟩
    · rw [eL, if_neg (by decide), if_neg (by decide), if_neg (by decide), if_pos (by decide), a1, s_b2_s, eu]
    · rw [← eu]
      unfold fM_why_130 e_why3
      rw [if_neg (by decide), if_neg (by decide), if_neg (by decide), if_pos (by decide), hG]
      split
      · rfl
      · split <;> rfl
  · -- ashes
    obtain ⟨u, hu, eu⟩ := t_wy4_c (f := f)
    obtain ⟨Y', a1, a2, a3, a4⟩ := e_rakeAshes_22 hT
    obtain ⟨G', b1, b2, b3⟩ := e_live4 (g := G) (x := G.1 149 (5 * i + 1)) (y := G.1 149 (5 * i + 2)) (z := G.1 149 (5 * i + 3)) (w := G.1 149 (5 * i + 4))
    have z0 : e_why4 f = 0 ↔ u = 0 := by rw [eu]; exact ⟨fun h => e_in (b := 0) (by omega) (by omega) h, fun h => by rw [h]; rfl⟩
    refine ⟨u, 4, e_rk f, Y', G', hu, by omega, r8, ?_, t_goAct hi (by omega) l0 rfl rfl rfl rfl ?_ hu G' (fun _ => b1), a2, b3, fun h => ⟨a3 (z0.mpr h), by rw [b2, hG], e_so_rk, e_rk_SW hS⟩, fun h => a4 (fun h2 => h (z0.mp h2))⟩
    · rw [eL, if_neg (by decide), if_neg (by decide), if_neg (by decide), if_neg (by decide), if_pos (by decide), a1, s_b2_s, eu]
    · rw [← eu]
      unfold fM_why_130 e_why4
      rw [if_neg (by decide), if_neg (by decide), if_neg (by decide), if_neg (by decide), show fM_sum_130 52 4 G = _ from e_sum (a := 52) (n := 4) (by omega), s_b1_s, hG]
      split <;> rfl
  · -- days
    obtain ⟨k, hk1, hk2, y2, l1⟩ := hD rfl
    obtain ⟨d, hd, ed⟩ := hS.2.2.1
    have o8 : Y.1 22 8 = Int32.ofNat d := by rw [hT.1.2.2.2.1, ed]
    have e400 : (400 : Int32) - Int32.ofNat d = Int32.ofNat (400 - d) := by rw [show (400 : Int32) = Int32.ofNat 400 from rfl, ← Int32.ofNat_sub _ _ hd]
    have egB : fM_goBy_130 (Int32.ofNat (5 * i)) G = if (400 : Int32) < Int32.ofNat (d + k) then (some ((51 : Int32), G)) else s_b2 (fM_passDays_130 (Int32.ofNat k) G) fun v6 g5 => some ((0 : Int32), g5) := by
      unfold fM_goBy_130
      rw [show Int32.ofNat (5 * i) + 1 = Int32.ofNat (5 * i + 1) from e_inc _, e_ix (show 5 * i + 1 < 200 by omega) (by omega), s_b1_s, e_ix (show 5 * i < 200 by omega) (by omega), s_b1_s, l0, if_pos (by decide), l1, hG, ed, ← Int32.ofNat_add]
    by_cases hq : 400 < d + k
    · refine ⟨1, 5, f, Y, G, by omega, by omega, r8, ?_, ?_, e_fx.rf _ _ _, e_fx.rf _ _ _, fun h => by omega, fun _ => rfl⟩
      · rw [eL, if_neg (by decide), if_neg (by decide), if_neg (by decide), if_neg (by decide), if_neg (by decide), y2]
        unfold fB_liveDays_22 fT_daysLeft_22
        rw [s_b1_s, o8, e400, if_pos (e_T (by omega) (by omega)), s_b2_s]
        rfl
      · rw [egB, if_pos (show 400 < Int32.ofNat (d + k) from e_T (a := 400) hq (by omega)), if_neg (by decide)]
        rfl
    · obtain ⟨Y', a1, a2, a3⟩ := e_passDays_22 (n := k) hC hH hT ed hd (by omega)
      obtain ⟨G', b1, b2, b3⟩ := e_passDays_130 (g := G) (nb := nb) (n := k) (d := d) h7 (by rw [hG]; exact hH.1.2) (by rw [hG]; exact ed) hd (by omega)
      refine ⟨0, 5, e_dys f nb (min k (400 - d)), Y', G', by omega, by omega, r8, ?_, ?_, a3, b3, fun _ => ⟨a2, by rw [b2, hG], e_so_dys h7 _, (e_dys_all hH hS ed _ (by omega)).1⟩, fun h => absurd rfl h⟩
      · rw [eL, if_neg (by decide), if_neg (by decide), if_neg (by decide), if_neg (by decide), if_neg (by decide), y2]
        unfold fB_liveDays_22 fT_daysLeft_22
        rw [s_b1_s, o8, e400, if_neg (e_F (by omega) (by omega)), a1, s_b2_s, s_b2_s]
        rfl
      · rw [egB, if_neg (show ¬ 400 < Int32.ofNat (d + k) from e_F (a := 400) (by omega) (by omega)), b1, s_b2_s, if_pos rfl]
