-- DAYS
theorem e_up_cm {f : Nat → Int32} {j k : Nat} {v w : Int32} (h : j ≠ k) : va_up (va_up f j v) k w = va_up (va_up f k w) j v := by
  funext i
  by_cases h1 : i = k
  · subst h1; rw [e_ve, e_vn _ _ (Ne.symm h), e_ve]
  · rw [e_vn _ _ h1]
    by_cases h2 : i = j
    · subst h2; rw [e_ve, e_ve]
    · rw [e_vn _ _ h2, e_vn _ _ h2, e_vn _ _ h1]
/-- who is over weeps: the first n -/
noncomputable def e_wp (f : Nat → Int32) : Nat → Nat → Int32
  | 0 => f
  | n + 1 => if e_bi (e_ov f n) = 0 then e_wp f n else va_up (e_wp f n) (56 + n) (e_wp f n (56 + n) + 1)
theorem e_wp_o {f : Nat → Int32} {j : Nat} : ∀ n, (j < 56 ∨ 56 + n ≤ j) → e_wp f n j = f j := by
  intro n
  induction n with
  | zero => intro _; rfl
  | succ n ih =>
    intro h
    unfold e_wp
    split
    · exact ih (by omega)
    · rw [e_vn _ _ (by omega)]; exact ih (by omega)
theorem e_wp_ov {f : Nat → Int32} {b n : Nat} (hb : b < 7) (hn : n ≤ 7) : e_ov (e_wp f n) b ↔ e_ov f b := by
  unfold e_ov e_ld
  rw [e_wp_o n (by omega), e_su_eq (g := f) (b := 63 + 10 * b) 10 (fun k hk => e_wp_o n (by omega))]
def e_ht (f : Nat → Int32) : Int32 := if 30 < f 48 / 2 + f 4 then 30 else f 48 / 2 + f 4
noncomputable def e_day (f : Nat → Int32) (nb : Nat) : Nat → Int32 := va_up (va_up (va_up (e_wp f nb) 48 (e_ht f)) 50 0) 47 (f 47 + 1)
noncomputable def e_dys (f : Nat → Int32) (nb : Nat) : Nat → Nat → Int32
  | 0 => f
  | n + 1 => e_day (e_dys f nb n) nb
theorem e_oneDay {g : s_G} {nb : Nat} (hn : nb ≤ 7) (h0 : g.1 132 0 = Int32.ofNat nb) : ∃ g', fM_oneDay_130 g = some g' ∧ g'.1 132 = e_day (g.1 132) nb ∧ e_fx 132 132 g g' := by
  unfold fM_oneDay_130
  obtain ⟨y, ⟨h1, h2, h3⟩, h4⟩ := e_lpN (B := fun (x : Int32 × s_G) => fM_oneDay_130_2 x.1 x.2) (fun k (x : Int32 × s_G) => x.1 = Int32.ofNat k ∧ x.2.1 132 = e_wp (g.1 132) k ∧ e_fx 132 132 g x.2) nb (x := (0, g)) (by
    intro k x hk hx
    obtain ⟨x1, x2⟩ := x
    obtain ⟨h1, h2, h3⟩ := hx
    dsimp only at h1 h2 h3
    subst h1
    have e0 : x2.1 132 0 = Int32.ofNat nb := by rw [h2, e_wp_o k (by omega), h0]
    unfold fM_oneDay_130_2
    rw [e0, if_pos (e_T hk (by omega)), e_isOver (by omega), s_b1_s, h2, e_bi_c (e_wp_ov (f := g.1 132) (b := k) (n := k) (by omega) (by omega))]
    simp (disch := omega) only [e_56, ← Int32.ofNat_add, e_ix, s_b1_s, e_inc]
    by_cases ho : e_bi (e_ov (g.1 132) k) = 0
    · rw [if_pos ho]
      refine ⟨_, rfl, rfl, ?_, h3⟩
      unfold e_wp
      rw [if_pos ho]
      exact h2
    · rw [if_neg ho]
      refine ⟨_, rfl, rfl, ?_, h3.tr (e_fx.si (by omega) (by omega))⟩
      show va_up (x2.1 132) (56 + k) _ = e_wp (g.1 132) (k + 1)
      rw [h2]
      conv => rhs; unfold e_wp
      rw [if_neg ho]) ⟨rfl, rfl, e_fx.rf _ _ _⟩
  rw [h4]
  obtain ⟨y1, y2⟩ := y
  dsimp only at h1 h2 h3
  subst h1
  have e0 : y2.1 132 0 = Int32.ofNat nb := by rw [h2, e_wp_o nb (by omega), h0]
  refine ⟨s_si (s_si (s_si y2 132 48 (e_ht (g.1 132))) 132 50 0) 132 47 (g.1 132 47 + 1), ?_, ?_, ?_⟩
  · apply s_lp_out
    dsimp only
    unfold fM_oneDay_130_2
    rw [e0, if_neg (e_F (Nat.le_refl nb) (by omega)), e_least, s_b1_s, h2, e_wp_o nb (by omega), e_wp_o nb (by omega), e_wp_o nb (by omega)]
    rfl
  · show va_up (va_up (va_up (y2.1 132) 48 _) 50 0) 47 _ = _
    rw [h2]
    rfl
  · exact ((h3.tr (e_fx.si (by omega) (by omega))).tr (e_fx.si (by omega) (by omega))).tr (e_fx.si (by omega) (by omega))
theorem e_C3_cg {nb ne : Nat} {g g' : s_G} {f f' : Nat → Int32} (hn : nb ≤ 7) (hm : ne ≤ 10) (h : e_C3 nb ne g f) (hg : ∀ a, a < 10 → g'.1 a = g.1 a) (hf : ∀ k, k < 47 → f' k = f k) : e_C3 nb ne g' f' := by
  unfold e_C3
  rw [hg 3 (by omega), hg 5 (by omega), hg 6 (by omega), hg 7 (by omega), hg 8 (by omega), hg 9 (by omega)]
  exact e_CR_cg hn hm h hf
theorem e_passDay_22 {g : s_G} {f : Nat → Int32} {nb ne : Nat} (hC : e_C3 nb ne g f) (hH : e_HW nb ne f) (hT : e_T22 g f) : ∃ g', fT_passDay_22 g = some g' ∧ e_T22 g' (e_day f nb) ∧ e_fx 22 26 g g' := by
  have hn := hH.1.1
  have hm := hH.2.1.1
  unfold fT_passDay_22
  obtain ⟨y, ⟨h1, h2, h3⟩, h4⟩ := e_lpN (B := fun (x : Int32 × s_G) => fT_passDay_22_2 x.1 x.2) (fun k (x : Int32 × s_G) => x.1 = Int32.ofNat k ∧ e_T22 x.2 (e_wp f k) ∧ e_fx 22 26 g x.2) nb (x := (0, g)) (by
    intro k x hk hx
    obtain ⟨x1, x2⟩ := x
    obtain ⟨h1, h2, h3⟩ := hx
    dsimp only at h1 h2 h3
    subst h1
    have hC2 : e_C3 nb ne x2 (e_wp f k) := e_C3_cg hn hm hC (fun a ha => h3.1 a (by omega)) (fun j hj => e_wp_o k (by omega))
    have hH2 : e_HW nb ne (e_wp f k) := e_HW_cg hH (fun j hj => e_wp_o k (by omega))
    have e0 : x2.1 3 0 = Int32.ofNat nb := by rw [hC2.1.1, hH2.1.2]
    unfold fT_passDay_22_2
    rw [e0, if_pos (e_T hk (by omega)), e_isOver_22 hC2 hH2 h2 hk, s_b1_s, e_bi_c (e_wp_ov (f := f) (b := k) (n := k) (by omega) (by omega))]
    simp (disch := omega) only [e_ix, s_b1_s, e_inc]
    by_cases ho : e_bi (e_ov f k) = 0
    · rw [if_pos ho]
      refine ⟨_, rfl, rfl, ?_, h3⟩
      unfold e_wp
      rw [if_pos ho]
      exact h2
    · rw [if_neg ho]
      refine ⟨_, rfl, rfl, ?_, h3.tr (e_fx.si (by omega) (by omega))⟩
      unfold e_wp
      rw [if_neg ho]
      have := e_TR_wp h2 (show k < 7 by omega) (e_wp f k (56 + k) + 1)
      rw [h2.2.2.2.2 k (by omega)]
      exact this) ⟨rfl, hT, e_fx.rf _ _ _⟩
  rw [h4]
  obtain ⟨y1, y2⟩ := y
  dsimp only at h1 h2 h3
  subst h1
  have hC2 : e_C3 nb ne y2 (e_wp f nb) := e_C3_cg hn hm hC (fun a ha => h3.1 a (by omega)) (fun j hj => e_wp_o nb (by omega))
  have e0 : y2.1 3 0 = Int32.ofNat nb := by rw [hC2.1.1, e_wp_o nb (by omega), hH.1.2]
  refine ⟨s_si (s_si (s_si y2 22 6 (e_ht f)) 22 8 (f 47 + 1)) 22 5 0, ?_, ?_, ?_⟩
  · apply s_lp_out
    dsimp only
    unfold fT_passDay_22_2
    rw [e0, if_neg (e_F (Nat.le_refl nb) (by omega)), h2.1.2.1, hC2.1.2.2.2.2.1, h2.1.2.2.2.1, e_wp_o nb (by omega), e_wp_o nb (by omega), e_wp_o nb (by omega)]
    rfl
  · unfold e_day
    rw [e_up_cm (j := 50) (k := 47) (by omega)]
    exact e_TR_50 (e_TR_47 (e_TR_48 h2 _) _) _
  · exact ((h3.tr (e_fx.si (by omega) (by omega))).tr (e_fx.si (by omega) (by omega))).tr (e_fx.si (by omega) (by omega))
theorem e_day_hd {f : Nat → Int32} {nb j : Nat} (hj : j < 47) : e_day f nb j = f j := by
  unfold e_day
  rw [e_vn _ _ (by omega), e_vn _ _ (by omega), e_vn _ _ (by omega)]
  exact e_wp_o nb (by omega)
theorem e_dys_hd {f : Nat → Int32} {nb j : Nat} (hj : j < 47) : ∀ n, e_dys f nb n j = f j := by
  intro n
  induction n with
  | zero => rfl
  | succ n ih => unfold e_dys; rw [e_day_hd hj, ih]
theorem e_ht_c {nb ne : Nat} {f : Nat → Int32} (hH : e_HW nb ne f) (hS : e_SW nb ne f) : e_c 30 (e_ht f) := by
  obtain ⟨a, ha, ea⟩ := hS.2.2.2.1
  obtain ⟨t, ht, et⟩ := hH.2.2.1.2.2.1
  unfold e_ht
  rw [ea, et]
  have e1 : Int32.ofNat a / 2 + Int32.ofNat t = Int32.ofNat (a / 2 + t) := by
    rw [Int32.ofNat_add, Int32.ofNat_div (by omega) (by omega)]
    rfl
  rw [e1]
  by_cases h : 30 < a / 2 + t
  · rw [if_pos (show (30 : Int32) < Int32.ofNat (a / 2 + t) from e_T (a := 30) (by omega) (by omega))]
    exact ⟨30, by omega, rfl⟩
  · rw [if_neg (show ¬ (30 : Int32) < Int32.ofNat (a / 2 + t) from e_F (a := 30) (by omega) (by omega))]
    exact ⟨a / 2 + t, by omega, rfl⟩
theorem e_wp_SW {nb ne n : Nat} {f : Nat → Int32} (hS : e_SW nb ne f) (hn : n ≤ 7) : e_SW nb ne (e_wp f n) := by
  obtain ⟨h1, h2, h3, h4, h5⟩ := hS
  refine ⟨?_, ?_, ?_, ?_, ?_⟩
  · intro b e hb he; rw [e_wp_o n (by omega)]; exact h1 b e hb he
  · intro b e hb he hq; rw [e_wp_o n (by omega)]; exact h2 b e hb he hq
  · rw [e_wp_o n (by omega)]; exact h3
  · rw [e_wp_o n (by omega)]; exact h4
  · rw [e_wp_o n (by omega)]; exact h5
theorem e_day_SW {nb ne : Nat} {f : Nat → Int32} (hH : e_HW nb ne f) (hS : e_SW nb ne f) (hd : ∃ d, d < 400 ∧ f 47 = Int32.ofNat d) : e_SW nb ne (e_day f nb) := by
  obtain ⟨d, hd, ed⟩ := hd
  unfold e_day
  refine e_SW_up (e_SW_up (e_SW_up (e_wp_SW hS hH.1.1) (by omega) ⟨fun h => absurd h (by omega), fun _ => e_ht_c hH hS, fun h => absurd h (by omega)⟩) (by omega) ⟨fun h => absurd h (by omega), fun h => absurd h (by omega), fun h => absurd h (by omega)⟩) (by omega) ⟨fun _ => ?_, fun h => absurd h (by omega), fun h => absurd h (by omega)⟩
  exact ⟨d + 1, by omega, by rw [ed, e_inc]⟩
theorem e_day_47 (f : Nat → Int32) (nb : Nat) : e_day f nb 47 = f 47 + 1 := by unfold e_day; rw [e_ve]
theorem e_dys_all {nb ne : Nat} {f : Nat → Int32} (hH : e_HW nb ne f) (hS : e_SW nb ne f) {d : Nat} (ed : f 47 = Int32.ofNat d) : ∀ n, d + n ≤ 400 → e_SW nb ne (e_dys f nb n) ∧ e_dys f nb n 47 = Int32.ofNat (d + n) := by
  intro n
  induction n with
  | zero => intro _; exact ⟨hS, ed⟩
  | succ n ih =>
    intro h
    obtain ⟨h1, h2⟩ := ih (by omega)
    refine ⟨?_, ?_⟩
    · exact e_day_SW (e_HW_cg hH (fun j hj => e_dys_hd hj n)) h1 ⟨d + n, by omega, h2⟩
    · show e_day (e_dys f nb n) nb 47 = _
      rw [e_day_47, h2, e_inc]
      rfl
theorem e_passDays_130 {g : s_G} {nb n d : Nat} (hn : nb ≤ 7) (h0 : g.1 132 0 = Int32.ofNat nb) (hd : g.1 132 47 = Int32.ofNat d) (hd4 : d ≤ 400) (hN : n ≤ 1000) : ∃ g', fM_passDays_130 (Int32.ofNat n) g = some (Int32.ofNat (min n (400 - d)), g') ∧ g'.1 132 = e_dys (g.1 132) nb (min n (400 - d)) ∧ e_fx 132 132 g g' := by
  unfold fM_passDays_130
  have e1 : (400 : Int32) - Int32.ofNat d = Int32.ofNat (400 - d) := (Int32.ofNat_sub 400 d hd4).symm
  have e2 : (if Int32.ofNat n < Int32.ofNat (400 - d) then Int32.ofNat n else Int32.ofNat (400 - d)) = Int32.ofNat (min n (400 - d)) := by
    by_cases h : n < 400 - d
    · rw [if_pos (e_T h (by omega)), Nat.min_eq_left (by omega)]
    · rw [if_neg (e_F (by omega) (by omega)), Nat.min_eq_right (by omega)]
  rw [hd, e1, e_least, s_b1_s, e2]
  generalize hm : min n (400 - d) = m
  have hm4 : m ≤ 400 := by omega
  obtain ⟨y, ⟨h1, h2, h3⟩, h4⟩ := e_lpN (B := fun (x : Int32 × s_G) => fM_passDays_130_18 (Int32.ofNat m) x.1 x.2) (fun k (x : Int32 × s_G) => x.1 = Int32.ofNat k ∧ x.2.1 132 = e_dys (g.1 132) nb k ∧ e_fx 132 132 g x.2) m (x := (0, g)) (by
    intro k x hk hx
    obtain ⟨x1, x2⟩ := x
    obtain ⟨h1, h2, h3⟩ := hx
    dsimp only at h1 h2 h3
    subst h1
    obtain ⟨g2, h5, h6, h7⟩ := e_oneDay (g := x2) hn (by rw [h2, e_dys_hd (by omega), h0])
    refine ⟨(Int32.ofNat (k + 1), g2), ?_, rfl, ?_, h3.tr h7⟩
    · unfold fM_passDays_130_18
      rw [if_pos (e_T hk (by omega)), h5, s_b1_s, e_inc]
    · dsimp only
      rw [h6, h2]
      rfl) ⟨rfl, rfl, e_fx.rf _ _ _⟩
  obtain ⟨y1, y2⟩ := y
  dsimp only at h1 h2 h3
  subst h1
  refine ⟨y2, ?_, h2, h3⟩
  rw [h4]
  apply s_lp_out
  dsimp only
  unfold fM_passDays_130_18
  rw [if_neg (e_F (Nat.le_refl m) (by omega))]
  rfl
theorem e_passDays_22 {g : s_G} {f : Nat → Int32} {nb ne n d : Nat} (hC : e_C3 nb ne g f) (hH : e_HW nb ne f) (hT : e_T22 g f) (hd : f 47 = Int32.ofNat d) (hd4 : d ≤ 400) (hN : n ≤ 1000) : ∃ g', fT_passDays_22 (Int32.ofNat n) g = some (Int32.ofNat (min n (400 - d)), g') ∧ e_T22 g' (e_dys f nb (min n (400 - d))) ∧ e_fx 22 26 g g' := by
  unfold fT_passDays_22 fT_daysLeft_22
  have e1 : (400 : Int32) - Int32.ofNat d = Int32.ofNat (400 - d) := (Int32.ofNat_sub 400 d hd4).symm
  have e2 : (if Int32.ofNat (400 - d) < Int32.ofNat n then Int32.ofNat (400 - d) else Int32.ofNat n) = Int32.ofNat (min n (400 - d)) := by
    by_cases h : 400 - d < n
    · rw [if_pos (e_T h (by omega)), Nat.min_eq_right (by omega)]
    · rw [if_neg (e_F (by omega) (by omega)), Nat.min_eq_left (by omega)]
  rw [hT.1.2.2.2.1, hd, e1, s_b1_s, e2]
  generalize hm : min n (400 - d) = m
  have hm4 : m ≤ 400 := by omega
  have hn := hH.1.1
  have hmm := hH.2.1.1
  obtain ⟨y, ⟨h1, h2, h3⟩, h4⟩ := e_lpN (B := fun (x : Int32 × s_G) => fT_passDays_22_11 (Int32.ofNat m) x.1 x.2) (fun k (x : Int32 × s_G) => x.1 = Int32.ofNat k ∧ e_T22 x.2 (e_dys f nb k) ∧ e_fx 22 26 g x.2) m (x := (0, g)) (by
    intro k x hk hx
    obtain ⟨x1, x2⟩ := x
    obtain ⟨h1, h2, h3⟩ := hx
    dsimp only at h1 h2 h3
    subst h1
    obtain ⟨g2, h5, h6, h7⟩ := e_passDay_22 (g := x2) (e_C3_cg hn hmm hC (fun a ha => h3.1 a (by omega)) (fun j hj => e_dys_hd hj k)) (e_HW_cg hH (fun j hj => e_dys_hd hj k)) h2
    refine ⟨(Int32.ofNat (k + 1), g2), ?_, rfl, h6, h3.tr h7⟩
    unfold fT_passDays_22_11
    rw [if_pos (e_T hk (by omega)), h5, s_b1_s, e_inc]) ⟨rfl, hT, e_fx.rf _ _ _⟩
  obtain ⟨y1, y2⟩ := y
  dsimp only at h1 h2 h3
  subst h1
  refine ⟨y2, ?_, h2, h3⟩
  rw [h4]
  apply s_lp_out
  dsimp only
  unfold fT_passDays_22_11
  rw [if_neg (e_F (Nat.le_refl m) (by omega))]
  rfl
