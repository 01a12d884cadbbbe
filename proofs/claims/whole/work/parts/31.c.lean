-- ACTS of the class on its trial state, and of the reference
theorem e_putOn_22 {g : s_G} {f : Nat → Int32} {b e : Nat} (hT : e_T22 g f) (hb : b < 7) (he : e < 10) (x : Int32) : ∃ g', fT_putOn_22 (Int32.ofNat e) (Int32.ofNat b) x g = some g' ∧ e_T22 g' (va_up f (63 + 10 * b + e) (f (63 + 10 * b + e) + x)) ∧ e_fx 22 26 g g' := by
  simp (disch := omega) only [fT_putOn_22, e_7, ← Int32.ofNat_mul, ← Int32.ofNat_add, e_ix, s_b1_s]
  rw [show e * 7 + b = 7 * e + b by omega]
  refine ⟨_, rfl, e_TR_on hT hb he x, ?_⟩
  exact (e_fx.si (by omega) (by omega)).tr (e_fx.si (by omega) (by omega))
def e_hsh (f : Nat → Int32) (b : Nat) : Nat → Int32 := va_up (va_up f 48 (f 48 - 1)) 50 (f 50 ||| ((1 : Int32) <<< (Int32.ofNat b &&& 31)))
theorem e_hush_22 {g : s_G} {f : Nat → Int32} {b : Nat} (hT : e_T22 g f) : ∃ g', fT_hush_22 (Int32.ofNat b) g = some g' ∧ e_T22 g' (e_hsh f b) ∧ e_fx 22 26 g g' := by
  unfold fT_hush_22
  rw [hT.1.2.1, hT.1.1]
  refine ⟨_, rfl, e_TR_50 (e_TR_48 hT _) _, ?_⟩
  exact (e_fx.si (by omega) (by omega)).tr (e_fx.si (by omega) (by omega))
theorem e_tellEvent_22 {g : s_G} {f : Nat → Int32} {nb ne b e k : Nat} (hC : e_C3 nb ne g f) (hT : e_T22 g f) (hb : b < 7) (he : e < ne) (hne : ne ≤ 10) (hk : k < 4) (hkd : f (27 + e) = Int32.ofNat k) : ∃ g', fT_tellEvent_22 (Int32.ofNat b) (Int32.ofNat e) g = some (e_why f b e, g') ∧ e_fx 22 26 g g' ∧ (e_why f b e = 0 → e_T22 g' (e_tell f b e k)) ∧ (¬ e_why f b e = 0 → g' = g) := by
  have he10 : e < 10 := by omega
  unfold fT_tellEvent_22
  rw [e_whyNotSpeak_22 hC hT hb he10, s_b1_s]
  by_cases hw : e_why f b e = 0
  · rw [if_pos hw]
    simp (disch := omega) only [e_ix, s_b1_s]
    rw [(hC.2.2.2 e he).2.1, hkd, e_wouldTake_22 hC hT hk, s_b1_s, e_onBoy_22 hT hb he10, s_b1_s]
    obtain ⟨g6, h1, h2, h3⟩ := e_putOn_22 hT hb he10 (-(if f (63 + 10 * b + e) < f (6 + k) + f 48 / 5 then f (63 + 10 * b + e) else f (6 + k) + f 48 / 5))
    rw [h1, s_b1_s, e_ix (by omega) (by omega), s_b1_s]
    rw [h2.2.2.2.1 k hk, e_vn _ _ (by omega)]
    obtain ⟨g7, h4, h5, h6⟩ := e_hush_22 (g := s_si g6 25 k (f (52 + k) + (if f (63 + 10 * b + e) < f (6 + k) + f 48 / 5 then f (63 + 10 * b + e) else f (6 + k) + f 48 / 5))) (b := b) (e_TR_ah h2 hk _)
    rw [h4, s_b1_s]
    refine ⟨g7, rfl, (h3.tr (e_fx.si (by omega) (by omega))).tr h6, fun _ => ?_, fun h => absurd hw h⟩
    have e1 : e_hsh (va_up (va_up f (63 + 10 * b + e) (f (63 + 10 * b + e) + -(if f (63 + 10 * b + e) < f (6 + k) + f 48 / 5 then f (63 + 10 * b + e) else f (6 + k) + f 48 / 5))) (52 + k) (f (52 + k) + (if f (63 + 10 * b + e) < f (6 + k) + f 48 / 5 then f (63 + 10 * b + e) else f (6 + k) + f 48 / 5))) b = e_tell f b e k := by
      unfold e_hsh e_tell e_gn e_tk
      rw [Int32.sub_eq_add_neg (f (63 + 10 * b + e))]
      rw [e_vn _ _ (by omega), e_vn _ _ (by omega), e_vn _ _ (by omega), e_vn _ _ (by omega)]
    rw [e1] at h5
    exact h5
  · rw [if_neg hw]
    exact ⟨g, rfl, e_fx.rf _ _ _, fun h => absurd h hw, fun _ => rfl⟩
-- lies
def e_li (x : Int32) : Int32 := if x < 99 then (if 99 < x + 2 then 99 else x + 2) else x
def e_lie (f : Nat → Int32) (b e : Nat) : Nat → Int32 := e_hsh (va_up (va_up f (63 + 10 * b + e) (e_li (f (63 + 10 * b + e)))) 51 (f 51 + 1)) b
theorem e_li_eq {x : Int32} (h : e_c 99 x) : e_li x = x + (if (99 - x) < 2 then 99 - x else 2) := by
  obtain ⟨k, hk, rfl⟩ := h
  by_cases h1 : k ≤ 97
  · have e1 : (99 : Int32) - Int32.ofNat k = Int32.ofNat (99 - k) := (Int32.ofNat_sub 99 k (by omega)).symm
    have e2 : Int32.ofNat k + 2 = Int32.ofNat (k + 2) := by rw [Int32.ofNat_add]; rfl
    unfold e_li
    rw [e1, if_pos (show Int32.ofNat k < 99 from e_T (b := 99) (by omega) (by omega)), e2, if_neg (show ¬ (99 : Int32) < Int32.ofNat (k + 2) from e_F (a := 99) (by omega) (by omega)), if_neg (show ¬ Int32.ofNat (99 - k) < 2 from e_F (b := 2) (by omega) (by omega)), e2]
  · have : k = 98 ∨ k = 99 := by omega
    rcases this with rfl | rfl <;> decide
theorem e_li_c {x : Int32} (h : e_c 99 x) : e_c 99 (e_li x) := by
  obtain ⟨k, hk, rfl⟩ := h
  by_cases h1 : k ≤ 97
  · have e2 : Int32.ofNat k + 2 = Int32.ofNat (k + 2) := by rw [Int32.ofNat_add]; rfl
    unfold e_li
    rw [if_pos (show Int32.ofNat k < 99 from e_T (b := 99) (by omega) (by omega)), e2, if_neg (show ¬ (99 : Int32) < Int32.ofNat (k + 2) from e_F (a := 99) (by omega) (by omega))]
    exact ⟨k + 2, by omega, rfl⟩
  · have : k = 98 ∨ k = 99 := by omega
    rcases this with rfl | rfl
    · exact ⟨99, by omega, by decide⟩
    · exact ⟨99, by omega, by decide⟩
theorem e_lieAbout_22 {g : s_G} {f : Nat → Int32} {nb ne b e : Nat} (hC : e_C3 nb ne g f) (hT : e_T22 g f) (hS : e_SW nb ne f) (hb : b < 7) (he : e < 10) : ∃ g', fT_lieAbout_22 (Int32.ofNat b) (Int32.ofNat e) g = some (e_why f b e, g') ∧ e_fx 22 26 g g' ∧ (e_why f b e = 0 → e_T22 g' (e_lie f b e)) ∧ (¬ e_why f b e = 0 → g' = g) := by
  unfold fT_lieAbout_22
  rw [e_whyNotSpeak_22 hC hT hb he, s_b1_s]
  by_cases hw : e_why f b e = 0
  · rw [if_pos hw]
    rw [e_onBoy_22 hT hb he, s_b1_s]
    obtain ⟨g6, h1, h2, h3⟩ := e_putOn_22 hT hb he (if (99 - f (63 + 10 * b + e)) < 2 then 99 - f (63 + 10 * b + e) else 2)
    rw [h1, s_b1_s, h2.1.2.2.2.2, e_vn _ _ (by omega)]
    obtain ⟨g7, h4, h5, h6⟩ := e_hush_22 (g := s_si g6 22 9 (f 51 + 1)) (b := b) (e_TR_51 h2 _)
    rw [h4, s_b1_s]
    refine ⟨g7, rfl, (h3.tr (e_fx.si (by omega) (by omega))).tr h6, fun _ => ?_, fun h => absurd hw h⟩
    unfold e_lie
    rw [e_li_eq (hS.1 b e hb he)]
    exact h5
  · rw [if_neg hw]
    exact ⟨g, rfl, e_fx.rf _ _ _, fun h => absurd h hw, fun _ => rfl⟩
theorem e_up_id (f : Nat → Int32) (k : Nat) : va_up f k (f k) = f := by
  funext j
  by_cases h : j = k
  · rw [h, e_ve]
  · rw [e_vn _ _ h]
theorem e_live1 {g : s_G} {b e : Nat} {x y : Int32} (hb : b < 7) (he : e < 10) : ∃ g', fM_live_130 1 (Int32.ofNat b) (Int32.ofNat e) x y g = some g' ∧ g'.1 132 = e_lie (g.1 132) b e ∧ e_fx 132 132 g g' := by
  unfold fM_live_130
  rw [if_neg (by decide), if_pos rfl, e_onOf hb he, s_b1_s, s_b1_s, e_least, s_b1_s]
  simp (disch := omega) only [e_63, e_10, ← Int32.ofNat_mul, ← Int32.ofNat_add, e_ix, s_b1_s]
  unfold fM_live_130_77 fM_speaks_130
  split
  · rename_i h
    rw [s_b1_s]
    refine ⟨_, rfl, ?_, ?_⟩
    · unfold e_lie e_hsh e_li
      rw [if_pos h]
      simp (disch := omega) only [s_si, s_up_s, e_vn]
    · exact ⟨fun a ha => by simp (disch := omega) only [s_si, e_ua], rfl⟩
  · rename_i h
    rw [s_b1_s]
    refine ⟨_, rfl, ?_, ?_⟩
    · unfold e_lie e_hsh e_li
      rw [if_neg h, e_up_id]
      simp (disch := omega) only [s_si, s_up_s, e_vn]
    · exact ⟨fun a ha => by simp (disch := omega) only [s_si, e_ua], rfl⟩
-- gifts
def e_give (f : Nat → Int32) (b e c : Nat) (n : Int32) : Nat → Int32 := va_up (va_up f (63 + 10 * b + e) (f (63 + 10 * b + e) - n)) (63 + 10 * c + e) (f (63 + 10 * c + e) + n)
def e_why2 (f : Nat → Int32) (b e c : Nat) (n : Int32) : Int32 := if Int32.ofNat b = Int32.ofNat c then 1 else if f (63 + 10 * b + e) < n then 2 else if f (10 + c) < e_ld f c + n then 3 else 0
theorem e_giveSome_22 {g : s_G} {f : Nat → Int32} {nb ne b e c : Nat} {n : Int32} (hC : e_C3 nb ne g f) (hT : e_T22 g f) (hb : b < 7) (hc : c < nb) (hn : nb ≤ 7) (he : e < 10) : ∃ g', fT_giveSome_22 (Int32.ofNat b) (Int32.ofNat e) (Int32.ofNat c) n g = some (e_why2 f b e c n, g') ∧ e_fx 22 26 g g' ∧ (e_why2 f b e c n = 0 → e_T22 g' (e_give f b e c n)) ∧ (¬ e_why2 f b e c n = 0 → g' = g) := by
  unfold fT_giveSome_22 e_why2
  split
  · exact ⟨g, rfl, e_fx.rf _ _ _, fun h => absurd h (by decide), fun _ => rfl⟩
  · rename_i hbc
    rw [e_onBoy_22 hT hb he, s_b1_s]
    split
    · exact ⟨g, rfl, e_fx.rf _ _ _, fun h => absurd h (by decide), fun _ => rfl⟩
    · simp (disch := omega) only [e_ix, s_b1_s]
      rw [hC.2.2.1 c hc, hT.2.2.1 c (by omega)]
      split
      · exact ⟨g, rfl, e_fx.rf _ _ _, fun h => absurd h (by decide), fun _ => rfl⟩
      · obtain ⟨g6, h1, h2, h3⟩ := e_putOn_22 hT hb he (-n)
        obtain ⟨g7, h4, h5, h6⟩ := e_putOn_22 h2 (show c < 7 by omega) he n
        rw [h1, s_b1_s, h4, s_b1_s]
        refine ⟨g7, rfl, h3.tr h6, fun _ => ?_, fun h => absurd rfl h⟩
        unfold e_give
        have hne : ¬ b = c := fun h => hbc (by rw [h])
        rw [e_vn f _ (show 63 + 10 * c + e ≠ 63 + 10 * b + e by omega)] at h5
        rw [Int32.sub_eq_add_neg]
        exact h5
theorem e_live2 {g : s_G} {b e c : Nat} {n : Int32} (hb : b < 7) (hc : c < 7) (he : e < 10) (hne : ¬ b = c) : ∃ g', fM_live_130 2 (Int32.ofNat b) (Int32.ofNat e) (Int32.ofNat c) n g = some g' ∧ g'.1 132 = e_give (g.1 132) b e c n ∧ e_fx 132 132 g g' := by
  unfold fM_live_130
  rw [if_neg (by decide), if_neg (by decide), if_pos rfl]
  simp (disch := omega) only [e_63, e_10, ← Int32.ofNat_mul, ← Int32.ofNat_add, e_ix, s_b1_s]
  refine ⟨_, rfl, ?_, ?_⟩
  · unfold e_give
    simp (disch := omega) only [s_si, s_up_s, e_vn]
  · exact ⟨fun a ha => by simp (disch := omega) only [s_si, e_ua], rfl⟩
theorem e_live0 {g : s_G} {b e k : Nat} {x y : Int32} (hb : b < 7) (he : e < 10) (hk : k < 4) (hkd : g.1 132 (27 + e) = Int32.ofNat k) : ∃ g', fM_live_130 0 (Int32.ofNat b) (Int32.ofNat e) x y g = some g' ∧ g'.1 132 = e_tell (g.1 132) b e k ∧ e_fx 132 132 g g' := by
  unfold fM_live_130
  rw [if_pos rfl]
  obtain ⟨g', h1, h2, h3⟩ := e_doTell hb he hk hkd
  exact ⟨g', by rw [h1, s_b1_s], h2, h3⟩
-- logs
def e_log (f : Nat → Int32) : Nat → Int32 := va_up (va_up f 49 (f 49 - 1)) 48 (if 30 < f 48 + 4 then 30 else f 48 + 4)
def e_why3 (f : Nat → Int32) : Int32 := if f 49 = 0 then 1 else if f 48 = 30 then 2 else 0
theorem e_putLogOn_22 {g : s_G} {f : Nat → Int32} (hT : e_T22 g f) : ∃ g', fT_putLogOn_22 g = some (e_why3 f, g') ∧ e_fx 22 26 g g' ∧ (e_why3 f = 0 → e_T22 g' (e_log f)) ∧ (¬ e_why3 f = 0 → g' = g) := by
  unfold fT_putLogOn_22 e_why3
  rw [hT.1.2.2.1, hT.1.2.1]
  split
  · exact ⟨g, rfl, e_fx.rf _ _ _, fun h => absurd h (by decide), fun _ => rfl⟩
  · split
    · exact ⟨g, rfl, e_fx.rf _ _ _, fun h => absurd h (by decide), fun _ => rfl⟩
    · refine ⟨_, rfl, ?_, fun _ => ?_, fun h => absurd rfl h⟩
      · exact (e_fx.si (by omega) (by omega)).tr (e_fx.si (by omega) (by omega))
      · exact e_TR_48 (e_TR_49 hT _) _
theorem e_live3 {g : s_G} {x y z w : Int32} : ∃ g', fM_live_130 3 x y z w g = some g' ∧ g'.1 132 = e_log (g.1 132) ∧ e_fx 132 132 g g' := by
  unfold fM_live_130
  rw [if_neg (by decide), if_neg (by decide), if_neg (by decide), if_pos rfl, e_least, s_b1_s]
  refine ⟨_, rfl, rfl, ?_⟩
  exact ⟨fun a ha => by simp (disch := omega) only [s_si, e_ua], rfl⟩
-- ashes raked
def e_rk (f : Nat → Int32) : Nat → Int32 := va_up (va_up (va_up (va_up f 52 0) 53 0) 54 0) 55 0
def e_why4 (f : Nat → Int32) : Int32 := if e_su f 52 4 = 0 then 1 else 0
theorem e_fill_25 {g : s_G} : fJ_fill_25 0 g = some (s_si (s_si (s_si (s_si g 25 0 0) 25 1 0) 25 2 0) 25 3 0) := by
  unfold fJ_fill_25
  rw [s_lp_in (y := ((1 : Int32), s_si g 25 0 0)) rfl, s_lp_in (y := ((2 : Int32), s_si (s_si g 25 0 0) 25 1 0)) rfl, s_lp_in (y := ((3 : Int32), s_si (s_si (s_si g 25 0 0) 25 1 0) 25 2 0)) rfl, s_lp_in (y := ((4 : Int32), s_si (s_si (s_si (s_si g 25 0 0) 25 1 0) 25 2 0) 25 3 0)) rfl]
  exact s_lp_out rfl
theorem e_rakeAshes_22 {g : s_G} {f : Nat → Int32} (hT : e_T22 g f) : ∃ g', fT_rakeAshes_22 g = some (e_why4 f, g') ∧ e_fx 22 26 g g' ∧ (e_why4 f = 0 → e_T22 g' (e_rk f)) ∧ (¬ e_why4 f = 0 → g' = g) := by
  have h4 : s_lp (fun (x : Int32 × Int32) => fT_rakeAshes_22_4 x.1 x.2 g) (0, 0) = s_lp (fun (x : Int32 × Int32) => fT_rakeAshes_22_4 x.1 x.2 g) (e_su (g.1 25) 0 4, Int32.ofNat 4) := by
    refine e_seq (fun k => (e_su (g.1 25) 0 k, Int32.ofNat k)) 4 ?_
    intro k hk
    simp (disch := omega) only [fT_rakeAshes_22_4, e_4, e_lt, hk, ↓reduceIte, e_ix, s_b1_s, e_inc]
    rw [e_su, Nat.zero_add]
  have hs : e_su (g.1 25) 0 4 = e_su f 52 4 := e_su_eq 4 (fun k hk => by rw [Nat.zero_add]; exact hT.2.2.2.1 k hk)
  unfold fT_rakeAshes_22 e_why4
  rw [h4, hs]
  by_cases h0 : e_su f 52 4 = 0
  · rw [if_pos h0]
    refine ⟨g, s_lp_out ?_, e_fx.rf _ _ _, fun h => absurd h (by decide), fun _ => rfl⟩
    dsimp only
    unfold fT_rakeAshes_22_4
    rw [if_neg (by decide), if_pos h0]
    rfl
  · rw [if_neg h0]
    refine ⟨s_si (s_si (s_si (s_si g 25 0 0) 25 1 0) 25 2 0) 25 3 0, s_lp_out ?_, ?_, fun _ => ?_, fun h => absurd rfl h⟩
    · dsimp only
      unfold fT_rakeAshes_22_4
      rw [if_neg (by decide), if_neg h0, e_fill_25]
      rfl
    · exact (((e_fx.si (by omega) (by omega)).tr (e_fx.si (by omega) (by omega))).tr (e_fx.si (by omega) (by omega))).tr (e_fx.si (by omega) (by omega))
    · exact e_TR_ah (k := 3) (e_TR_ah (k := 2) (e_TR_ah (k := 1) (e_TR_ah (k := 0) hT (by omega) 0) (by omega) 0) (by omega) 0) (by omega) 0
theorem e_live4 {g : s_G} {x y z w : Int32} : ∃ g', fM_live_130 4 x y z w g = some g' ∧ g'.1 132 = e_rk (g.1 132) ∧ e_fx 132 132 g g' := by
  refine ⟨s_si (s_si (s_si (s_si g 132 52 0) 132 53 0) 132 54 0) 132 55 0, ?_, rfl, ?_⟩
  · unfold fM_live_130
    rw [if_neg (by decide), if_neg (by decide), if_neg (by decide), if_neg (by decide)]
    rw [s_lp_in (y := ((1 : Int32), s_si g 132 52 0)) rfl, s_lp_in (y := ((2 : Int32), s_si (s_si g 132 52 0) 132 53 0)) rfl, s_lp_in (y := ((3 : Int32), s_si (s_si (s_si g 132 52 0) 132 53 0) 132 54 0)) rfl, s_lp_in (y := ((4 : Int32), s_si (s_si (s_si (s_si g 132 52 0) 132 53 0) 132 54 0) 132 55 0)) rfl]
    exact s_lp_out rfl
  · exact ⟨fun a ha => by simp (disch := omega) only [s_si, e_ua], rfl⟩
