-- UNDO
def e_bkS (p n : Nat) (g : s_G) : s_G := s_si (s_si g 43 1 (Int32.ofNat (n - 1))) 43 2 (Int32.ofNat ((p + 7) % 8))
theorem e_back_eq {g : s_G} {n p : Nat} (hn0 : 0 < n) (hn : n ≤ 8) (hp : p < 8) (h1 : g.1 43 1 = Int32.ofNat n) (h2 : g.1 43 2 = Int32.ofNat p) : fH_takeBack_43_17 g = some (Int32.ofNat (n - 1), e_cpA 17 (45 + 5 * ((p + 7) % 8)) (e_bkS p n g)) := by
  have e0 : ¬ g.1 43 1 = 0 := by rw [h1]; intro h; exact absurd (e_in (b := 0) (by omega) (by omega) h) (by omega)
  have hz : ∀ s, (e_cpA 17 s (e_bkS p n g)).1 43 1 = Int32.ofNat (n - 1) := by
    intro s
    rw [(e_cpA_fx 17 s _).1 43 (by omega)]
    unfold e_bkS
    rw [e_sS, e_vn _ _ (by omega), e_sS, e_ve]
  unfold fH_takeBack_43_17
  rw [if_neg e0, h1, h2, e_dec hn0]
  rcases e_p8 hp with rfl | rfl | rfl | rfl | rfl | rfl | rfl | rfl
  · rw [if_neg (by decide), if_neg (by decide), if_neg (by decide), if_neg (by decide), if_neg (by decide), if_neg (by decide), if_neg (by decide), if_pos (by decide)]
    show some ((e_cpA 17 80 (e_bkS 0 n g)).1 43 1, _) = _
    rw [hz]; rfl
  · rw [if_pos (by decide)]
    show some ((e_cpA 17 45 (e_bkS 1 n g)).1 43 1, _) = _
    rw [hz]; rfl
  · rw [if_neg (by decide), if_pos (by decide)]
    show some ((e_cpA 17 50 (e_bkS 2 n g)).1 43 1, _) = _
    rw [hz]; rfl
  · rw [if_neg (by decide), if_neg (by decide), if_pos (by decide)]
    show some ((e_cpA 17 55 (e_bkS 3 n g)).1 43 1, _) = _
    rw [hz]; rfl
  · rw [if_neg (by decide), if_neg (by decide), if_neg (by decide), if_pos (by decide)]
    show some ((e_cpA 17 60 (e_bkS 4 n g)).1 43 1, _) = _
    rw [hz]; rfl
  · rw [if_neg (by decide), if_neg (by decide), if_neg (by decide), if_neg (by decide), if_pos (by decide)]
    show some ((e_cpA 17 65 (e_bkS 5 n g)).1 43 1, _) = _
    rw [hz]; rfl
  · rw [if_neg (by decide), if_neg (by decide), if_neg (by decide), if_neg (by decide), if_neg (by decide), if_pos (by decide)]
    show some ((e_cpA 17 70 (e_bkS 6 n g)).1 43 1, _) = _
    rw [hz]; rfl
  · rw [if_neg (by decide), if_neg (by decide), if_neg (by decide), if_neg (by decide), if_neg (by decide), if_neg (by decide), if_pos (by decide)]
    show some ((e_cpA 17 75 (e_bkS 7 n g)).1 43 1, _) = _
    rw [hz]; rfl
theorem e_undo_0 {g : s_G} {n p : Nat} {hs : Nat → Nat → Int32} (h : e_HC n p hs g) (hn0 : 0 < n) : ∃ g', fC_undo_0 g = some (Int32.ofNat (n - 1), g') ∧ e_T17 g' (hs (n - 1)) ∧ e_HC (n - 1) ((p + 7) % 8) hs g' ∧ e_fr (fun a => a < 17 ∨ 21 < a ∧ a < 43 ∨ 43 < a) g g' := by
  obtain ⟨⟨hn, hp⟩, ⟨h1, h2⟩, h3⟩ := h
  have hc : ∀ a, ¬ a = 43 → (e_bkS p n g).1 a = g.1 a := by
    intro a ha
    unfold e_bkS
    rw [e_sN ha, e_sN ha]
  have hf := e_cpA_fx 17 (45 + 5 * ((p + 7) % 8)) (e_bkS p n g)
  refine ⟨e_cpA 17 (45 + 5 * ((p + 7) % 8)) (e_bkS p n g), ?_, ?_, ⟨⟨by omega, by omega⟩, ⟨?_, ?_⟩, ?_⟩, ?_⟩
  · unfold fC_undo_0
    rw [e_back_eq hn0 hn hp h1 h2, s_b2_s]
  · refine e_cpA_TA (d := 17) (by omega) ?_
    have := h3 (n - 1) (by omega)
    rw [show (p + 8 - n + (n - 1)) % 8 = (p + 7) % 8 by omega] at this
    exact e_TA_cg this (fun b hb1 hb2 => hc b (by omega)) (fun _ _ _ => rfl)
  · rw [hf.1 43 (by omega)]
    unfold e_bkS
    rw [e_sS, e_vn _ _ (by omega), e_sS, e_ve]
  · rw [hf.1 43 (by omega)]
    unfold e_bkS
    rw [e_sS, e_ve]
  · intro j hj
    rw [show ((p + 7) % 8 + 8 - (n - 1) + j) % 8 = (p + 8 - n + j) % 8 by omega]
    refine e_TA_cg (h3 j (by omega)) (fun b hb1 hb2 => ?_) (fun _ _ _ => rfl)
    rw [hf.1 b (by omega), hc b (by omega)]
  · refine ⟨fun a ha => ?_, rfl⟩
    rw [hf.1 a (by omega), hc a (by omega)]
/-- some numbers of a row, taken from another -/
def e_mx (f h : Nat → Int32) : Nat → Int32 := fun k => if 47 ≤ k ∧ k < 133 then h k else f k
theorem e_mx_hd {f h : Nat → Int32} {k : Nat} (hk : k < 47) : e_mx f h k = f k := by unfold e_mx; rw [if_neg (by omega)]
theorem e_mx_so {f h : Nat → Int32} {k : Nat} (h1 : 47 ≤ k) (h2 : k < 133) : e_mx f h k = h k := by unfold e_mx; rw [if_pos ⟨h1, h2⟩]
theorem e_mx_se {f h : Nat → Int32} {k : Nat} (h1 : 133 ≤ k) : e_mx f h k = f k := by unfold e_mx; rw [if_neg (by omega)]
theorem e_undo_130 {g : s_G} {n : Nat} {hs : Nat → Nat → Int32} (hn0 : 0 < n) (hn : n ≤ 8) (h : e_HM n hs g) : ∃ g', fM_undo_130 g = some (Int32.ofNat (n - 1), g') ∧ g'.1 132 = e_mx (g.1 132) (hs (n - 1)) ∧ g'.1 130 = va_up (va_up (g.1 130) 0 0) 25 (Int32.ofNat (n - 1)) ∧ e_fr (fun a => ¬ a = 130 ∧ ¬ a = 132) g g' := by
  obtain ⟨h0, hs0⟩ := h
  have e0 : ¬ g.1 130 25 = 0 := by rw [h0]; intro h; exact absurd (e_in (b := 0) (by omega) (by omega) h) (by omega)
  unfold fM_undo_130
  rw [if_neg e0, h0, e_dec hn0]
  generalize hG : s_si (s_si g 130 0 0) 130 25 (Int32.ofNat (n - 1)) = G
  have g130 : G.1 130 = va_up (va_up (g.1 130) 0 0) 25 (Int32.ofNat (n - 1)) := by
    rw [← hG]
    rw [e_sS, e_sS]
  have gfr : e_fr (fun a => ¬ a = 130) g G := by
    rw [← hG]
    refine ⟨fun a ha => ?_, rfl⟩
    rw [e_sN ha, e_sN ha]
  obtain ⟨y, ⟨h1, h2, h3⟩, h4⟩ := e_lpN (B := fun (x : Int32 × s_G) => fM_undo_130_26 x.1 x.2) (fun k (x : Int32 × s_G) => x.1 = Int32.ofNat k ∧ (∀ j, x.2.1 132 j = if 47 ≤ j ∧ j < 47 + k then hs (n - 1) j else g.1 132 j) ∧ e_fx 132 132 G x.2) 86 (x := (0, G)) (by
    intro k x hk hx
    obtain ⟨x1, x2⟩ := x
    obtain ⟨h1, h2, h3⟩ := hx
    dsimp only at h1 h2 h3
    subst h1
    have e1 : x2.1 130 25 = Int32.ofNat (n - 1) := by rw [h3.1 130 (by omega), g130, e_ve]
    have e2 : x2.1 135 = g.1 135 := by rw [h3.1 135 (by omega), gfr.1 135 (by omega)]
    refine ⟨(Int32.ofNat (k + 1), s_si x2 132 (47 + k) (g.1 135 (86 * (n - 1) + k))), ?_, rfl, ?_, h3.tr (e_fx.si (by omega) (by omega))⟩
    · unfold fM_undo_130_26
      rw [e1]
      simp (disch := omega) only [e_86, e_47, e_lt, hk, ↓reduceIte, ← Int32.ofNat_mul, ← Int32.ofNat_add, e_ix, s_b1_s, e_inc, e2]
    · intro j
      rw [e_sS]
      by_cases h : j = 47 + k
      · subst h; rw [e_ve, hs0 (n - 1) k (by omega) hk, if_pos (by omega)]
      · rw [e_vn _ _ h, h2]
        by_cases hj : 47 ≤ j ∧ j < 47 + k
        · rw [if_pos hj, if_pos (by omega)]
        · rw [if_neg hj, if_neg (by omega)]) ⟨rfl, fun j => by rw [if_neg (by omega), gfr.1 132 (by omega)], e_fx.rf _ _ _⟩
  obtain ⟨y1, y2⟩ := y
  dsimp only at h1 h2 h3
  subst h1
  refine ⟨y2, ?_, ?_, ?_, ?_⟩
  · rw [h4]
    apply s_lp_out
    dsimp only
    unfold fM_undo_130_26
    rw [if_neg (show ¬ Int32.ofNat 86 < 86 by decide), h3.1 130 (by omega), g130, e_ve]
    rfl
  · funext j
    rw [h2]
    unfold e_mx
    rfl
  · rw [h3.1 130 (by omega), g130]
  · refine ⟨fun a ha => ?_, h3.2.trans gfr.2⟩
    rw [h3.1 a (by omega), gfr.1 a ha.1]
-- is there such a one
theorem e_m1 {n : Nat} {x : Int32} (hn : n < 1000000) : (Int32.ofNat n - 1 < x) ↔ ¬ x < Int32.ofNat n := by
  cases n with
  | zero =>
    rw [show Int32.ofNat 0 - 1 = -1 from rfl, Int32.lt_iff_toInt_lt, Int32.lt_iff_toInt_lt]
    show (-1 : Int) < x.toInt ↔ ¬ x.toInt < 0
    omega
  | succ n =>
    rw [e_dec (by omega), Int32.lt_iff_toInt_lt, Int32.lt_iff_toInt_lt, Int32.toInt_ofNat_of_lt (by omega), Int32.toInt_ofNat_of_lt (by omega)]
    omega
/-- in 0 .. n-1 -/
def e_hs (n : Nat) (x : Int32) : Prop := ¬ x < 0 ∧ x < Int32.ofNat n
theorem e_hs_k {n : Nat} {x : Int32} (hn : n < 1000000) (h : e_hs n x) : ∃ k, k < n ∧ x = Int32.ofNat k := e_rng h.1 h.2 (by omega)
theorem e_hs_of {n k : Nat} (hn : n < 1000000) (h : k < n) : e_hs n (Int32.ofNat k) := ⟨e_nn (by omega), e_T h (by omega)⟩
theorem e_hasBoy_3 {g : s_G} {n : Nat} {x : Int32} (h : g.1 3 0 = Int32.ofNat n) : fP_hasBoy_3 x g = some (e_bi (e_hs n x)) := by
  unfold fP_hasBoy_3
  rw [h]
  by_cases h1 : x < 0
  · rw [if_pos h1, e_bi_f (fun h => h.1 h1)]
  · rw [if_neg h1]
    by_cases h2 : x < Int32.ofNat n
    · rw [if_pos h2, e_bi_t ⟨h1, h2⟩]
    · rw [if_neg h2, e_bi_f (fun h => h2 h.2)]
theorem e_hasEvent_3 {g : s_G} {n : Nat} {x : Int32} (h : g.1 3 1 = Int32.ofNat n) : fP_hasEvent_3 x g = some (e_bi (e_hs n x)) := by
  unfold fP_hasEvent_3
  rw [h]
  by_cases h1 : x < 0
  · rw [if_pos h1, e_bi_f (fun h => h.1 h1)]
  · rw [if_neg h1]
    by_cases h2 : x < Int32.ofNat n
    · rw [if_pos h2, e_bi_t ⟨h1, h2⟩]
    · rw [if_neg h2, e_bi_f (fun h => h2 h.2)]
theorem e_isIn_0 {g : s_G} {n : Nat} {x : Int32} (hn : n < 1000000) : fM_isIn_s x 0 (Int32.ofNat n - 1) g = some (e_bi (e_hs n x)) := by
  unfold fM_isIn_s
  by_cases h1 : x < 0
  · rw [if_pos h1, e_bi_f (fun h => h.1 h1)]
  · rw [if_neg h1]
    by_cases h2 : x < Int32.ofNat n
    · rw [if_neg (fun h => (e_m1 hn).mp h h2), e_bi_t ⟨h1, h2⟩]
    · rw [if_pos ((e_m1 hn).mpr h2), e_bi_f (fun h => h2 h.2)]
theorem e_isBoy {g : s_G} {n : Nat} {x : Int32} (hn : n < 1000000) (h : g.1 132 0 = Int32.ofNat n) : fM_isBoy_130 x g = some (e_bi (e_hs n x)) := by
  unfold fM_isBoy_130
  rw [h, e_isIn_0 hn, s_b1_s, if_pos (e_bi_ok _)]
theorem e_isEvent {g : s_G} {n : Nat} {x : Int32} (hn : n < 1000000) (h : g.1 132 1 = Int32.ofNat n) : fM_isEvent_130 x g = some (e_bi (e_hs n x)) := by
  unfold fM_isEvent_130
  rw [h, e_isIn_0 hn, s_b1_s, if_pos (e_bi_ok _)]
