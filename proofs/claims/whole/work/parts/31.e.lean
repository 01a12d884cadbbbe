-- COPIES of states, and the acts that can be undone
def e_TA (a : Nat) (g : s_G) (f : Nat → Int32) : Prop := e_TR (g.1 a) (g.1 (a + 1)) (g.1 (a + 2)) (g.1 (a + 3)) (g.1 (a + 4)) f
def e_cpA (d s : Nat) (g : s_G) : s_G := s_si (s_si (s_si (s_si (s_si (s_ci (s_ci (s_ci (s_ci g (s + 1) (d + 1) 0 0 70) (s + 2) (d + 2) 0 0 7) (s + 3) (d + 3) 0 0 4) (s + 4) (d + 4) 0 0 7) d 5 (g.1 s 5)) d 6 (g.1 s 6)) d 7 (g.1 s 7)) d 8 (g.1 s 8)) d 9 (g.1 s 9)
theorem e_us {α : Type} (f : Nat → Nat → α) (a k : Nat) (v : α) : s_up f a k v a = va_up (f a) k v := s_up_s f a k v
theorem e_sN {g : s_G} {a b k : Nat} {v : Int32} (h : b ≠ a) : (s_si g a k v).1 b = g.1 b := e_ua _ _ _ h
theorem e_sS {g : s_G} {a k : Nat} {v : Int32} : (s_si g a k v).1 a = va_up (g.1 a) k v := s_up_s _ _ _ _
theorem e_cpA_fx (d s : Nat) (g : s_G) : e_fx d (d + 4) g (e_cpA d s g) := by
  refine ⟨fun a ha => ?_, rfl⟩
  simp (disch := omega) only [e_cpA, s_si, s_ci, e_ua, e_ra]
theorem e_cpA_TA {d s : Nat} {g : s_G} {f : Nat → Int32} (h : d + 4 < s ∨ s + 4 < d) (hT : e_TA s g f) : e_TA d (e_cpA d s g) f := by
  obtain ⟨⟨h1, h2, h3, h4, h5⟩, h6, h7, h8, h9⟩ := hT
  unfold e_TA
  simp (disch := omega) only [e_cpA, s_si, s_ci, e_ua, e_ra, e_us, e_rs]
  refine ⟨⟨?_, ?_, ?_, ?_, ?_⟩, ?_, ?_, ?_, ?_⟩
  · simp (disch := omega) only [e_vn, e_ve]; exact h1
  · simp (disch := omega) only [e_vn, e_ve]; exact h2
  · simp (disch := omega) only [e_vn, e_ve]; exact h3
  · simp (disch := omega) only [e_vn, e_ve]; exact h4
  · simp (disch := omega) only [e_ve]; exact h5
  · intro b e hb he; rw [e_cpy _ _ (by omega)]; exact h6 b e hb he
  · intro b hb; rw [e_cpy _ _ (by omega)]; exact h7 b hb
  · intro b hb; rw [e_cpy _ _ (by omega)]; exact h8 b hb
  · intro b hb; rw [e_cpy _ _ (by omega)]; exact h9 b hb
theorem e_TA_cg {a : Nat} {g g' : s_G} {f f' : Nat → Int32} (h : e_TA a g f) (hg : ∀ b, a ≤ b → b ≤ a + 4 → g'.1 b = g.1 b) (hf : ∀ k, 47 ≤ k → k < 133 → f' k = f k) : e_TA a g' f' := by
  unfold e_TA
  rw [hg a (by omega) (by omega), hg (a + 1) (by omega) (by omega), hg (a + 2) (by omega) (by omega), hg (a + 3) (by omega) (by omega), hg (a + 4) (by omega) (by omega)]
  exact e_TR_cg h hf
theorem e_cp_22_17 (g : s_G) : fT_copyFrom_22_17 g = some (e_cpA 22 17 g) := rfl
theorem e_cp_17_22 (g : s_G) : fT_copyFrom_17_22 g = some (e_cpA 17 22 g) := rfl
/-- what is kept by a call: cells by P, longs and references all -/
def e_fr (P : Nat → Prop) (g g' : s_G) : Prop := (∀ a, P a → g'.1 a = g.1 a) ∧ g'.2 = g.2
theorem e_fr.tr {P : Nat → Prop} {g g' g'' : s_G} (h1 : e_fr P g g') (h2 : e_fr P g' g'') : e_fr P g g'' := ⟨fun a ha => (h2.1 a ha).trans (h1.1 a ha), h2.2.trans h1.2⟩
theorem e_fr.mo {P Q : Nat → Prop} {g g' : s_G} (h1 : e_fr P g g') (hq : ∀ a, Q a → P a) : e_fr Q g g' := ⟨fun a ha => h1.1 a (hq a ha), h1.2⟩
theorem e_fx.fr {l h : Nat} {g g' : s_G} (h1 : e_fx l h g g') {P : Nat → Prop} (hq : ∀ a, P a → a < l ∨ h < a) : e_fr P g g' := ⟨fun a ha => h1.1 a (hq a ha), h1.2⟩
-- the class's ring
def e_HC (n p : Nat) (hs : Nat → Nat → Int32) (g : s_G) : Prop := (n ≤ 8 ∧ p < 8) ∧ (g.1 43 1 = Int32.ofNat n ∧ g.1 43 2 = Int32.ofNat p) ∧ ∀ j, j < n → e_TA (45 + 5 * ((p + 8 - n + j) % 8)) g (hs j)
/-- the reference's -/
def e_HM (n : Nat) (hs : Nat → Nat → Int32) (g : s_G) : Prop := g.1 130 25 = Int32.ofNat n ∧ ∀ j k, j < n → k < 86 → g.1 135 (86 * j + k) = hs j (47 + k)
def e_psh (n : Nat) (hs : Nat → Nat → Int32) (f : Nat → Int32) : Nat → Nat → Int32 := fun j => if n = 8 then (if j = 7 then f else hs (j + 1)) else if j = n then f else hs j
def e_kp (p n : Nat) (g : s_G) : s_G := s_si (s_si (e_cpA (45 + 5 * p) 17 g) 43 2 (Int32.ofNat ((p + 1) % 8))) 43 1 (Int32.ofNat (min (n + 1) 8))
theorem e_p8 {p : Nat} (h : p < 8) : p = 0 ∨ p = 1 ∨ p = 2 ∨ p = 3 ∨ p = 4 ∨ p = 5 ∨ p = 6 ∨ p = 7 := by omega
theorem e_n8 {n : Nat} (hn : n ≤ 8) : (if 8 < Int32.ofNat n + 1 then (8 : Int32) else Int32.ofNat n + 1) = Int32.ofNat (min (n + 1) 8) := by
  rw [e_inc]
  by_cases h : n = 8
  · subst h; rfl
  · rw [if_neg (show ¬ (8 : Int32) < Int32.ofNat (n + 1) from e_F (a := 8) (by omega) (by omega)), Nat.min_eq_left (by omega)]
theorem e_keep_eq {g : s_G} {n p : Nat} (hn : n ≤ 8) (hp : p < 8) (h1 : g.1 43 1 = Int32.ofNat n) (h2 : g.1 43 2 = Int32.ofNat p) : fH_keep_43_17 g = some (e_kp p n g) := by
  unfold fH_keep_43_17 e_kp
  have hz : ∀ d, 44 < d → (e_cpA d 17 g).1 43 1 = Int32.ofNat n ∧ (e_cpA d 17 g).1 43 2 = Int32.ofNat p := by
    intro d hd
    rw [(e_cpA_fx d 17 g).1 43 (by omega)]
    exact ⟨h1, h2⟩
  rw [h2]
  rcases e_p8 hp with rfl | rfl | rfl | rfl | rfl | rfl | rfl | rfl
  · rw [if_pos (by decide), show fT_copyFrom_45_17 g = some (e_cpA 45 17 g) from rfl, s_b1_s, (hz 45 (by omega)).1, (hz 45 (by omega)).2, e_n8 hn]
    rfl
  · rw [if_neg (by decide), if_pos (by decide), show fT_copyFrom_50_17 g = some (e_cpA 50 17 g) from rfl, s_b1_s, (hz 50 (by omega)).1, (hz 50 (by omega)).2, e_n8 hn]
    rfl
  · rw [if_neg (by decide), if_neg (by decide), if_pos (by decide), show fT_copyFrom_55_17 g = some (e_cpA 55 17 g) from rfl, s_b1_s, (hz 55 (by omega)).1, (hz 55 (by omega)).2, e_n8 hn]
    rfl
  · rw [if_neg (by decide), if_neg (by decide), if_neg (by decide), if_pos (by decide), show fT_copyFrom_60_17 g = some (e_cpA 60 17 g) from rfl, s_b1_s, (hz 60 (by omega)).1, (hz 60 (by omega)).2, e_n8 hn]
    rfl
  · rw [if_neg (by decide), if_neg (by decide), if_neg (by decide), if_neg (by decide), if_pos (by decide), show fT_copyFrom_65_17 g = some (e_cpA 65 17 g) from rfl, s_b1_s, (hz 65 (by omega)).1, (hz 65 (by omega)).2, e_n8 hn]
    rfl
  · rw [if_neg (by decide), if_neg (by decide), if_neg (by decide), if_neg (by decide), if_neg (by decide), if_pos (by decide), show fT_copyFrom_70_17 g = some (e_cpA 70 17 g) from rfl, s_b1_s, (hz 70 (by omega)).1, (hz 70 (by omega)).2, e_n8 hn]
    rfl
  · rw [if_neg (by decide), if_neg (by decide), if_neg (by decide), if_neg (by decide), if_neg (by decide), if_neg (by decide), if_pos (by decide), show fT_copyFrom_75_17 g = some (e_cpA 75 17 g) from rfl, s_b1_s, (hz 75 (by omega)).1, (hz 75 (by omega)).2, e_n8 hn]
    rfl
  · rw [if_neg (by decide), if_neg (by decide), if_neg (by decide), if_neg (by decide), if_neg (by decide), if_neg (by decide), if_neg (by decide), if_pos (by decide), show fT_copyFrom_80_17 g = some (e_cpA 80 17 g) from rfl, s_b1_s, (hz 80 (by omega)).1, (hz 80 (by omega)).2, e_n8 hn]
    rfl
theorem e_kp_fr {p n : Nat} (hp : p < 8) (g : s_G) : e_fr (fun a => a < 43 ∨ a = 44 ∨ 84 < a) g (e_kp p n g) := by
  refine ⟨fun a ha => ?_, rfl⟩
  unfold e_kp
  rw [e_sN (by omega), e_sN (by omega)]
  exact (e_cpA_fx (45 + 5 * p) 17 g).1 a (by omega)
theorem e_keep_HC {g : s_G} {n p : Nat} {hs : Nat → Nat → Int32} {f : Nat → Int32} (h : e_HC n p hs g) (hT : e_T17 g f) : e_HC (min (n + 1) 8) ((p + 1) % 8) (e_psh n hs f) (e_kp p n g) := by
  obtain ⟨⟨hn, hp⟩, ⟨h1, h2⟩, h3⟩ := h
  refine ⟨⟨by omega, by omega⟩, ⟨?_, ?_⟩, ?_⟩
  · unfold e_kp
    rw [e_sS, e_ve]
  · unfold e_kp
    rw [e_sS, e_vn _ _ (by omega), e_sS, e_ve]
  · intro j hj
    have hc : ∀ a, 44 ≤ a → (e_kp p n g).1 a = (e_cpA (45 + 5 * p) 17 g).1 a := by
      intro a ha
      unfold e_kp
      rw [e_sN (by omega), e_sN (by omega)]
    have hnew : e_TA (45 + 5 * p) (e_kp p n g) f := e_TA_cg (e_cpA_TA (by omega) hT) (fun b hb _ => hc b (by omega)) (fun _ _ _ => rfl)
    have hold : ∀ i, i < n → ¬ (p + 8 - n + i) % 8 = p → e_TA (45 + 5 * ((p + 8 - n + i) % 8)) (e_kp p n g) (hs i) := by
      intro i hi hne
      refine e_TA_cg (h3 i hi) (fun b hb1 hb2 => ?_) (fun _ _ _ => rfl)
      rw [hc b (by omega)]
      exact (e_cpA_fx (45 + 5 * p) 17 g).1 b (by omega)
    unfold e_psh
    by_cases h8 : n = 8
    · subst h8
      rw [if_pos rfl]
      by_cases h7 : j = 7
      · subst h7
        rw [if_pos rfl, show ((p + 1) % 8 + 8 - min (8 + 1) 8 + 7) % 8 = p by omega]
        exact hnew
      · rw [if_neg h7, show ((p + 1) % 8 + 8 - min (8 + 1) 8 + j) % 8 = (p + 8 - 8 + (j + 1)) % 8 by omega]
        exact hold (j + 1) (by omega) (by omega)
    · rw [if_neg h8]
      by_cases h7 : j = n
      · subst h7
        rw [if_pos rfl, show ((p + 1) % 8 + 8 - min (j + 1) 8 + j) % 8 = p by omega]
        exact hnew
      · rw [if_neg h7, show ((p + 1) % 8 + 8 - min (n + 1) 8 + j) % 8 = (p + 8 - n + j) % 8 by omega]
        exact hold j (by omega) (by omega)
theorem e_HC_cg {n p : Nat} {hs : Nat → Nat → Int32} {g g' : s_G} (h : e_HC n p hs g) (hg : ∀ a, 43 ≤ a → a ≤ 84 → g'.1 a = g.1 a) : e_HC n p hs g' := by
  obtain ⟨⟨hn, hp⟩, ⟨h1, h2⟩, h3⟩ := h
  refine ⟨⟨hn, hp⟩, ⟨?_, ?_⟩, ?_⟩
  · rw [hg 43 (by omega) (by omega)]; exact h1
  · rw [hg 43 (by omega) (by omega)]; exact h2
  · intro j hj
    exact e_TA_cg (h3 j hj) (fun b h1 h2 => hg b (by omega) (by omega)) (fun _ _ _ => rfl)
theorem e_HM_cg {n : Nat} {hs : Nat → Nat → Int32} {g g' : s_G} (h : e_HM n hs g) (h1 : g'.1 130 25 = g.1 130 25) (h2 : g'.1 135 = g.1 135) : e_HM n hs g' := by
  refine ⟨by rw [h1]; exact h.1, fun j k hj hk => ?_⟩
  rw [h2]; exact h.2 j k hj hk
theorem e_keepTrial {g : s_G} {n p : Nat} {hs : Nat → Nat → Int32} {f f' : Nat → Int32} (h : e_HC n p hs g) (hT : e_T17 g f) (hT' : e_T22 g f') : ∃ g', fC_keepTrial_0 g = some g' ∧ e_T17 g' f' ∧ e_HC (min (n + 1) 8) ((p + 1) % 8) (e_psh n hs f) g' ∧ e_fr (fun a => a < 17 ∨ 21 < a ∧ a < 43 ∨ 84 < a) g g' := by
  have hn := h.1.1
  have hp := h.1.2
  unfold fC_keepTrial_0
  rw [e_keep_eq hn hp h.2.1.1 h.2.1.2, s_b1_s, e_cp_17_22, s_b1_s]
  refine ⟨_, rfl, ?_, ?_, ?_⟩
  · refine e_cpA_TA (d := 17) (s := 22) (by omega) ?_
    exact e_TA_cg (a := 22) hT' (fun b h1 h2 => (e_kp_fr hp g).1 b (by omega)) (fun _ _ _ => rfl)
  · exact e_HC_cg (e_keep_HC h hT) (fun a h1 h2 => (e_cpA_fx 17 22 _).1 a (by omega))
  · exact ((e_kp_fr hp g).mo (fun a ha => by omega)).tr ((e_cpA_fx 17 22 _).fr (fun a ha => by omega))
-- the reference's snaps
theorem e_snap_49 {g : s_G} {n : Nat} (hn : n < 8) (h0 : g.1 130 25 = Int32.ofNat n) : ∃ g', fM_snap_130_49 g = some g' ∧ (∀ k, k < 86 → g'.1 135 (86 * n + k) = g.1 132 (47 + k)) ∧ (∀ j, (j < 86 * n ∨ 86 * n + 86 ≤ j) → g'.1 135 j = g.1 135 j) ∧ g'.1 130 = va_up (g.1 130) 25 (Int32.ofNat (n + 1)) ∧ e_fr (fun a => ¬ a = 130 ∧ ¬ a = 135) g g' := by
  unfold fM_snap_130_49
  obtain ⟨y, ⟨h1, h2, h3, h4⟩, h5⟩ := e_lpN (B := fun (x : Int32 × s_G) => fM_snap_130_51 x.1 x.2) (fun k (x : Int32 × s_G) => x.1 = Int32.ofNat k ∧ (∀ i, i < k → x.2.1 135 (86 * n + i) = g.1 132 (47 + i)) ∧ (∀ j, (j < 86 * n ∨ 86 * n + 86 ≤ j) → x.2.1 135 j = g.1 135 j) ∧ e_fx 135 135 g x.2) 86 (x := (0, g)) (by
    intro k x hk hx
    obtain ⟨x1, x2⟩ := x
    obtain ⟨h1, h2, h3, h4⟩ := hx
    dsimp only at h1 h2 h3 h4
    subst h1
    have e0 : x2.1 130 25 = Int32.ofNat n := by rw [h4.1 130 (by omega), h0]
    have e1 : x2.1 132 = g.1 132 := h4.1 132 (by omega)
    refine ⟨(Int32.ofNat (k + 1), s_si x2 135 (86 * n + k) (g.1 132 (47 + k))), ?_, rfl, ?_, ?_, h4.tr (e_fx.si (by omega) (by omega))⟩
    · unfold fM_snap_130_51
      rw [e0]
      simp (disch := omega) only [e_86, e_47, e_lt, hk, ↓reduceIte, ← Int32.ofNat_mul, ← Int32.ofNat_add, e_ix, s_b1_s, e_inc, e1]
    · intro i hi
      rw [e_sS]
      by_cases h : i = k
      · subst h; rw [e_ve]
      · rw [e_vn _ _ (by omega)]; exact h2 i (by omega)
    · intro j hj
      rw [e_sS, e_vn _ _ (by omega)]
      exact h3 j hj) ⟨rfl, fun i hi => absurd hi (by omega), fun _ _ => rfl, e_fx.rf _ _ _⟩
  obtain ⟨y1, y2⟩ := y
  dsimp only at h1 h2 h3 h4
  subst h1
  refine ⟨s_si y2 130 25 (Int32.ofNat (n + 1)), ?_, ?_, ?_, ?_, ?_⟩
  · rw [h5]
    apply s_lp_out
    dsimp only
    unfold fM_snap_130_51
    rw [if_neg (show ¬ Int32.ofNat 86 < 86 by decide), h4.1 130 (by omega), h0, e_inc]
    rfl
  · intro k hk
    rw [e_sN (by omega)]; exact h2 k hk
  · intro j hj
    rw [e_sN (by omega)]; exact h3 j hj
  · rw [e_sS, h4.1 130 (by omega)]
  · refine ⟨fun a ha => ?_, h4.2⟩
    rw [e_sN (by omega)]; exact h4.1 a (by omega)
theorem e_snap {g : s_G} {n : Nat} {hs : Nat → Nat → Int32} (hn : n ≤ 8) (h : e_HM n hs g) : ∃ g', fM_snap_130 g = some g' ∧ e_HM (min (n + 1) 8) (e_psh n hs (g.1 132)) g' ∧ g'.1 130 = va_up (g.1 130) 25 (Int32.ofNat (min (n + 1) 8)) ∧ e_fr (fun a => ¬ a = 130 ∧ ¬ a = 135) g g' := by
  obtain ⟨h0, hs0⟩ := h
  unfold fM_snap_130
  by_cases h8 : n = 8
  · subst h8
    rw [if_pos (show g.1 130 25 = 8 from h0)]
    obtain ⟨y, ⟨h1, h2, h4⟩, h5⟩ := e_lpN (B := fun (x : Int32 × s_G) => fM_snap_130_11 x.1 x.2) (fun k (x : Int32 × s_G) => x.1 = Int32.ofNat k ∧ (∀ j, x.2.1 135 j = if j < k then g.1 135 (j + 86) else g.1 135 j) ∧ e_fx 135 135 g x.2) 602 (x := (0, g)) (by
      intro k x hk hx
      obtain ⟨x1, x2⟩ := x
      obtain ⟨h1, h2, h4⟩ := hx
      dsimp only at h1 h2 h4
      subst h1
      refine ⟨(Int32.ofNat (k + 1), s_si x2 135 k (x2.1 135 (k + 86))), ?_, rfl, ?_, h4.tr (e_fx.si (by omega) (by omega))⟩
      · unfold fM_snap_130_11
        simp (disch := omega) only [e_602, e_86, e_lt, hk, ↓reduceIte, ← Int32.ofNat_add, e_ix, s_b1_s, e_inc]
      · intro j
        rw [e_sS]
        by_cases h : j = k
        · subst h
          rw [e_ve, h2, if_neg (by omega), if_pos (by omega)]
        · rw [e_vn _ _ h, h2]
          by_cases hj : j < k
          · rw [if_pos hj, if_pos (by omega)]
          · rw [if_neg hj, if_neg (by omega)]) ⟨rfl, fun j => by rw [if_neg (by omega)], e_fx.rf _ _ _⟩
    obtain ⟨y1, y2⟩ := y
    dsimp only at h1 h2 h4
    subst h1
    obtain ⟨g', a1, a2, a3, a4, a5⟩ := e_snap_49 (g := s_si y2 130 25 (Int32.ofNat 7)) (n := 7) (by omega) (by rw [e_sS, e_ve])
    have c132 : (s_si y2 130 25 (Int32.ofNat 7)).1 132 = g.1 132 := by
      rw [e_sN (by omega)]; exact h4.1 132 (by omega)
    have c135 : (s_si y2 130 25 (Int32.ofNat 7)).1 135 = y2.1 135 := by
      rw [e_sN (by omega)]
    have c130 : (s_si y2 130 25 (Int32.ofNat 7)).1 130 = va_up (g.1 130) 25 (Int32.ofNat 7) := by
      rw [e_sS, h4.1 130 (by omega)]
    refine ⟨g', ?_, ⟨?_, ?_⟩, ?_, ?_⟩
    · rw [h5]
      apply s_lp_out
      dsimp only
      unfold fM_snap_130_11
      rw [if_neg (show ¬ Int32.ofNat 602 < 602 by decide), h4.1 130 (by omega), h0, show Int32.ofNat 8 - 1 = Int32.ofNat 7 from rfl, a1]
      rfl
    · rw [a4, e_ve]; rfl
    · intro j k hj hk
      unfold e_psh
      rw [if_pos rfl]
      by_cases h7 : j = 7
      · subst h7
        rw [if_pos rfl, a2 k hk, c132]
      · rw [if_neg h7, a3 _ (by omega), c135, h2, if_pos (by omega), show 86 * j + k + 86 = 86 * (j + 1) + k by omega]
        exact hs0 (j + 1) k (by omega) hk
    · rw [a4, c130]
      funext i
      by_cases h : i = 25
      · subst h; rw [e_ve, e_ve]; rfl
      · rw [e_vn _ _ h, e_vn _ _ h, e_vn _ _ h]
    · refine ⟨fun a ha => ?_, a5.2.trans h4.2⟩
      rw [a5.1 a ha]
      rw [e_sN (by omega)]; exact h4.1 a (by omega)
  · rw [if_neg (show ¬ g.1 130 25 = 8 by rw [h0]; intro h; exact h8 (e_in (b := 8) (by omega) (by omega) h))]
    obtain ⟨g', a1, a2, a3, a4, a5⟩ := e_snap_49 (g := g) (n := n) (by omega) h0
    refine ⟨g', a1, ⟨?_, ?_⟩, ?_, a5⟩
    · rw [a4, e_ve, Nat.min_eq_left (by omega)]
    · intro j k hj hk
      unfold e_psh
      rw [if_neg h8]
      by_cases h7 : j = n
      · subst h7
        rw [if_pos rfl, a2 k hk]
      · rw [if_neg h7, a3 _ (by omega)]
        exact hs0 j k (by omega) hk
    · rw [a4, Nat.min_eq_left (by omega)]
