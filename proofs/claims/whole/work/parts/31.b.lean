-- ACTS on a state: what they make of the row, and that the class's rows follow
theorem e_TR_on {o on ld ah wp f : Nat → Int32} (h : e_TR o on ld ah wp f) {b e : Nat} (hb : b < 7) (he : e < 10) (x : Int32) : e_TR o (va_up on (7 * e + b) (on (7 * e + b) + x)) (va_up ld b (ld b + x)) ah wp (va_up f (63 + 10 * b + e) (f (63 + 10 * b + e) + x)) := by
  obtain ⟨⟨h1, h2, h3, h4, h5⟩, h6, h7, h8, h9⟩ := h
  refine ⟨⟨?_, ?_, ?_, ?_, ?_⟩, ?_, ?_, ?_, ?_⟩
  · rw [e_vn _ _ (by omega)]; exact h1
  · rw [e_vn _ _ (by omega)]; exact h2
  · rw [e_vn _ _ (by omega)]; exact h3
  · rw [e_vn _ _ (by omega)]; exact h4
  · rw [e_vn _ _ (by omega)]; exact h5
  · intro b' e' hb' he'
    by_cases hq : b' = b ∧ e' = e
    · obtain ⟨rfl, rfl⟩ := hq
      rw [e_ve, e_ve, h6 _ _ hb he]
    · rw [e_vn _ _ (by omega), e_vn _ _ (by omega)]
      exact h6 _ _ hb' he'
  · intro b' hb'
    by_cases hq : b' = b
    · subst hq
      rw [e_ve, h7 _ hb]
      unfold e_ld
      rw [e_su_up 10 (by omega) (by omega), Int32.add_comm (f _) x, Int32.add_sub_cancel]
    · rw [e_vn _ _ hq, h7 _ hb']
      unfold e_ld
      rw [e_su_no (by omega)]
  · intro k hk
    rw [e_vn _ _ (by omega)]; exact h8 k hk
  · intro b' hb'
    rw [e_vn _ _ (by omega)]; exact h9 b' hb'
theorem e_TR_ah {o on ld ah wp f : Nat → Int32} (h : e_TR o on ld ah wp f) {k : Nat} (hk : k < 4) (x : Int32) : e_TR o on ld (va_up ah k x) wp (va_up f (52 + k) x) := by
  obtain ⟨⟨h1, h2, h3, h4, h5⟩, h6, h7, h8, h9⟩ := h
  refine ⟨⟨?_, ?_, ?_, ?_, ?_⟩, ?_, ?_, ?_, ?_⟩
  · rw [e_vn _ _ (by omega)]; exact h1
  · rw [e_vn _ _ (by omega)]; exact h2
  · rw [e_vn _ _ (by omega)]; exact h3
  · rw [e_vn _ _ (by omega)]; exact h4
  · rw [e_vn _ _ (by omega)]; exact h5
  · intro b' e' hb' he'
    rw [e_vn _ _ (by omega)]
    exact h6 _ _ hb' he'
  · intro b' hb'
    rw [h7 _ hb']
    unfold e_ld
    rw [e_su_no (by omega)]
  · intro k' hk'
    by_cases hq : k' = k
    · subst hq; rw [e_ve, e_ve]
    · rw [e_vn _ _ hq, e_vn _ _ (by omega)]; exact h8 k' hk'
  · intro b' hb'
    rw [e_vn _ _ (by omega)]; exact h9 b' hb'
theorem e_TR_wp {o on ld ah wp f : Nat → Int32} (h : e_TR o on ld ah wp f) {b : Nat} (hb : b < 7) (x : Int32) : e_TR o on ld ah (va_up wp b x) (va_up f (56 + b) x) := by
  obtain ⟨⟨h1, h2, h3, h4, h5⟩, h6, h7, h8, h9⟩ := h
  refine ⟨⟨?_, ?_, ?_, ?_, ?_⟩, ?_, ?_, ?_, ?_⟩
  · rw [e_vn _ _ (by omega)]; exact h1
  · rw [e_vn _ _ (by omega)]; exact h2
  · rw [e_vn _ _ (by omega)]; exact h3
  · rw [e_vn _ _ (by omega)]; exact h4
  · rw [e_vn _ _ (by omega)]; exact h5
  · intro b' e' hb' he'
    rw [e_vn _ _ (by omega)]
    exact h6 _ _ hb' he'
  · intro b' hb'
    rw [h7 _ hb']
    unfold e_ld
    rw [e_su_no (by omega)]
  · intro k' hk'
    rw [e_vn _ _ (by omega)]; exact h8 k' hk'
  · intro b' hb'
    by_cases hq : b' = b
    · subst hq; rw [e_ve, e_ve]
    · rw [e_vn _ _ hq, e_vn _ _ (by omega)]; exact h9 b' hb'

theorem e_TR_50 {o on ld ah wp f : Nat → Int32} (h : e_TR o on ld ah wp f) (x : Int32) : e_TR (va_up o 5 x) on ld ah wp (va_up f 50 x) := by
  obtain ⟨⟨h1, h2, h3, h4, h5⟩, h6, h7, h8, h9⟩ := h
  refine ⟨⟨?_, ?_, ?_, ?_, ?_⟩, ?_, ?_, ?_, ?_⟩
  · rw [e_ve, e_ve]
  · rw [e_vn _ _ (by omega), e_vn _ _ (by omega)]; exact h2
  · rw [e_vn _ _ (by omega), e_vn _ _ (by omega)]; exact h3
  · rw [e_vn _ _ (by omega), e_vn _ _ (by omega)]; exact h4
  · rw [e_vn _ _ (by omega), e_vn _ _ (by omega)]; exact h5
  · intro b' e' hb' he'
    rw [e_vn _ _ (by omega)]
    exact h6 _ _ hb' he'
  · intro b' hb'
    rw [h7 _ hb']
    unfold e_ld
    rw [e_su_no (by omega)]
  · intro k' hk'
    rw [e_vn _ _ (by omega)]; exact h8 k' hk'
  · intro b' hb'
    rw [e_vn _ _ (by omega)]; exact h9 b' hb'

theorem e_TR_48 {o on ld ah wp f : Nat → Int32} (h : e_TR o on ld ah wp f) (x : Int32) : e_TR (va_up o 6 x) on ld ah wp (va_up f 48 x) := by
  obtain ⟨⟨h1, h2, h3, h4, h5⟩, h6, h7, h8, h9⟩ := h
  refine ⟨⟨?_, ?_, ?_, ?_, ?_⟩, ?_, ?_, ?_, ?_⟩
  · rw [e_vn _ _ (by omega), e_vn _ _ (by omega)]; exact h1
  · rw [e_ve, e_ve]
  · rw [e_vn _ _ (by omega), e_vn _ _ (by omega)]; exact h3
  · rw [e_vn _ _ (by omega), e_vn _ _ (by omega)]; exact h4
  · rw [e_vn _ _ (by omega), e_vn _ _ (by omega)]; exact h5
  · intro b' e' hb' he'
    rw [e_vn _ _ (by omega)]
    exact h6 _ _ hb' he'
  · intro b' hb'
    rw [h7 _ hb']
    unfold e_ld
    rw [e_su_no (by omega)]
  · intro k' hk'
    rw [e_vn _ _ (by omega)]; exact h8 k' hk'
  · intro b' hb'
    rw [e_vn _ _ (by omega)]; exact h9 b' hb'

theorem e_TR_49 {o on ld ah wp f : Nat → Int32} (h : e_TR o on ld ah wp f) (x : Int32) : e_TR (va_up o 7 x) on ld ah wp (va_up f 49 x) := by
  obtain ⟨⟨h1, h2, h3, h4, h5⟩, h6, h7, h8, h9⟩ := h
  refine ⟨⟨?_, ?_, ?_, ?_, ?_⟩, ?_, ?_, ?_, ?_⟩
  · rw [e_vn _ _ (by omega), e_vn _ _ (by omega)]; exact h1
  · rw [e_vn _ _ (by omega), e_vn _ _ (by omega)]; exact h2
  · rw [e_ve, e_ve]
  · rw [e_vn _ _ (by omega), e_vn _ _ (by omega)]; exact h4
  · rw [e_vn _ _ (by omega), e_vn _ _ (by omega)]; exact h5
  · intro b' e' hb' he'
    rw [e_vn _ _ (by omega)]
    exact h6 _ _ hb' he'
  · intro b' hb'
    rw [h7 _ hb']
    unfold e_ld
    rw [e_su_no (by omega)]
  · intro k' hk'
    rw [e_vn _ _ (by omega)]; exact h8 k' hk'
  · intro b' hb'
    rw [e_vn _ _ (by omega)]; exact h9 b' hb'

theorem e_TR_47 {o on ld ah wp f : Nat → Int32} (h : e_TR o on ld ah wp f) (x : Int32) : e_TR (va_up o 8 x) on ld ah wp (va_up f 47 x) := by
  obtain ⟨⟨h1, h2, h3, h4, h5⟩, h6, h7, h8, h9⟩ := h
  refine ⟨⟨?_, ?_, ?_, ?_, ?_⟩, ?_, ?_, ?_, ?_⟩
  · rw [e_vn _ _ (by omega), e_vn _ _ (by omega)]; exact h1
  · rw [e_vn _ _ (by omega), e_vn _ _ (by omega)]; exact h2
  · rw [e_vn _ _ (by omega), e_vn _ _ (by omega)]; exact h3
  · rw [e_ve, e_ve]
  · rw [e_vn _ _ (by omega), e_vn _ _ (by omega)]; exact h5
  · intro b' e' hb' he'
    rw [e_vn _ _ (by omega)]
    exact h6 _ _ hb' he'
  · intro b' hb'
    rw [h7 _ hb']
    unfold e_ld
    rw [e_su_no (by omega)]
  · intro k' hk'
    rw [e_vn _ _ (by omega)]; exact h8 k' hk'
  · intro b' hb'
    rw [e_vn _ _ (by omega)]; exact h9 b' hb'

theorem e_TR_51 {o on ld ah wp f : Nat → Int32} (h : e_TR o on ld ah wp f) (x : Int32) : e_TR (va_up o 9 x) on ld ah wp (va_up f 51 x) := by
  obtain ⟨⟨h1, h2, h3, h4, h5⟩, h6, h7, h8, h9⟩ := h
  refine ⟨⟨?_, ?_, ?_, ?_, ?_⟩, ?_, ?_, ?_, ?_⟩
  · rw [e_vn _ _ (by omega), e_vn _ _ (by omega)]; exact h1
  · rw [e_vn _ _ (by omega), e_vn _ _ (by omega)]; exact h2
  · rw [e_vn _ _ (by omega), e_vn _ _ (by omega)]; exact h3
  · rw [e_vn _ _ (by omega), e_vn _ _ (by omega)]; exact h4
  · rw [e_ve, e_ve]
  · intro b' e' hb' he'
    rw [e_vn _ _ (by omega)]
    exact h6 _ _ hb' he'
  · intro b' hb'
    rw [h7 _ hb']
    unfold e_ld
    rw [e_su_no (by omega)]
  · intro k' hk'
    rw [e_vn _ _ (by omega)]; exact h8 k' hk'
  · intro b' hb'
    rw [e_vn _ _ (by omega)]; exact h9 b' hb'

theorem e_TR_cg {o on ld ah wp f f' : Nat → Int32} (h : e_TR o on ld ah wp f) (hf : ∀ k, 47 ≤ k → k < 133 → f' k = f k) : e_TR o on ld ah wp f' := by
  obtain ⟨⟨h1, h2, h3, h4, h5⟩, h6, h7, h8, h9⟩ := h
  refine ⟨⟨?_, ?_, ?_, ?_, ?_⟩, ?_, ?_, ?_, ?_⟩
  · rw [hf _ (by omega) (by omega)]; exact h1
  · rw [hf _ (by omega) (by omega)]; exact h2
  · rw [hf _ (by omega) (by omega)]; exact h3
  · rw [hf _ (by omega) (by omega)]; exact h4
  · rw [hf _ (by omega) (by omega)]; exact h5
  · intro b' e' hb' he'
    rw [hf _ (by omega) (by omega)]
    exact h6 _ _ hb' he'
  · intro b' hb'
    rw [h7 _ hb']
    exact e_su_eq 10 (fun k hk => (hf _ (by omega) (by omega)).symm)
  · intro k' hk'
    rw [hf _ (by omega) (by omega)]; exact h8 k' hk'
  · intro b' hb'
    rw [hf _ (by omega) (by omega)]; exact h9 b' hb'
theorem e_HW_cg {nb ne : Nat} {f f' : Nat → Int32} (h : e_HW nb ne f) (hf : ∀ k, k < 47 → f' k = f k) : e_HW nb ne f' := by
  obtain ⟨⟨h1, h2⟩, ⟨h3, h4⟩, ⟨h5, h6, h7, h8⟩, h9, h10, h11⟩ := h
  refine ⟨⟨h1, ?_⟩, ⟨h3, ?_⟩, ⟨?_, ?_, ?_, ?_⟩, ?_, ?_, ?_⟩
  · rw [hf _ (by omega)]; exact h2
  · rw [hf _ (by omega)]; exact h4
  · rw [hf _ (by omega)]; exact h5
  · rw [hf _ (by omega)]; exact h6
  · rw [hf _ (by omega)]; exact h7
  · rw [hf _ (by omega)]; exact h8
  · intro k hk; rw [hf _ (by omega)]; exact h9 k hk
  · intro b hb; rw [hf _ (by omega)]; exact h10 b hb
  · intro e he; rw [hf _ (by omega), hf _ (by omega), hf _ (by omega)]; exact h11 e he
theorem e_CR_cg {nb ne : Nat} {o be ow ki we ta f f' : Nat → Int32} (hn : nb ≤ 7) (hm : ne ≤ 10) (h : e_CR nb ne o be ow ki we ta f) (hf : ∀ k, k < 47 → f' k = f k) : e_CR nb ne o be ow ki we ta f' := by
  obtain ⟨⟨h1, h2, h3, h4, h5, h6⟩, h9, h10, h11⟩ := h
  refine ⟨⟨?_, ?_, ?_, ?_, ?_, ?_⟩, ?_, ?_, ?_⟩
  · rw [hf _ (by omega)]; exact h1
  · rw [hf _ (by omega)]; exact h2
  · rw [hf _ (by omega)]; exact h3
  · rw [hf _ (by omega)]; exact h4
  · rw [hf _ (by omega)]; exact h5
  · rw [hf _ (by omega)]; exact h6
  · intro k hk; rw [hf _ (by omega)]; exact h9 k hk
  · intro b hb; rw [hf _ (by omega)]; exact h10 b hb
  · intro e he; rw [hf _ (by omega), hf _ (by omega), hf _ (by omega)]; exact h11 e he
theorem e_SW_cg {nb ne : Nat} {f f' : Nat → Int32} (h : e_SW nb ne f) (hf : ∀ k, 47 ≤ k → k < 133 → f' k = f k) : e_SW nb ne f' := by
  obtain ⟨h1, h2, h3, h4, h5⟩ := h
  refine ⟨?_, ?_, ?_, ?_, ?_⟩
  · intro b e hb he; rw [hf _ (by omega) (by omega)]; exact h1 b e hb he
  · intro b e hb he hq; rw [hf _ (by omega) (by omega)]; exact h2 b e hb he hq
  · rw [hf _ (by omega) (by omega)]; exact h3
  · rw [hf _ (by omega) (by omega)]; exact h4
  · rw [hf _ (by omega) (by omega)]; exact h5
theorem e_SW_on {nb ne : Nat} {f : Nat → Int32} (h : e_SW nb ne f) {b e : Nat} (hb : b < nb) (he : e < ne) (hn : nb ≤ 7) (hm : ne ≤ 10) {v : Int32} (hv : e_c 99 v) : e_SW nb ne (va_up f (63 + 10 * b + e) v) := by
  obtain ⟨h1, h2, h3, h4, h5⟩ := h
  refine ⟨?_, ?_, ?_, ?_, ?_⟩
  · intro b' e' hb' he'
    by_cases hq : 63 + 10 * b' + e' = 63 + 10 * b + e
    · rw [hq, e_ve]; exact hv
    · rw [e_vn _ _ hq]; exact h1 b' e' hb' he'
  · intro b' e' hb' he' hq
    rw [e_vn _ _ (by omega)]; exact h2 b' e' hb' he' hq
  · rw [e_vn _ _ (by omega)]; exact h3
  · rw [e_vn _ _ (by omega)]; exact h4
  · rw [e_vn _ _ (by omega)]; exact h5
/-- what is not on a boy -/
theorem e_SW_up {nb ne : Nat} {f : Nat → Int32} (h : e_SW nb ne f) {j : Nat} (hj : j < 63) {v : Int32} (hv : (j = 47 → e_c 400 v) ∧ (j = 48 → e_c 30 v) ∧ (j = 49 → e_c 20 v)) : e_SW nb ne (va_up f j v) := by
  obtain ⟨h1, h2, h3, h4, h5⟩ := h
  refine ⟨?_, ?_, ?_, ?_, ?_⟩
  · intro b' e' hb' he'; rw [e_vn _ _ (by omega)]; exact h1 b' e' hb' he'
  · intro b' e' hb' he' hq; rw [e_vn _ _ (by omega)]; exact h2 b' e' hb' he' hq
  · by_cases hq : (47 : Nat) = j
    · subst hq; rw [e_ve]; exact hv.1 rfl
    · rw [e_vn _ _ hq]; exact h3
  · by_cases hq : (48 : Nat) = j
    · subst hq; rw [e_ve]; exact hv.2.1 rfl
    · rw [e_vn _ _ hq]; exact h4
  · by_cases hq : (49 : Nat) = j
    · subst hq; rw [e_ve]; exact hv.2.2 rfl
    · rw [e_vn _ _ hq]; exact h5
-- tellings
def e_tk (f : Nat → Int32) (k : Nat) : Int32 := f (6 + k) + f 48 / 5
def e_gn (f : Nat → Int32) (b e k : Nat) : Int32 := if f (63 + 10 * b + e) < e_tk f k then f (63 + 10 * b + e) else e_tk f k
def e_tell (f : Nat → Int32) (b e k : Nat) : Nat → Int32 := va_up (va_up (va_up (va_up f (63 + 10 * b + e) (f (63 + 10 * b + e) - e_gn f b e k)) (52 + k) (f (52 + k) + e_gn f b e k)) 48 (f 48 - 1)) 50 (f 50 ||| ((1 : Int32) <<< (Int32.ofNat b &&& 31)))
theorem e_least {a b : Int32} {g : s_G} : fM_least_s a b g = some (if a < b then a else b) := by
  unfold fM_least_s
  split <;> rfl
theorem e_doTell {g : s_G} {b e k : Nat} (hb : b < 7) (he : e < 10) (hk : k < 4) (hkd : g.1 132 (27 + e) = Int32.ofNat k) : ∃ g', fM_doTell_130 (Int32.ofNat b) (Int32.ofNat e) g = some g' ∧ g'.1 132 = e_tell (g.1 132) b e k ∧ e_fx 132 132 g g' := by
  simp (disch := omega) only [fM_doTell_130, e_onOf, s_b1_s, e_27, e_63, e_10, e_52, ← Int32.ofNat_mul, ← Int32.ofNat_add, e_ix, hkd, fM_takesOf_130, e_6, e_least, s_si, s_up_s, e_vn, fM_speaks_130]
  refine ⟨_, rfl, ?_, ?_⟩
  · rfl
  · exact ⟨fun a ha => by simp (disch := omega) only [e_ua], rfl⟩
