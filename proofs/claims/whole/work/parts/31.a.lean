-- THE STATE: rows, as the reference holds them (f), and as the class does
/-- a number from 0 to n -/
def e_c (n : Nat) (x : Int32) : Prop := ∃ k, k ≤ n ∧ x = Int32.ofNat k
/-- a camp's numbers: boys, happenings, and their bounds -/
def e_HW (nb ne : Nat) (f : Nat → Int32) : Prop := (nb ≤ 7 ∧ f 0 = Int32.ofNat nb) ∧ (ne ≤ 10 ∧ f 1 = Int32.ofNat ne) ∧ (e_c 30 (f 2) ∧ e_c 20 (f 3) ∧ e_c 9 (f 4) ∧ e_c 30 (f 5)) ∧ (∀ k, k < 4 → e_c 9 (f (6 + k))) ∧ (∀ b, b < nb → e_c 60 (f (10 + b))) ∧ ∀ e, e < ne → (∃ k, k < nb ∧ f (17 + e) = Int32.ofNat k) ∧ (∃ k, k < 4 ∧ f (27 + e) = Int32.ofNat k) ∧ e_c 40 (f (37 + e))
/-- what is so on a day -/
def e_SW (nb ne : Nat) (f : Nat → Int32) : Prop := (∀ b e, b < 7 → e < 10 → e_c 99 (f (63 + 10 * b + e))) ∧ (∀ b e, b < 7 → e < 10 → (nb ≤ b ∨ ne ≤ e) → f (63 + 10 * b + e) = 0) ∧ e_c 400 (f 47) ∧ e_c 30 (f 48) ∧ e_c 20 (f 49)
def e_ld (f : Nat → Int32) (b : Nat) : Int32 := e_su f (63 + 10 * b) 10
/-- the class's state -/
def e_TR (o on ld ah wp : Nat → Int32) (f : Nat → Int32) : Prop := (o 5 = f 50 ∧ o 6 = f 48 ∧ o 7 = f 49 ∧ o 8 = f 47 ∧ o 9 = f 51) ∧ (∀ b e, b < 7 → e < 10 → on (7 * e + b) = f (63 + 10 * b + e)) ∧ (∀ b, b < 7 → ld b = e_ld f b) ∧ (∀ k, k < 4 → ah k = f (52 + k)) ∧ ∀ b, b < 7 → wp b = f (56 + b)
/-- the class's camp, but for its names -/
def e_CR (nb ne : Nat) (o be ow ki we ta : Nat → Int32) (f : Nat → Int32) : Prop := (o 0 = f 0 ∧ o 1 = f 1 ∧ o 8 = f 2 ∧ o 9 = f 3 ∧ o 10 = f 4 ∧ o 11 = f 5) ∧ (∀ k, k < 4 → ta k = f (6 + k)) ∧ (∀ b, b < nb → be b = f (10 + b)) ∧ ∀ e, e < ne → ow e = f (17 + e) ∧ ki e = f (27 + e) ∧ we e = f (37 + e)
def e_C3 (nb ne : Nat) (g : s_G) (f : Nat → Int32) : Prop := e_CR nb ne (g.1 3) (g.1 5) (g.1 6) (g.1 7) (g.1 8) (g.1 9) f
def e_T17 (g : s_G) (f : Nat → Int32) : Prop := e_TR (g.1 17) (g.1 18) (g.1 19) (g.1 20) (g.1 21) f
def e_T22 (g : s_G) (f : Nat → Int32) : Prop := e_TR (g.1 22) (g.1 23) (g.1 24) (g.1 25) (g.1 26) f
/-- int cells from l to h alone have changed -/
def e_fx (l h : Nat) (g g' : s_G) : Prop := (∀ a, (a < l ∨ h < a) → g'.1 a = g.1 a) ∧ g'.2 = g.2
theorem e_fx.rf (l h : Nat) (g : s_G) : e_fx l h g g := ⟨fun _ _ => rfl, rfl⟩
theorem e_fx.tr {l h : Nat} {g g' g'' : s_G} (h1 : e_fx l h g g') (h2 : e_fx l h g' g'') : e_fx l h g g'' := ⟨fun a ha => (h2.1 a ha).trans (h1.1 a ha), h2.2.trans h1.2⟩
theorem e_fx.si {l h : Nat} {g : s_G} {a k : Nat} {v : Int32} (h1 : l ≤ a) (h2 : a ≤ h) : e_fx l h g (s_si g a k v) := ⟨fun b hb => e_ua g.1 k v (by omega), rfl⟩
theorem e_fx.wd {l h l' h' : Nat} {g g' : s_G} (h1 : e_fx l h g g') (hl : l' ≤ l) (hh : h ≤ h') : e_fx l' h' g g' := ⟨fun a ha => h1.1 a (by omega), h1.2⟩
-- of a boy and a happening
def e_ov (f : Nat → Int32) (b : Nat) : Prop := f (10 + b) < e_ld f b

def e_hu (f : Nat → Int32) (b : Nat) : Prop := ((f 50 >>> (Int32.ofNat b &&& 31)) &&& 1) = 1
def e_wt (f : Nat → Int32) : Prop := 0 < f 5 ∧ ((f 47 + 1) - (f 47 + 1) / f 5 * f 5) = 0
/-- 1 or 0 -/
noncomputable def e_bi (c : Prop) : Int32 := @ite Int32 c (Classical.propDecidable c) 1 0
theorem e_bi_t {c : Prop} (h : c) : e_bi c = 1 := by unfold e_bi; rw [if_pos h]
theorem e_bi_f {c : Prop} (h : ¬ c) : e_bi c = 0 := by unfold e_bi; rw [if_neg h]
theorem e_bi_z (c : Prop) : (e_bi c = 0) = ¬ c := by
  by_cases h : c
  · rw [e_bi_t h]; exact propext ⟨fun h0 => absurd h0 (by decide), fun h0 => absurd h h0⟩
  · rw [e_bi_f h]; exact propext ⟨fun _ => h, fun _ => rfl⟩
theorem e_bi_ok (c : Prop) : e_bi c = 0 ∨ e_bi c = 1 := by
  by_cases h : c
  · exact Or.inr (e_bi_t h)
  · exact Or.inl (e_bi_f h)
theorem e_bi_c {c d : Prop} (h : c ↔ d) : e_bi c = e_bi d := by rw [propext h]
theorem e_bi_if (c : Prop) [Decidable c] : (if c then some (1 : Int32) else some 0) = some (e_bi c) := by
  by_cases h : c
  · rw [if_pos h, e_bi_t h]
  · rw [if_neg h, e_bi_f h]
theorem e_bi_if' (c d : Prop) [Decidable c] [Decidable d] : (if c then (if d then some (1 : Int32) else some 0) else some 0) = some (e_bi (c ∧ d)) := by
  by_cases h : c
  · rw [if_pos h]
    by_cases h2 : d
    · rw [if_pos h2, e_bi_t ⟨h, h2⟩]
    · rw [if_neg h2, e_bi_f (fun x => h2 x.2)]
  · rw [if_neg h, e_bi_f (fun x => h x.1)]
noncomputable def e_why (f : Nat → Int32) (b e : Nat) : Int32 := if f (63 + 10 * b + e) = 0 then 1 else if e_bi (e_wt f) = 0 then (if f 48 = 0 then 3 else if e_bi (e_hu f b) = 0 then 0 else 4) else 2

theorem e_sum {g : s_G} {a n : Nat} (h : a + n ≤ 375) : fM_sum_130 (Int32.ofNat a) (Int32.ofNat n) g = some (e_su (g.1 132) a n) := by
  unfold fM_sum_130
  refine e_seq2 (fun k => (e_su (g.1 132) a k, Int32.ofNat k)) n rfl ?_ ?_
  · intro k hk
    simp (disch := omega) only [fM_sum_130_5, e_lt, hk, ↓reduceIte, ← Int32.ofNat_add, e_ix, s_b1_s, e_inc]
    rfl
  · simp (disch := omega) only [fM_sum_130_5, e_lt, Nat.lt_irrefl, ↓reduceIte]
    rfl
theorem e_loadOf {g : s_G} {b : Nat} (h : b < 7) : fM_loadOf_130 (Int32.ofNat b) g = some (e_ld (g.1 132) b) := by
  simp (disch := omega) only [fM_loadOf_130, e_63, e_10, ← Int32.ofNat_mul, ← Int32.ofNat_add, e_sum, s_b1_s, e_ld]
theorem e_isOver {g : s_G} {b : Nat} (h : b < 7) : fM_isOver_130 (Int32.ofNat b) g = some (e_bi (e_ov (g.1 132) b)) := by
  simp (disch := omega) only [fM_isOver_130, e_loadOf, s_b1_s, e_10, ← Int32.ofNat_add, e_ix, e_ov, ← e_bi_if]
theorem e_onOf {g : s_G} {b e : Nat} (hb : b < 7) (he : e < 10) : fM_onOf_130 (Int32.ofNat b) (Int32.ofNat e) g = some (g.1 132 (63 + 10 * b + e)) := by
  simp (disch := omega) only [fM_onOf_130, e_63, e_10, ← Int32.ofNat_mul, ← Int32.ofNat_add, e_ix, s_b1_s]
theorem e_isHushed {g : s_G} {b : Nat} : fM_isHushed_130 (Int32.ofNat b) g = some (e_bi (e_hu (g.1 132) b)) := by
  unfold fM_isHushed_130 fM_has_s
  rw [e_bi_if, s_b1_s, if_pos (e_bi_ok _)]
  rfl
theorem e_isWet {g : s_G} : fM_isWet_130 g = some (e_bi (e_wt (g.1 132))) := by
  unfold fM_isWet_130
  by_cases h : 0 < g.1 132 5
  · have h0 : ¬ g.1 132 5 = 0 := fun h0 => by rw [h0] at h; exact absurd h (by decide)
    rw [if_pos h, if_neg h0, e_bi_if]
    exact congrArg some (e_bi_c ⟨fun x => ⟨h, x⟩, fun x => x.2⟩)
  · rw [if_neg h]
    exact congrArg some (e_bi_f (fun x => h x.1)).symm
theorem e_whySay {g : s_G} {b e : Nat} (hb : b < 7) (he : e < 10) : fM_whySay_130 (Int32.ofNat b) (Int32.ofNat e) g = some (e_why (g.1 132) b e) := by
  unfold fM_whySay_130 e_why
  rw [e_onOf hb he, s_b1_s, e_isWet, s_b1_s, e_isHushed, s_b1_s]
  split
  · rfl
  · split
    · split
      · rfl
      · split <;> rfl
    · rfl

theorem e_onBoy_17 {g : s_G} {f : Nat → Int32} {b e : Nat} (hT : e_T17 g f) (hb : b < 7) (he : e < 10) : fT_onBoy_17 (Int32.ofNat e) (Int32.ofNat b) g = some (f (63 + 10 * b + e)) := by
  simp (disch := omega) only [fT_onBoy_17, e_7, ← Int32.ofNat_mul, ← Int32.ofNat_add, e_ix, s_b1_s]
  rw [show e * 7 + b = 7 * e + b by omega, hT.2.1 b e hb he]
theorem e_isOver_17 {g : s_G} {f : Nat → Int32} {nb ne b : Nat} (hC : e_C3 nb ne g f) (hH : e_HW nb ne f) (hT : e_T17 g f) (hb : b < nb) : fT_isOver_17 (Int32.ofNat b) g = some (e_bi (e_ov f b)) := by
  have hb7 : b < 7 := Nat.lt_of_lt_of_le hb hH.1.1
  simp (disch := omega) only [fT_isOver_17, e_ix, s_b1_s]
  rw [hC.2.2.1 b hb, hT.2.2.1 b hb7]
  exact e_bi_if _
theorem e_isHushed_17 {g : s_G} {f : Nat → Int32} {b : Nat} (hT : e_T17 g f) : fT_isHushed_17 (Int32.ofNat b) g = some (e_bi (e_hu f b)) := by
  unfold fT_isHushed_17
  rw [hT.1.1, e_bi_if]
  rfl
theorem e_isWet_17 {g : s_G} {f : Nat → Int32} {nb ne : Nat} (hC : e_C3 nb ne g f) (hT : e_T17 g f) : fT_isWet_17 g = some (e_bi (e_wt f)) := by
  unfold fT_isWet_17
  rw [hC.1.2.2.2.2.2, hT.1.2.2.2.1]
  by_cases h : 0 < f 5
  · have h0 : ¬ f 5 = 0 := fun h0 => by rw [h0] at h; exact absurd h (by decide)
    rw [if_pos h, if_neg h0, e_bi_if]
    exact congrArg some (e_bi_c ⟨fun x => ⟨h, x⟩, fun x => x.2⟩)
  · rw [if_neg h]
    exact congrArg some (e_bi_f (fun x => h x.1)).symm
theorem e_whyNotSpeak_17 {g : s_G} {f : Nat → Int32} {nb ne b e : Nat} (hC : e_C3 nb ne g f) (hT : e_T17 g f) (hb : b < 7) (he : e < 10) : fT_whyNotSpeak_17 (Int32.ofNat b) (Int32.ofNat e) g = some (e_why f b e) := by
  unfold fT_whyNotSpeak_17 e_why
  rw [e_onBoy_17 hT hb he, s_b1_s, e_isWet_17 hC hT, s_b1_s, e_isHushed_17 hT, s_b1_s, hT.1.2.1]
  split
  · rfl
  · split
    · split
      · rfl
      · split <;> rfl
    · rfl
theorem e_wouldTake_17 {g : s_G} {f : Nat → Int32} {nb ne k : Nat} (hC : e_C3 nb ne g f) (hT : e_T17 g f) (hk : k < 4) : fT_wouldTake_17 (Int32.ofNat k) g = some (f (6 + k) + f 48 / 5) := by
  simp (disch := omega) only [fT_wouldTake_17, e_ix, s_b1_s]
  rw [hC.2.1 k hk, hT.1.2.1]

theorem e_onBoy_22 {g : s_G} {f : Nat → Int32} {b e : Nat} (hT : e_T22 g f) (hb : b < 7) (he : e < 10) : fT_onBoy_22 (Int32.ofNat e) (Int32.ofNat b) g = some (f (63 + 10 * b + e)) := by
  simp (disch := omega) only [fT_onBoy_22, e_7, ← Int32.ofNat_mul, ← Int32.ofNat_add, e_ix, s_b1_s]
  rw [show e * 7 + b = 7 * e + b by omega, hT.2.1 b e hb he]
theorem e_isOver_22 {g : s_G} {f : Nat → Int32} {nb ne b : Nat} (hC : e_C3 nb ne g f) (hH : e_HW nb ne f) (hT : e_T22 g f) (hb : b < nb) : fT_isOver_22 (Int32.ofNat b) g = some (e_bi (e_ov f b)) := by
  have hb7 : b < 7 := Nat.lt_of_lt_of_le hb hH.1.1
  simp (disch := omega) only [fT_isOver_22, e_ix, s_b1_s]
  rw [hC.2.2.1 b hb, hT.2.2.1 b hb7]
  exact e_bi_if _
theorem e_isHushed_22 {g : s_G} {f : Nat → Int32} {b : Nat} (hT : e_T22 g f) : fT_isHushed_22 (Int32.ofNat b) g = some (e_bi (e_hu f b)) := by
  unfold fT_isHushed_22
  rw [hT.1.1, e_bi_if]
  rfl
theorem e_isWet_22 {g : s_G} {f : Nat → Int32} {nb ne : Nat} (hC : e_C3 nb ne g f) (hT : e_T22 g f) : fT_isWet_22 g = some (e_bi (e_wt f)) := by
  unfold fT_isWet_22
  rw [hC.1.2.2.2.2.2, hT.1.2.2.2.1]
  by_cases h : 0 < f 5
  · have h0 : ¬ f 5 = 0 := fun h0 => by rw [h0] at h; exact absurd h (by decide)
    rw [if_pos h, if_neg h0, e_bi_if]
    exact congrArg some (e_bi_c ⟨fun x => ⟨h, x⟩, fun x => x.2⟩)
  · rw [if_neg h]
    exact congrArg some (e_bi_f (fun x => h x.1)).symm
theorem e_whyNotSpeak_22 {g : s_G} {f : Nat → Int32} {nb ne b e : Nat} (hC : e_C3 nb ne g f) (hT : e_T22 g f) (hb : b < 7) (he : e < 10) : fT_whyNotSpeak_22 (Int32.ofNat b) (Int32.ofNat e) g = some (e_why f b e) := by
  unfold fT_whyNotSpeak_22 e_why
  rw [e_onBoy_22 hT hb he, s_b1_s, e_isWet_22 hC hT, s_b1_s, e_isHushed_22 hT, s_b1_s, hT.1.2.1]
  split
  · rfl
  · split
    · split
      · rfl
      · split <;> rfl
    · rfl
theorem e_wouldTake_22 {g : s_G} {f : Nat → Int32} {nb ne k : Nat} (hC : e_C3 nb ne g f) (hT : e_T22 g f) (hk : k < 4) : fT_wouldTake_22 (Int32.ofNat k) g = some (f (6 + k) + f 48 / 5) := by
  simp (disch := omega) only [fT_wouldTake_22, e_ix, s_b1_s]
  rw [hC.2.1 k hk, hT.1.2.1]
