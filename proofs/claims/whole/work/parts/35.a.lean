-- SENTENCES: trees that are being read
def t_lf (ne : Nat) (st : Nat → Option Nat) (sg nu nd : Nat → Int32) (k i : Nat) : Prop := ∃ w, (20 ≤ w ∧ w ≤ 28) ∧ nd (4 * k) = Int32.ofNat (50 + w) ∧ st i = some (1000 + w) ∧ (w = 23 ∨ w = 24 → ∃ e, e < ne ∧ nd (4 * k + 1) = Int32.ofNat e ∧ nu i = Int32.ofNat e) ∧ (25 ≤ w → nd (4 * k + 2) = nu i ∧ nd (4 * k + 3) = sg i ∧ (sg i = 60 ∨ sg i = 61 ∨ sg i = 62))
def t_tr (B ne : Nat) (st : Nat → Option Nat) (sg nu nd : Nat → Int32) : Nat → Nat → Nat → Nat → Prop
  | 0, _, _, _ => False
  | m + 1, k, i, j => k < B ∧ i < j ∧ ((j = i + 1 ∧ t_lf ne st sg nu nd k i) ∨ (∃ x, nd (4 * k) = 1 ∧ nd (4 * k + 1) = Int32.ofNat x ∧ st (j - 1) = some 1019 ∧ t_tr B ne st sg nu nd m x i (j - 1)) ∨ ∃ x y l, ((nd (4 * k) = 2 ∧ st (j - 1) = some 1018) ∨ (nd (4 * k) = 3 ∧ st (j - 1) = some 1017)) ∧ nd (4 * k + 1) = Int32.ofNat x ∧ nd (4 * k + 2) = Int32.ofNat y ∧ t_tr B ne st sg nu nd m x i l ∧ t_tr B ne st sg nu nd m y l (j - 1))
theorem t_tr_lt {B ne : Nat} {st : Nat → Option Nat} {sg nu nd : Nat → Int32} {m k i j : Nat} (h : t_tr B ne st sg nu nd m k i j) : k < B ∧ i < j := by
  cases m with
  | zero => exact absurd h id
  | succ m => exact ⟨h.1, h.2.1⟩
theorem t_tr_cg {B B' ne : Nat} {st st' : Nat → Option Nat} {sg sg' nu nu' nd nd' : Nat → Int32} (hB : B ≤ B') (hf : ∀ k, k < 4 * B → nd' k = nd k) {J : Nat} (hs : ∀ k, k < J → st' k = st k ∧ sg' k = sg k ∧ nu' k = nu k) : ∀ m m' k i j, m ≤ m' → j ≤ J → t_tr B ne st sg nu nd m k i j → t_tr B' ne st' sg' nu' nd' m' k i j := by
  intro m
  induction m with
  | zero => intro m' k i j _ hJ h; exact absurd h id
  | succ m ih =>
    intro m' k i j hm hJ h
    obtain ⟨h0, hij, h⟩ := h
    cases m' with
    | zero => omega
    | succ m' =>
      refine ⟨by omega, hij, ?_⟩
      rcases h with ⟨h1, w, h2, h3, h4, h5, h6⟩ | ⟨x, h1, h2, h3, h4⟩ | ⟨x, y, l, h1, h2, h3, h4, h5⟩
      · refine Or.inl ⟨h1, w, h2, ?_, ?_, ?_, ?_⟩
        · rw [hf _ (by omega)]; exact h3
        · rw [(hs i (by omega)).1]; exact h4
        · intro hw
          obtain ⟨e, a1, a2, a3⟩ := h5 hw
          exact ⟨e, a1, by rw [hf _ (by omega)]; exact a2, by rw [(hs i (by omega)).2.2]; exact a3⟩
        · intro hw
          rw [hf _ (by omega), hf _ (by omega), (hs i (by omega)).2.2, (hs i (by omega)).2.1]
          exact h6 hw
      · refine Or.inr (Or.inl ⟨x, ?_, ?_, ?_, ih m' x i (j - 1) (by omega) (by omega) h4⟩)
        · rw [hf _ (by omega)]; exact h1
        · rw [hf _ (by omega)]; exact h2
        · rw [(hs (j - 1) (by omega)).1]; exact h3
      · have hl : l ≤ J := by have := (t_tr_lt h5).2; omega
        refine Or.inr (Or.inr ⟨x, y, l, ?_, ?_, ?_, ih m' x i l (by omega) hl h4, ih m' y l (j - 1) (by omega) (by omega) h5⟩)
        · rw [hf _ (by omega), (hs (j - 1) (by omega)).1]; exact h1
        · rw [hf _ (by omega)]; exact h2
        · rw [hf _ (by omega)]; exact h3
theorem t_tr_e {B ne : Nat} {st : Nat → Option Nat} {sg nu nd f : Nat → Int32} (hB : B ≤ 60) (hf : ∀ k, k < 240 → f (135 + k) = nd k) : ∀ m k i j, t_tr B ne st sg nu nd m k i j → e_tr ne st sg nu f m k i j := by
  intro m
  induction m with
  | zero => intro k i j h; exact absurd h id
  | succ m ih =>
    intro k i j h
    obtain ⟨h0, hij, h⟩ := h
    have f0 : f (135 + 4 * k) = nd (4 * k) := hf _ (by omega)
    have f1 : f (136 + 4 * k) = nd (4 * k + 1) := by rw [show 136 + 4 * k = 135 + (4 * k + 1) by omega]; exact hf _ (by omega)
    have f2 : f (137 + 4 * k) = nd (4 * k + 2) := by rw [show 137 + 4 * k = 135 + (4 * k + 2) by omega]; exact hf _ (by omega)
    have f3 : f (138 + 4 * k) = nd (4 * k + 3) := by rw [show 138 + 4 * k = 135 + (4 * k + 3) by omega]; exact hf _ (by omega)
    refine ⟨by omega, hij, ?_⟩
    rw [f0, f1, f2]
    rcases h with ⟨h1, w, h2, h3, h4, h5, h6⟩ | ⟨x, h1, h2, h3, h4⟩ | ⟨x, y, l, h1, h2, h3, h4, h5⟩
    · refine Or.inl ⟨h1, w, h2, ?_, h4, ?_, ?_⟩
      · rw [f0]; exact h3
      · rw [f1]; exact h5
      · rw [f2, f3]; exact h6
    · exact Or.inr (Or.inl ⟨x, h1, h2, h3, ih x i (j - 1) h4⟩)
    · exact Or.inr (Or.inr ⟨x, y, l, h1, h2, h3, ih x i l h4, ih y l (j - 1) h5⟩)
-- frames
def t_yC (X Y : s_G) : Prop := ∀ a, ¬ a = 1 ∧ (a < 32 ∨ 35 < a) → Y.1 a = X.1 a ∧ Y.2.1 a = X.2.1 a ∧ Y.2.2 a = X.2.2 a
def t_yM (X Y : s_G) : Prop := (∀ a, ¬ a = 130 ∧ ¬ a = 151 → Y.1 a = X.1 a ∧ Y.2.1 a = X.2.1 a) ∧ Y.2.2 = X.2.2 ∧ ∀ k, k < 2 ∨ 13 < k ∧ k ≤ 43 → Y.1 130 k = X.1 130 k
theorem t_yC.rf (X : s_G) : t_yC X X := fun _ _ => ⟨rfl, rfl, rfl⟩
theorem t_yM.rf (X : s_G) : t_yM X X := ⟨fun _ _ => ⟨rfl, rfl⟩, rfl, fun _ _ => rfl⟩
theorem t_yC.tr {X Y Z : s_G} (h1 : t_yC X Y) (h2 : t_yC Y Z) : t_yC X Z := fun a ha => ⟨(h2 a ha).1.trans (h1 a ha).1, (h2 a ha).2.1.trans (h1 a ha).2.1, (h2 a ha).2.2.trans (h1 a ha).2.2⟩
theorem t_yM.tr {X Y Z : s_G} (h1 : t_yM X Y) (h2 : t_yM Y Z) : t_yM X Z := ⟨fun a ha => ⟨(h2.1 a ha).1.trans (h1.1 a ha).1, (h2.1 a ha).2.trans (h1.1 a ha).2⟩, h2.2.1.trans h1.2.1, fun k hk => (h2.2.2 k hk).trans (h1.2.2 k hk)⟩
theorem t_wC.y {X Y : s_G} (h : t_wC X Y) : t_yC X Y := fun a ha => h a ha.1
theorem t_wM.y {X Y : s_G} (h : t_wM X Y) : t_yM X Y := ⟨fun a ha => h.1 a ha.1, h.2.1, fun k hk => h.2.2 k (by omega)⟩
theorem t_yC.si {X : s_G} {c k : Nat} {v : Int32} (h : 32 ≤ c) (h2 : c ≤ 35) : t_yC X (s_si X c k v) := fun a ha => ⟨e_sN (by omega), rfl, rfl⟩
theorem t_yC.sr {X : s_G} {k : Nat} {v : Option Nat} : t_yC X (s_sr X 33 k v) := fun a ha => ⟨rfl, rfl, e_rN (by omega)⟩
theorem t_yM.s1 {X : s_G} {k : Nat} {v : Int32} : t_yM X (s_si X 151 k v) := ⟨fun a ha => ⟨e_sN (by omega), rfl⟩, rfl, fun k hk => by rw [e_sN (by omega)]⟩
theorem t_yM.s0 {X : s_G} {k : Nat} {v : Int32} (h : 43 < k) : t_yM X (s_si X 130 k v) := ⟨fun a ha => ⟨e_sN (by omega), rfl⟩, rfl, fun j hj => by rw [e_sS, e_vn _ _ (by omega)]⟩
/-- what is read so far of a sentence: ones, steps, how far within -/
def t_S (ne o s d : Nat) (C M : s_G) : Prop := ((o ≤ 20 ∧ s ≤ 2 * o) ∧ (C.1 32 5 = Int32.ofNat o ∧ M.1 130 45 = Int32.ofNat o) ∧ M.1 130 46 = Int32.ofNat d ∧ C.1 32 4 = Int32.ofNat s ∧ M.1 130 44 = Int32.ofNat s) ∧ (∀ k, k < 40 → s_okw (C.2.2 33 k) = true) ∧ (ne ≤ 10 ∧ C.1 3 1 = Int32.ofNat ne ∧ M.1 132 1 = Int32.ofNat ne) ∧ ∀ e, e < ne → e_nm (C.2.1 4 (7 + e)) (M.2.1 137 (7 + e))
theorem t_S_w {ne o s d : Nat} {C M C' M' : s_G} (h : t_S ne o s d C M) (c : t_wC C C') (m : t_wM M M') : t_S ne o s d C' M' := by
  unfold t_S
  rw [(c 32 (by omega)).1, (c 33 (by omega)).2.2, (c 3 (by omega)).1, (c 4 (by omega)).2.1, (m.1 132 (by omega)).1, (m.1 137 (by omega)).2, m.2.2 44 (by omega), m.2.2 45 (by omega), m.2.2 46 (by omega)]
  exact h
/-- a tree that was read: from step i on, its top at hand -/
def t_X (ne i s : Nat) (x : Int32) (C M : s_G) : Prop := ∃ k, x = Int32.ofNat k ∧ t_tr s ne (C.2.2 33) (C.1 34) (C.1 35) (M.1 151) (s - i) k i s
/-- the steps ahead are as they were -/
def t_A (s : Nat) (C M C' M' : s_G) : Prop := (∀ k, k < s → C'.2.2 33 k = C.2.2 33 k ∧ C'.1 34 k = C.1 34 k ∧ C'.1 35 k = C.1 35 k) ∧ ∀ k, k < 4 * s → M'.1 151 k = M.1 151 k
theorem t_A.rf (s : Nat) (C M : s_G) : t_A s C M C M := ⟨fun _ _ => ⟨rfl, rfl, rfl⟩, fun _ _ => rfl⟩
theorem t_A.tr {s s' : Nat} {C M C1 M1 C2 M2 : s_G} (h1 : t_A s C M C1 M1) (h2 : t_A s' C1 M1 C2 M2) (hs : s ≤ s') : t_A s C M C2 M2 := by
  refine ⟨fun k hk => ?_, fun k hk => ?_⟩
  · obtain ⟨a1, a2, a3⟩ := h1.1 k hk
    obtain ⟨b1, b2, b3⟩ := h2.1 k (by omega)
    exact ⟨b1.trans a1, b2.trans a2, b3.trans a3⟩
  · exact (h2.2 k (by omega)).trans (h1.2 k hk)
theorem t_A_w {s : Nat} {C M C' M' : s_G} (c : t_wC C C') (m : t_wM M M') : t_A s C M C' M' := ⟨fun k _ => by rw [(c 33 (by omega)).2.2, (c 34 (by omega)).1, (c 35 (by omega)).1]; exact ⟨rfl, rfl, rfl⟩, fun k _ => by rw [(m.1 151 (by omega)).1]⟩
theorem t_X_cg {ne i s : Nat} {x : Int32} {C M C' M' : s_G} (h : t_X ne i s x C M) (hA : t_A s C M C' M') : t_X ne i s x C' M' := by
  obtain ⟨k, h1, h2⟩ := h
  exact ⟨k, h1, t_tr_cg (Nat.le_refl s) hA.2 hA.1 _ _ k i s (Nat.le_refl _) (Nat.le_refl _) h2⟩
/-- what a reading of a sentence's piece comes to -/
def t_OS (n m ne d a o s : Nat) (C M : s_G) (oc om : Option (Int32 × s_G)) : Prop := (∃ C' M' t' a' p' o' s', oc = some (1, C') ∧ om = some (1, M') ∧ t_P n m t' a' p' C' M' ∧ t_S ne o' s' d C' M' ∧ (s' + 2 * o + 1 ≤ s + 2 * o' ∧ o < o' ∧ s < s') ∧ t_X ne s s' (M'.1 130 47) C' M' ∧ t_A s C M C' M' ∧ t_yC C C' ∧ t_yM M M') ∨ (∃ C' M', oc = some (0, C') ∧ om = some (0, M') ∧ t_F C' M' ∧ ((∀ k, k < 40 → s_okw (C'.2.2 33 k) = true) ∧ ∃ q, q ≤ 40 ∧ C'.1 32 4 = Int32.ofNat q) ∧ t_yC C C' ∧ t_yM M M')
def t_KS (n m ne d : Nat) (KC KM : s_G → Option (Int32 × s_G)) : Prop := ∀ (C M : s_G) (t : t_Tk) (a p o s : Nat), t_P n m t a p C M → t_S ne o s d C M → t_OS n m ne d a o s C M (KC C) (KM M)
-- one more step
def t_aC (w : Nat) (x2 x3 : Int32) (s : Nat) (C : s_G) : s_G := s_si (s_si (s_si (s_sr C 33 s (some w)) 34 s x2) 35 s x3) 32 4 (Int32.ofNat (s + 1))
theorem t_addC {C : s_G} {w s : Nat} {x2 x3 : Int32} (hw : s_okw (some w) = true) (hs : s < 40) (h : C.1 32 4 = Int32.ofNat s) : fS_addStep_32 (some w) x2 x3 C = some (t_aC w x2 x3 s C) := by
  unfold fS_addStep_32
  rw [h, if_pos (show Int32.ofNat s < 40 from e_T (b := 40) hs (by omega)), if_pos hw, e_ix hs (by omega), s_b1_s, s_b1_s, e_inc]
  rfl
/-- whatever came before -/
theorem t_addF {C : s_G} {w q : Nat} {x2 x3 : Int32} (hw : s_okw (some w) = true) (hq : q ≤ 40) (h : C.1 32 4 = Int32.ofNat q) (hok : ∀ k, k < 40 → s_okw (C.2.2 33 k) = true) : ∃ C', fS_addStep_32 (some w) x2 x3 C = some C' ∧ C'.1 1 = C.1 1 ∧ C'.1 2 = C.1 2 ∧ ((∀ k, k < 40 → s_okw (C'.2.2 33 k) = true) ∧ ∃ q, q ≤ 40 ∧ C'.1 32 4 = Int32.ofNat q) ∧ t_yC C C' := by
  by_cases hq2 : q < 40
  · refine ⟨_, t_addC hw hq2 h, ?_, ?_, ⟨fun k hk => ?_, q + 1, by omega, ?_⟩, ?_⟩
    · unfold t_aC; rw [e_sN (by omega), e_sN (by omega), e_sN (by omega)]; rfl
    · unfold t_aC; rw [e_sN (by omega), e_sN (by omega), e_sN (by omega)]; rfl
    · show s_okw ((s_sr C 33 q (some w)).2.2 33 k) = true
      rw [e_rS]
      by_cases hk2 : k = q
      · subst hk2; rw [e_ve]; exact hw
      · rw [e_vn _ _ hk2]; exact hok k hk
    · unfold t_aC; rw [e_sS, e_ve]
    · exact ((t_yC.sr.tr (t_yC.si (by omega) (by omega))).tr (t_yC.si (by omega) (by omega))).tr (t_yC.si (by omega) (by omega))
  · refine ⟨C, ?_, rfl, rfl, ⟨hok, q, hq, h⟩, t_yC.rf C⟩
    unfold fS_addStep_32
    rw [h, if_neg (show ¬ Int32.ofNat q < 40 from e_F (b := 40) (by omega) (by omega))]
def t_aM (x1 x2 x3 x4 : Int32) (s : Nat) (M : s_G) : s_G := s_si (s_si (s_si (s_si (s_si M 151 (4 * s) x1) 151 (4 * s + 1) x2) 151 (4 * s + 2) x3) 151 (4 * s + 3) x4) 130 44 (Int32.ofNat (s + 1))
theorem t_addM {M : s_G} {s : Nat} {x1 x2 x3 x4 : Int32} (hs : s < 40) (h : M.1 130 44 = Int32.ofNat s) : fM_saysOne_130 x1 x2 x3 x4 M = some (Int32.ofNat s, t_aM x1 x2 x3 x4 s M) := by
  unfold fM_saysOne_130
  rw [h, show (4 : Int32) * Int32.ofNat s = Int32.ofNat (4 * s) from by rw [Int32.ofNat_mul]; rfl, show Int32.ofNat (4 * s) + 1 = Int32.ofNat (4 * s + 1) from by rw [Int32.ofNat_add]; rfl, show Int32.ofNat (4 * s) + 2 = Int32.ofNat (4 * s + 2) from by rw [Int32.ofNat_add]; rfl, show Int32.ofNat (4 * s) + 3 = Int32.ofNat (4 * s + 3) from by rw [Int32.ofNat_add]; rfl, e_ix (show 4 * s < 240 by omega) (by omega), s_b1_s, e_ix (show 4 * s + 1 < 240 by omega) (by omega), s_b1_s, e_ix (show 4 * s + 2 < 240 by omega) (by omega), s_b1_s, e_ix (show 4 * s + 3 < 240 by omega) (by omega), s_b1_s, Int32.add_sub_cancel, e_inc]
  rfl
theorem t_aM_nd {M : s_G} {s : Nat} {x1 x2 x3 x4 : Int32} : (t_aM x1 x2 x3 x4 s M).1 151 (4 * s) = x1 ∧ (t_aM x1 x2 x3 x4 s M).1 151 (4 * s + 1) = x2 ∧ (t_aM x1 x2 x3 x4 s M).1 151 (4 * s + 2) = x3 ∧ (t_aM x1 x2 x3 x4 s M).1 151 (4 * s + 3) = x4 := by
  unfold t_aM
  simp (disch := omega) only [e_sN, e_sS, e_vn, e_ve]
  exact ⟨trivial, trivial, trivial, trivial⟩
theorem t_aC_st {C : s_G} {w s : Nat} {x2 x3 : Int32} : (t_aC w x2 x3 s C).2.2 33 s = some w ∧ (t_aC w x2 x3 s C).1 34 s = x2 ∧ (t_aC w x2 x3 s C).1 35 s = x3 := by
  refine ⟨?_, ?_, ?_⟩
  · show (s_sr C 33 s (some w)).2.2 33 s = some w
    rw [e_rS, e_ve]
  · unfold t_aC; rw [e_sN (by omega), e_sN (by omega), e_sS, e_ve]
  · unfold t_aC; rw [e_sN (by omega), e_sS, e_ve]
theorem t_aCM_A {C M : s_G} {w s : Nat} {x2 x3 y1 y2 y3 y4 : Int32} : t_A s C M (t_aC w x2 x3 s C) (t_aM y1 y2 y3 y4 s M) := by
  refine ⟨fun k hk => ⟨?_, ?_, ?_⟩, fun k hk => ?_⟩
  · show (s_sr C 33 s (some w)).2.2 33 k = _
    rw [e_rS, e_vn _ _ (by omega)]
  · unfold t_aC; rw [e_sN (by omega), e_sN (by omega), e_sS, e_vn _ _ (by omega)]; rfl
  · unfold t_aC; rw [e_sN (by omega), e_sS, e_vn _ _ (by omega), e_sN (by omega)]; rfl
  · unfold t_aM; simp (disch := omega) only [e_sN, e_sS, e_vn]
theorem t_aC_y {C : s_G} {w s : Nat} {x2 x3 : Int32} : t_yC C (t_aC w x2 x3 s C) := ((t_yC.sr.tr (t_yC.si (by omega) (by omega))).tr (t_yC.si (by omega) (by omega))).tr (t_yC.si (by omega) (by omega))
theorem t_aM_y {M : s_G} {s : Nat} {y1 y2 y3 y4 : Int32} : t_yM M (t_aM y1 y2 y3 y4 s M) := (((t_yM.s1.tr t_yM.s1).tr t_yM.s1).tr t_yM.s1).tr (t_yM.s0 (by omega))
theorem t_a_P {n m a p s w : Nat} {t : t_Tk} {C M : s_G} {x2 x3 y1 y2 y3 y4 : Int32} (h : t_P n m t a p C M) : t_P n m t a p (t_aC w x2 x3 s C) (t_aM y1 y2 y3 y4 s M) := by
  refine t_P_cg h ?_ ?_ rfl ?_ (fun k hk => ?_) ?_ rfl
  · unfold t_aC; rw [e_sN (by omega), e_sN (by omega), e_sN (by omega)]; rfl
  · unfold t_aC; rw [e_sN (by omega), e_sN (by omega), e_sN (by omega)]; rfl
  · show (s_sr C 33 s (some w)).2.2 1 = _
    exact e_rN (by omega)
  · unfold t_aM; rw [e_sS, e_vn _ _ (by omega), e_sN (by omega), e_sN (by omega), e_sN (by omega), e_sN (by omega)]
  · unfold t_aM; rw [e_sN (by omega), e_sN (by omega), e_sN (by omega), e_sN (by omega), e_sN (by omega)]
theorem t_a_S {ne o s d w : Nat} {C M : s_G} {x2 x3 y1 y2 y3 y4 : Int32} (h : t_S ne o s d C M) (hw : s_okw (some w) = true) (hs : s + 1 ≤ 2 * o) : t_S ne o (s + 1) d (t_aC w x2 x3 s C) (t_aM y1 y2 y3 y4 s M) := by
  obtain ⟨⟨⟨h1, h2⟩, ⟨h3, h4⟩, h5, h6, h7⟩, h8, ⟨h9, h10, h11⟩, h12⟩ := h
  refine ⟨⟨⟨h1, hs⟩, ⟨?_, ?_⟩, ?_, ?_, ?_⟩, fun k hk => ?_, ⟨h9, ?_, ?_⟩, fun e he => ?_⟩
  · unfold t_aC; rw [e_sS, e_vn _ _ (by omega), e_sN (by omega), e_sN (by omega)]; exact h3
  · unfold t_aM; rw [e_sS, e_vn _ _ (by omega), e_sN (by omega), e_sN (by omega), e_sN (by omega), e_sN (by omega)]; exact h4
  · unfold t_aM; rw [e_sS, e_vn _ _ (by omega), e_sN (by omega), e_sN (by omega), e_sN (by omega), e_sN (by omega)]; exact h5
  · unfold t_aC; rw [e_sS, e_ve]
  · unfold t_aM; rw [e_sS, e_ve]
  · show s_okw ((s_sr C 33 s (some w)).2.2 33 k) = true
    rw [e_rS]
    by_cases hk2 : k = s
    · subst hk2; rw [e_ve]; exact hw
    · rw [e_vn _ _ hk2]; exact h8 k hk
  · rw [(t_aC_y 3 (by omega)).1]; exact h10
  · rw [(t_aM_y.1 132 (by omega)).1]; exact h11
  · rw [(t_aC_y 4 (by omega)).2.1, (t_aM_y.1 137 (by omega)).2]; exact h12 e he
/-- within another number -/
theorem t_S_d {ne o s d : Nat} {C M : s_G} (h : t_S ne o s d C M) (d' : Nat) : t_S ne o s d' C (s_si M 130 46 (Int32.ofNat d')) := by
  obtain ⟨⟨⟨h1, h2⟩, ⟨h3, h4⟩, h5, h6, h7⟩, h8, ⟨h9, h10, h11⟩, h12⟩ := h
  refine ⟨⟨⟨h1, h2⟩, ⟨h3, ?_⟩, ?_, h6, ?_⟩, h8, ⟨h9, h10, ?_⟩, h12⟩
  · rw [e_sS, e_vn _ _ (by omega)]; exact h4
  · rw [e_sS, e_ve]
  · rw [e_sS, e_vn _ _ (by omega)]; exact h7
  · rw [e_sN (by omega)]; exact h11
theorem t_P_hi {n m a p k : Nat} {t : t_Tk} {C M : s_G} {v : Int32} (h : t_P n m t a p C M) (hk : 12 < k) : t_P n m t a p C (s_si M 130 k v) := t_P_m h (fun j hj => by rw [e_sS, e_vn _ _ (by omega)]) (e_sN (by omega)) rfl
theorem t_S_47 {ne o s d : Nat} {C M : s_G} {v : Int32} (h : t_S ne o s d C M) : t_S ne o s d C (s_si M 130 47 v) := by
  obtain ⟨⟨⟨h1, h2⟩, ⟨h3, h4⟩, h5, h6, h7⟩, h8, ⟨h9, h10, h11⟩, h12⟩ := h
  refine ⟨⟨⟨h1, h2⟩, ⟨h3, ?_⟩, ?_, h6, ?_⟩, h8, ⟨h9, h10, ?_⟩, h12⟩
  · rw [e_sS, e_vn _ _ (by omega)]; exact h4
  · rw [e_sS, e_vn _ _ (by omega)]; exact h5
  · rw [e_sS, e_vn _ _ (by omega)]; exact h7
  · rw [e_sN (by omega)]; exact h11
