-- WHAT CLASS AND REFERENCE AGREE IN, BETWEEN CALLS
-- names: letters 1..26, packed by 32 and by 27
def e_pk (B : Nat) (l : List Nat) : Nat := l.foldl (fun v c => B * v + c) 0
def e_ltr (l : List Nat) : Prop := 1 ≤ l.length ∧ l.length ≤ 7 ∧ ∀ c, c ∈ l → 1 ≤ c ∧ c ≤ 26
def e_nm (x y : Int64) : Prop := ∃ l, e_ltr l ∧ x = Int64.ofNat (e_pk 32 l) ∧ y = Int64.ofNat (e_pk 27 l)
def e_NM (nb ne : Nat) (x y : Nat → Int64) : Prop := (∀ b, b < nb → e_nm (x b) (y b)) ∧ ∀ e, e < ne → e_nm (x (7 + e)) (y (7 + e))
-- sentences: a node of the reference's, and the class's steps from i on till ahead of j
def e_lf (ne : Nat) (st : Nat → Option Nat) (sg nu f : Nat → Int32) (k i : Nat) : Prop := ∃ w, (20 ≤ w ∧ w ≤ 28) ∧ f (135 + 4 * k) = Int32.ofNat (50 + w) ∧ st i = some (1000 + w) ∧ (w = 23 ∨ w = 24 → ∃ e, e < ne ∧ f (136 + 4 * k) = Int32.ofNat e ∧ nu i = Int32.ofNat e) ∧ (25 ≤ w → f (137 + 4 * k) = nu i ∧ f (138 + 4 * k) = sg i ∧ (sg i = 60 ∨ sg i = 61 ∨ sg i = 62))
def e_tr (ne : Nat) (st : Nat → Option Nat) (sg nu f : Nat → Int32) : Nat → Nat → Nat → Nat → Prop
  | 0, _, _, _ => False
  | m + 1, k, i, j => k < 60 ∧ i < j ∧ ((j = i + 1 ∧ e_lf ne st sg nu f k i) ∨ (∃ x, f (135 + 4 * k) = 1 ∧ f (136 + 4 * k) = Int32.ofNat x ∧ st (j - 1) = some 1019 ∧ e_tr ne st sg nu f m x i (j - 1)) ∨ ∃ x y l, ((f (135 + 4 * k) = 2 ∧ st (j - 1) = some 1018) ∨ (f (135 + 4 * k) = 3 ∧ st (j - 1) = some 1017)) ∧ f (136 + 4 * k) = Int32.ofNat x ∧ f (137 + 4 * k) = Int32.ofNat y ∧ e_tr ne st sg nu f m x i l ∧ e_tr ne st sg nu f m y l (j - 1))
def e_SE (ne : Nat) (o : Nat → Int32) (st : Nat → Option Nat) (sg nu f : Nat → Int32) : Prop := (∀ k, k < 40 → s_okw (st k) = true) ∧ ((o 6 = 0 ∧ f 133 = 0) ∨ (o 6 = 1 ∧ f 133 = 1 ∧ ∃ n t, n ≤ 40 ∧ o 4 = Int32.ofNat n ∧ f 134 = Int32.ofNat t ∧ e_tr ne st sg nu f n t 0 n))
theorem e_tr_cg {ne : Nat} {st st' : Nat → Option Nat} {sg sg' nu nu' f f' : Nat → Int32} (hf : ∀ k, 133 ≤ k → k < 375 → f' k = f k) {J : Nat} (hs : ∀ k, k < J → st' k = st k ∧ sg' k = sg k ∧ nu' k = nu k) : ∀ m k i j, j ≤ J → e_tr ne st sg nu f m k i j → e_tr ne st' sg' nu' f' m k i j := by
  intro m
  induction m with
  | zero => intro k i j hJ h; exact h
  | succ m ih =>
    intro k i j hJ h
    obtain ⟨h0, hij, h⟩ := h
    refine ⟨h0, hij, ?_⟩
    rcases h with ⟨h1, w, h2, h3, h4, h5, h6⟩ | ⟨x, h1, h2, h3, h4⟩ | ⟨x, y, l, h1, h2, h3, h4, h5⟩
    · refine Or.inl ⟨h1, w, h2, ?_, ?_, ?_, ?_⟩
      · rw [hf _ (by omega) (by omega)]; exact h3
      · rw [(hs i (by omega)).1]; exact h4
      · intro hw
        obtain ⟨e, a1, a2, a3⟩ := h5 hw
        exact ⟨e, a1, by rw [hf _ (by omega) (by omega)]; exact a2, by rw [(hs i (by omega)).2.2]; exact a3⟩
      · intro hw
        rw [hf _ (by omega) (by omega), hf _ (by omega) (by omega), (hs i (by omega)).2.2, (hs i (by omega)).2.1]
        exact h6 hw
    · refine Or.inr (Or.inl ⟨x, ?_, ?_, ?_, ih x i (j - 1) (by omega) h4⟩)
      · rw [hf _ (by omega) (by omega)]; exact h1
      · rw [hf _ (by omega) (by omega)]; exact h2
      · rw [(hs (j - 1) (by omega)).1]; exact h3
    · have hl : l ≤ J := by
        cases m with
        | zero => exact absurd h5 id
        | succ m => have := h5.2.1; omega
      refine Or.inr (Or.inr ⟨x, y, l, ?_, ?_, ?_, ih x i l hl h4, ih y l (j - 1) (by omega) h5⟩)
      · rw [hf _ (by omega) (by omega), (hs (j - 1) (by omega)).1]; exact h1
      · rw [hf _ (by omega) (by omega)]; exact h2
      · rw [hf _ (by omega) (by omega)]; exact h3
theorem e_SE_cg {ne : Nat} {o : Nat → Int32} {st st' : Nat → Option Nat} {sg sg' nu nu' f f' : Nat → Int32} (h : e_SE ne o st sg nu f) (hf : ∀ k, 133 ≤ k → k < 375 → f' k = f k) (hs : ∀ k, k < 40 → st' k = st k ∧ sg' k = sg k ∧ nu' k = nu k) : e_SE ne o st' sg' nu' f' := by
  refine ⟨fun k hk => by rw [(hs k hk).1]; exact h.1 k hk, ?_⟩
  rw [hf 133 (by omega) (by omega)]
  rcases h.2 with h | ⟨h1, h2, n, t, h3, h4, h5, h6⟩
  · exact Or.inl h
  · refine Or.inr ⟨h1, h2, n, t, h3, h4, ?_, e_tr_cg hf hs n t 0 n h3 h6⟩
    rw [hf 134 (by omega) (by omega)]; exact h5
/-- a camp with its state and its sentence: camp's cells from cc on, state's from tt, sentence's from ss -/
def e_core (cc tt ss nb ne : Nat) (g : s_G) (f : Nat → Int32) (mn : Nat → Int64) : Prop := e_HW nb ne f ∧ e_CR nb ne (g.1 cc) (g.1 (cc + 2)) (g.1 (cc + 3)) (g.1 (cc + 4)) (g.1 (cc + 5)) (g.1 (cc + 6)) f ∧ e_NM nb ne (g.2.1 (cc + 1)) mn ∧ e_TA tt g f ∧ e_SW nb ne f ∧ e_SE ne (g.1 ss) (g.2.2 (ss + 1)) (g.1 (ss + 2)) (g.1 (ss + 3)) f
/-- an image -/
def e_im (k : Nat) (g : s_G) : Prop := (g.1 (86 + 18 * k) 3 = 0 ∧ g.1 140 k = 0) ∨ (g.1 (86 + 18 * k) 3 = 1 ∧ g.1 140 k = 1 ∧ ∃ nb ne, e_core (87 + 18 * k) (94 + 18 * k) (99 + 18 * k) nb ne g (fun i => g.1 134 (375 * k + i)) (fun i => g.2.1 139 (17 * k + i)))
def e_by (x y : Nat → Int32) : Prop := ∀ k, k < 940 → ∃ u, u < 256 ∧ y k = Int32.ofNat u ∧ x k = (Int32.ofNat u).toInt8.toInt32
def e_tp (l m : Int32) (x y : Nat → Int32) : Prop := (∃ n, n ≤ 940 ∧ l = Int32.ofNat n ∧ m = Int32.ofNat n) ∧ e_by x y
/-- a row of at most N numbers -/
def e_rw (N : Nat) (l m : Int32) (x y : Nat → Int32) : Prop := ∃ n, n ≤ N ∧ l = Int32.ofNat n ∧ m = Int32.ofNat n ∧ ∀ k, k < n → x k = y k
def e_sp (l m h : Int32) (x y : Nat → Int32) : Prop := (h = 0 ∧ l = 0) ∨ (¬ h = 0 ∧ e_rw 7 l m x y)
def e_wa (x w : Int32) : Prop := ∀ g : s_G, g.1 127 0 = x → fL_findWatch_127 g = some w
def e_bo (o : Nat → Int32) (h : Int32) (y : Nat → Int32) : Prop := (o 6 = 0 ∧ h = 0) ∨ (o 6 = 1 ∧ ¬ h = 0 ∧ ∀ k, k < 4 → o (7 + k) = y k)
/-- all but camp, state, sentence, and what can be undone -/
def e_R (g : s_G) : Prop := (e_tp (g.1 1 1) (g.1 130 2) (g.1 2) (g.1 131) ∧ g.1 0 1 = g.1 130 10) ∧ (e_rw 7 (g.1 122 1) (g.1 130 28) (g.1 123) (g.1 144) ∧ e_sp (g.1 122 3) (g.1 130 30) (g.1 130 31) (g.1 124) (g.1 145) ∧ g.1 122 4 = g.1 130 32) ∧ (e_wa (g.1 127 0) (g.1 130 34) ∧ e_rw 64 (g.1 0 15) (g.1 130 37) (g.1 129) (g.1 148) ∧ e_bo (g.1 37) (g.1 130 42) (g.1 150)) ∧ (e_im 0 g ∧ e_im 1 g) ∧ ∀ k, k < 40 → s_okw (g.2.2 33 k) = true
def e_H (nb ne n p : Nat) (hs : Nat → Nat → Int32) (g : s_G) : Prop := e_HC n p hs g ∧ e_HM n hs g ∧ ∀ j, j < n → e_SW nb ne (hs j)
def e_J (nb ne n p : Nat) (hs : Nat → Nat → Int32) (g : s_G) : Prop := e_core 3 17 27 nb ne g (g.1 132) (g.2.1 137) ∧ e_H nb ne n p hs g
def e_I (g : s_G) : Prop := e_R g ∧ ∃ nb ne n p hs, e_J nb ne n p hs g
theorem e_core_cg {cc tt ss nb ne : Nat} {g g' : s_G} {f f' : Nat → Int32} {mn mn' : Nat → Int64} (h : e_core cc tt ss nb ne g f mn) (hc : ∀ a, cc ≤ a → a ≤ cc + 6 → g'.1 a = g.1 a) (hn : g'.2.1 (cc + 1) = g.2.1 (cc + 1)) (ht : ∀ a, tt ≤ a → a ≤ tt + 4 → g'.1 a = g.1 a) (hs : g'.1 ss = g.1 ss ∧ g'.2.2 (ss + 1) = g.2.2 (ss + 1) ∧ g'.1 (ss + 2) = g.1 (ss + 2) ∧ g'.1 (ss + 3) = g.1 (ss + 3)) (hf : ∀ k, k < 375 → f' k = f k) (hm : ∀ k, k < 17 → mn' k = mn k) : e_core cc tt ss nb ne g' f' mn' := by
  obtain ⟨h1, h2, h3, h4, h5, h6⟩ := h
  have hnb := h1.1.1
  have hne := h1.2.1.1
  refine ⟨e_HW_cg h1 (fun k hk => hf k (by omega)), ?_, ?_, e_TA_cg h4 ht (fun k _ hk => hf k (by omega)), e_SW_cg h5 (fun k _ hk => hf k (by omega)), ?_⟩
  · rw [hc cc (by omega) (by omega), hc (cc + 2) (by omega) (by omega), hc (cc + 3) (by omega) (by omega), hc (cc + 4) (by omega) (by omega), hc (cc + 5) (by omega) (by omega), hc (cc + 6) (by omega) (by omega)]
    exact e_CR_cg hnb hne h2 (fun k hk => hf k (by omega))
  · rw [hn]
    refine ⟨fun b hb => ?_, fun e he => ?_⟩
    · rw [hm b (by omega)]; exact h3.1 b hb
    · rw [hm (7 + e) (by omega)]; exact h3.2 e he
  · rw [hs.1, hs.2.1, hs.2.2.1, hs.2.2.2]
    exact e_SE_cg h6 (fun k _ hk => hf k hk) (fun k _ => ⟨rfl, rfl, rfl⟩)
theorem e_im_cg {k : Nat} {g g' : s_G} (h : e_im k g) (hk : k < 2) (hg : ∀ a, 86 ≤ a → a ≤ 121 → g'.1 a = g.1 a) (h4 : g'.1 134 = g.1 134) (h5 : g'.1 140 = g.1 140) (h6 : g'.2.1 (87 + 18 * k + 1) = g.2.1 (87 + 18 * k + 1)) (h7 : g'.2.1 139 = g.2.1 139) (h8 : g'.2.2 (99 + 18 * k + 1) = g.2.2 (99 + 18 * k + 1)) : e_im k g' := by
  unfold e_im
  rw [hg (86 + 18 * k) (by omega) (by omega), h4, h5, h7]
  rcases h with h | ⟨h1, h2, nb, ne, h3⟩
  · exact Or.inl h
  · refine Or.inr ⟨h1, h2, nb, ne, ?_⟩
    refine e_core_cg h3 (fun a ha hb => hg a (by omega) (by omega)) h6 (fun a ha hb => hg a (by omega) (by omega)) ⟨hg _ (by omega) (by omega), h8, hg _ (by omega) (by omega), hg _ (by omega) (by omega)⟩ (fun _ _ => rfl) (fun _ _ => rfl)
/-- the fields of the reference that the rest speaks of -/
def e_f130 (x y : Nat → Int32) : Prop := (y 2 = x 2 ∧ y 10 = x 10 ∧ y 28 = x 28 ∧ y 30 = x 30) ∧ (y 31 = x 31 ∧ y 32 = x 32 ∧ y 34 = x 34 ∧ y 37 = x 37 ∧ y 42 = x 42)
/-- the cells that the rest speaks of -/
def e_rc (a : Nat) : Prop := a ≤ 2 ∨ a = 37 ∨ (85 ≤ a ∧ a ≤ 124) ∨ a = 127 ∨ a = 129 ∨ a = 131 ∨ a = 134 ∨ a = 140 ∨ a = 144 ∨ a = 145 ∨ a = 148 ∨ a = 150
/-- the longs and references that the rest speaks of -/
def e_lr (g g' : s_G) : Prop := (g'.2.1 88 = g.2.1 88 ∧ g'.2.1 106 = g.2.1 106 ∧ g'.2.1 139 = g.2.1 139) ∧ g'.2.2 100 = g.2.2 100 ∧ g'.2.2 118 = g.2.2 118 ∧ g'.2.2 33 = g.2.2 33
theorem e_lr.of {g g' : s_G} (h : g'.2 = g.2) : e_lr g g' := by unfold e_lr; rw [h]; exact ⟨⟨rfl, rfl, rfl⟩, rfl, rfl, rfl⟩
theorem e_R_cl {g g' : s_G} (h : e_R g) (hg : ∀ a, e_rc a → g'.1 a = g.1 a) (h1 : e_f130 (g.1 130) (g'.1 130)) (h2 : e_lr g g') : e_R g' := by
  obtain ⟨⟨a1, a2⟩, ⟨b1, b2, b3⟩, ⟨c1, c2, c3⟩, ⟨d1, d2⟩, d3⟩ := h
  obtain ⟨⟨p1, p2, p3, p4⟩, p5, p6, p7, p8, p9⟩ := h1
  obtain ⟨⟨l1, l2, l3⟩, l4, l5, l6⟩ := h2
  have q : ∀ a, (a ≤ 2 ∨ a = 37 ∨ (85 ≤ a ∧ a ≤ 124) ∨ a = 127 ∨ a = 129 ∨ a = 131 ∨ a = 134 ∨ a = 140 ∨ a = 144 ∨ a = 145 ∨ a = 148 ∨ a = 150) → g'.1 a = g.1 a := hg
  unfold e_R
  rw [q 0 (by omega), q 1 (by omega), q 2 (by omega), q 37 (by omega), q 122 (by omega), q 123 (by omega), q 124 (by omega), q 127 (by omega), q 129 (by omega), q 131 (by omega), q 144 (by omega), q 145 (by omega), q 148 (by omega), q 150 (by omega), p1, p2, p3, p4, p5, p6, p7, p8, p9, l6]
  exact ⟨⟨a1, a2⟩, ⟨b1, b2, b3⟩, ⟨c1, c2, c3⟩, ⟨e_im_cg d1 (by omega) (fun a _ _ => q a (by omega)) (q _ (by omega)) (q _ (by omega)) l1 l3 l4, e_im_cg d2 (by omega) (fun a _ _ => q a (by omega)) (q _ (by omega)) (q _ (by omega)) l2 l3 l5⟩, d3⟩
theorem e_R_cg {g g' : s_G} (h : e_R g) (hg : ∀ a, e_rc a → g'.1 a = g.1 a) (h1 : e_f130 (g.1 130) (g'.1 130)) (h2 : g'.2 = g.2) : e_R g' := e_R_cl h hg h1 (e_lr.of h2)
theorem e_f130.rf (x : Nat → Int32) : e_f130 x x := ⟨⟨rfl, rfl, rfl, rfl⟩, rfl, rfl, rfl, rfl, rfl⟩
theorem e_f130.tr {x y z : Nat → Int32} (h : e_f130 x y) (h' : e_f130 y z) : e_f130 x z := by
  obtain ⟨⟨a1, a2, a3, a4⟩, a5, a6, a7, a8, a9⟩ := h
  obtain ⟨⟨b1, b2, b3, b4⟩, b5, b6, b7, b8, b9⟩ := h'
  exact ⟨⟨b1.trans a1, b2.trans a2, b3.trans a3, b4.trans a4⟩, b5.trans a5, b6.trans a6, b7.trans a7, b8.trans a8, b9.trans a9⟩
theorem e_f130.up {x : Nat → Int32} {k : Nat} {v : Int32} (h : ¬ (k = 2 ∨ k = 10 ∨ k = 28 ∨ k = 30 ∨ k = 31 ∨ k = 32 ∨ k = 34 ∨ k = 37 ∨ k = 42)) : e_f130 x (va_up x k v) := ⟨⟨e_vn _ _ (by omega), e_vn _ _ (by omega), e_vn _ _ (by omega), e_vn _ _ (by omega)⟩, e_vn _ _ (by omega), e_vn _ _ (by omega), e_vn _ _ (by omega), e_vn _ _ (by omega), e_vn _ _ (by omega)⟩
theorem e_H_cg {nb ne n p : Nat} {hs : Nat → Nat → Int32} {g g' : s_G} (h : e_H nb ne n p hs g) (hg : ∀ a, 43 ≤ a → a ≤ 84 → g'.1 a = g.1 a) (h1 : g'.1 130 25 = g.1 130 25) (h2 : g'.1 135 = g.1 135) : e_H nb ne n p hs g' := ⟨e_HC_cg h.1 hg, e_HM_cg h.2.1 h1 h2, h.2.2⟩
/-- nothing of it has changed -/
theorem e_J_cg {nb ne n p : Nat} {hs : Nat → Nat → Int32} {g g' : s_G} (h : e_J nb ne n p hs g) (hg : ∀ a, 3 ≤ a ∧ a ≤ 9 ∨ 17 ≤ a ∧ a ≤ 21 ∨ 27 ≤ a ∧ a ≤ 30 ∨ 43 ≤ a ∧ a ≤ 84 ∨ a = 132 ∨ a = 135 → g'.1 a = g.1 a) (h1 : g'.1 130 25 = g.1 130 25) (h2 : g'.2 = g.2) : e_J nb ne n p hs g' := by
  refine ⟨?_, e_H_cg h.2 (fun a _ _ => hg a (by omega)) h1 (hg 135 (by omega))⟩
  refine e_core_cg h.1 (fun a _ _ => hg a (by omega)) (by rw [h2]) (fun a _ _ => hg a (by omega)) ⟨hg _ (by omega), by rw [h2], hg _ (by omega), hg _ (by omega)⟩ (fun k _ => by rw [hg 132 (by omega)]) (fun k _ => by rw [h2])
theorem e_I_0 {g : s_G} (h : e_I g) (v : Int32) : e_I (s_si g 130 0 v) := by
  obtain ⟨hR, nb, ne, n, p, hs, hJ⟩ := h
  have hc : ∀ a, ¬ a = 130 → (s_si g 130 0 v).1 a = g.1 a := fun a ha => e_ua _ _ _ ha
  have h0 : (s_si g 130 0 v).1 130 = va_up (g.1 130) 0 v := e_sS
  refine ⟨e_R_cg hR (fun a ha => hc a (by unfold e_rc at ha; omega)) (by rw [h0]; exact e_f130.up (by omega)) rfl, nb, ne, n, p, hs, ?_⟩
  exact e_J_cg hJ (fun a ha => hc a (by omega)) (by rw [h0, e_vn _ _ (by omega)]) rfl
/-- the cells that agreement speaks of -/
def e_kc (a : Nat) : Prop := e_rc a ∨ 3 ≤ a ∧ a ≤ 9 ∨ 17 ≤ a ∧ a ≤ 21 ∨ 27 ≤ a ∧ a ≤ 30 ∨ 43 ≤ a ∧ a ≤ 84 ∨ a = 132 ∨ a = 135
theorem e_I_cg {g g' : s_G} (h : e_I g) (hg : ∀ a, e_kc a → g'.1 a = g.1 a) (h1 : e_f130 (g.1 130) (g'.1 130)) (h3 : g'.1 130 25 = g.1 130 25) (h2 : g'.2 = g.2) : e_I g' := by
  obtain ⟨hR, nb, ne, n, p, hs, hJ⟩ := h
  exact ⟨e_R_cg hR (fun a ha => hg a (Or.inl ha)) h1 h2, nb, ne, n, p, hs, e_J_cg hJ (fun a ha => hg a (Or.inr ha)) h3 h2⟩
