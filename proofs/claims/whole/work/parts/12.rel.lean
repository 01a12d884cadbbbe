-- how the pure machine's cells lie in the heap
def s_v (ρ : Nat → Nat) (v : Value) : Value := match v with
  | .ref a => .ref (ρ a)
  | w => w
theorem s_v_cat (ρ : Nat → Nat) (v : Value) : (s_v ρ v).category = v.category := by cases v <;> rfl
theorem s_cat_map (ρ : Nat → Nat) (st : List Value) : ((st.map (s_v ρ)).map fun v => v.category).sum = s_cat st := by
  induction st with
  | nil => rfl
  | cons v r ih => simp only [List.map_cons, List.sum_cons, s_cat, s_v_cat, ih]
def s_nf (k : Nat) : Nat := match s_fts[k]? with
  | some l => l.length
  | none => 0
def s_ar (ρ : Nat → Nat) (h : s_H) (a k : Nat) : (Nat → Int32) ⊕ (Nat → Int64) ⊕ (Nat → UInt32) ⊕ (Nat → UInt64) ⊕ (Nat → Option Nat) :=
  if k = 102 then .inr (.inl (h.2.2.2.2.1 a)) else if 104 ≤ k then .inr (.inr (.inr (.inr (fun j => (h.2.2.2.2.2 a j).map ρ)))) else .inl (h.2.2.2.1 a)
def s_fs (ρ : Nat → Nat) (h : s_H) (a k : Nat) : List Value := (List.range (s_nf k)).map (fun j => s_v ρ (s_pv h (s_ft k j) a j))
def s_E (ρ : Nat → Nat) (cid : Nat → ClassId) (h : s_H) (a : Nat) : va_E := match s_Gs[a]? with
  | some (k, n) => if k < 100 then .inr (k, s_fs ρ h a k) else .inl (cid k, n, s_ar ρ h a k)
  | none => .inr (0, [])
def s_w (base : Nat) (ρ : Nat → Nat) (cid : Nat → ClassId) (h : s_H) : va_W := (List.range h.1).map (fun a => (base + a, s_E ρ cid h a))
theorem s_w_at {base : Nat} {ρ : Nat → Nat} {cid : Nat → ClassId} {h : s_H} {a : Nat} (ha : a < h.1) : (s_w base ρ cid h)[a]? = some (base + a, s_E ρ cid h a) := by
  unfold s_w
  rw [List.getElem?_map, List.getElem?_range ha]
  rfl
theorem s_w_inv {base : Nat} {ρ : Nat → Nat} {cid : Nat → ClassId} {h : s_H} {i : Nat} {q : Nat × va_E} (hq : (s_w base ρ cid h)[i]? = some q) : i < h.1 ∧ q = (base + i, s_E ρ cid h i) := by
  have hi : i < h.1 := by
    have h1 := (List.getElem?_eq_some_iff.mp hq).1
    unfold s_w at h1
    rw [List.length_map, List.length_range] at h1
    exact h1
  rw [s_w_at hi] at hq
  exact ⟨hi, (Option.some.inj hq).symm⟩
theorem s_w_set {base : Nat} {ρ : Nat → Nat} {cid : Nat → ClassId} {h h' : s_H} {a : Nat} (hn : h'.1 = h.1) (ha : a < h.1) (ho : ∀ b, b ≠ a → s_E ρ cid h' b = s_E ρ cid h b) : (s_w base ρ cid h).set a (base + a, s_E ρ cid h' a) = s_w base ρ cid h' := by
  apply List.ext_getElem?
  intro i
  rw [List.getElem?_set]
  by_cases hi : a = i
  · subst hi
    rw [if_pos rfl, s_w_at (h := h') (by rw [hn]; exact ha)]
    have : a < (s_w base ρ cid h).length := by unfold s_w; rw [List.length_map, List.length_range]; exact ha
    rw [if_pos this]
  · rw [if_neg hi]
    by_cases h2 : i < h.1
    · rw [s_w_at h2, s_w_at (h := h') (by rw [hn]; exact h2), ho i (fun q => hi q.symm)]
    · have e1 : (s_w base ρ cid h)[i]? = none := by
        apply List.getElem?_eq_none
        unfold s_w; rw [List.length_map, List.length_range]; omega
      have e2 : (s_w base ρ cid h')[i]? = none := by
        apply List.getElem?_eq_none
        unfold s_w; rw [List.length_map, List.length_range, hn]; omega
      rw [e1, e2]
theorem s_w_D {base : Nat} {ρ : Nat → Nat} {cid : Nat → ClassId} {h : s_H} : va_D (fun q : Nat => base ≤ q) (s_w base ρ cid h) := by
  refine ⟨fun i j x y hx hy e => ?_, fun k x hx => ?_⟩
  · obtain ⟨-, rfl⟩ := s_w_inv hx
    obtain ⟨-, rfl⟩ := s_w_inv hy
    simpa using e
  · obtain ⟨-, rfl⟩ := s_w_inv hx
    exact Nat.le_add_right _ _
theorem s_E_congr {ρ : Nat → Nat} {cid : Nat → ClassId} {h h' : s_H} {a : Nat} (h1 : h'.2.2.2.1 a = h.2.2.2.1 a) (h2 : h'.2.2.2.2.1 a = h.2.2.2.2.1 a) (h3 : h'.2.2.2.2.2 a = h.2.2.2.2.2 a) : s_E ρ cid h' a = s_E ρ cid h a := by
  have e1 : ∀ k j, s_pv h' k a j = s_pv h k a j := by
    intro k j
    unfold s_pv
    rw [h1, h2, h3]
  unfold s_E s_fs s_ar
  simp only [e1, h1, h2, h3]
theorem s_up_s {α : Type} (f : Nat → Nat → α) (a k : Nat) (v : α) : s_up f a k v a = va_up (f a) k v := by
  unfold s_up; rw [Nat.beq_refl]
theorem s_up_n {α : Type} (f : Nat → Nat → α) {a b : Nat} (k : Nat) (v : α) (hb : b ≠ a) : s_up f a k v b = f b := by
  have : Nat.beq b a = false := by
    cases hq : Nat.beq b a with
    | false => rfl
    | true => exact absurd (Nat.eq_of_beq_eq_true hq) hb
  unfold s_up; rw [this]
theorem s_row_s {α : Type} (f : Nat → Nat → α) (a : Nat) (g : Nat → α) : s_row f a g a = g := by
  unfold s_row; rw [Nat.beq_refl]
theorem s_row_n {α : Type} (f : Nat → Nat → α) {a b : Nat} (g : Nat → α) (hb : b ≠ a) : s_row f a g b = f b := by
  have : Nat.beq b a = false := by
    cases hq : Nat.beq b a with
    | false => rfl
    | true => exact absurd (Nat.eq_of_beq_eq_true hq) hb
  unfold s_row; rw [this]
theorem s_cl0_s {α : Type} (f : Nat → Nat → α) (a : Nat) (v : α) : s_cl0 f a v a = fun _ => v := by
  unfold s_cl0; rw [Nat.beq_refl]
theorem s_cl0_n {α : Type} (f : Nat → Nat → α) {a b : Nat} (v : α) (hb : b ≠ a) : s_cl0 f a v b = f b := by
  have : Nat.beq b a = false := by
    cases hq : Nat.beq b a with
    | false => rfl
    | true => exact absurd (Nat.eq_of_beq_eq_true hq) hb
  unfold s_cl0; rw [this]
theorem s_Gs_lt {a : Nat} {x : Nat × Nat} (h : s_Gs[a]? = some x) : a < 153 := (List.getElem?_eq_some_iff.mp h).1
theorem s_isG_of {h : s_H} {a k : Nat} (hg : s_isG h a k = true) : a < h.1 ∧ s_Gs[a]? = some (k, s_len a) := by
  unfold s_isG at hg
  cases h1 : Nat.blt a h.1 with
  | false => rw [h1] at hg; cases hg
  | true =>
    rw [h1] at hg
    have h2 : a < h.1 := Nat.lt_of_succ_le (by simpa [Nat.blt] using h1)
    refine ⟨h2, ?_⟩
    unfold s_len
    cases hs : s_Gs[a]? with
    | none => rw [hs] at hg; cases hg
    | some x =>
      rw [hs] at hg
      obtain ⟨j, n⟩ := x
      have : j = k := Nat.eq_of_beq_eq_true hg
      rw [this]
theorem s_E_obj {ρ : Nat → Nat} {cid : Nat → ClassId} {h : s_H} {a k : Nat} (hg : s_isG h a k = true) (hk : k < 100) : s_E ρ cid h a = .inr (k, s_fs ρ h a k) := by
  unfold s_E
  rw [(s_isG_of hg).2]
  simp only [if_pos hk]
theorem s_E_arr {ρ : Nat → Nat} {cid : Nat → ClassId} {h : s_H} {a k n : Nat} (hg : s_Gs[a]? = some (k, n)) (hk : 100 ≤ k) : s_E ρ cid h a = .inl (cid k, n, s_ar ρ h a k) := by
  unfold s_E
  rw [hg]
  simp only [if_neg (Nat.not_lt.mpr hk)]
theorem s_fs_at {ρ : Nat → Nat} {h : s_H} {a c k : Nat} (hk : k < s_nf c) : (s_fs ρ h a c)[k]? = some (s_v ρ (s_pv h (s_ft c k) a k)) := by
  unfold s_fs
  rw [List.getElem?_map, List.getElem?_range hk]
  rfl
theorem s_fs_len {ρ : Nat → Nat} {h : s_H} {a c : Nat} : (s_fs ρ h a c).length = s_nf c := by
  unfold s_fs
  rw [List.length_map, List.length_range]
theorem s_fs_set {ρ : Nat → Nat} {h h' : s_H} {a c k : Nat} (hk : k < s_nf c) (ho : ∀ j, j ≠ k → s_pv h' (s_ft c j) a j = s_pv h (s_ft c j) a j) : (s_fs ρ h a c).set k (s_v ρ (s_pv h' (s_ft c k) a k)) = s_fs ρ h' a c := by
  apply List.ext_getElem?
  intro i
  rw [List.getElem?_set]
  by_cases hi : k = i
  · subst hi
    rw [if_pos rfl, s_fs_len, if_pos hk, s_fs_at hk]
  · rw [if_neg hi]
    by_cases h2 : i < s_nf c
    · rw [s_fs_at h2, s_fs_at h2, ho i (fun q => hi q.symm)]
    · rw [List.getElem?_eq_none (by rw [s_fs_len]; omega), List.getElem?_eq_none (by rw [s_fs_len]; omega)]
theorem s_v_rf (ρ : Nat → Nat) (r : Option Nat) : s_v ρ (va_rf r) = va_rf (r.map ρ) := by cases r <;> rfl
-- locals
def s_as (ρ : Nat → Nat) : Nat → s_L → List (Nat × Value)
  | _, [] => []
  | i, none :: r => s_as ρ (i + 1) r
  | i, some v :: r => (i, s_v ρ v) :: s_as ρ (i + 1) r
theorem s_as_mem {ρ : Nat → Nat} : ∀ (L : s_L) (j i : Nat) (v : Value), L[i]? = some (some v) → (j + i, s_v ρ v) ∈ s_as ρ j L := by
  intro L
  induction L with
  | nil => intro j i v h; simp at h
  | cons x r ih =>
    intro j i v h
    cases i with
    | zero =>
      have : x = some v := by simpa using h
      subst this
      exact List.mem_cons_self
    | succ i =>
      have h2 : r[i]? = some (some v) := by simpa using h
      have h3 := ih (j + 1) i v h2
      have e : j + 1 + i = j + (i + 1) := by omega
      rw [e] at h3
      cases x with
      | none => exact h3
      | some w => exact List.mem_cons_of_mem _ h3
theorem s_as_inv {ρ : Nat → Nat} : ∀ (L : s_L) (j : Nat) (q : Nat × Value), q ∈ s_as ρ j L → ∃ (i : Nat) (v : Value), L[i]? = some (some v) ∧ q = (j + i, s_v ρ v) := by
  intro L
  induction L with
  | nil => intro j q h; cases h
  | cons x r ih =>
    intro j q h
    cases x with
    | none =>
      obtain ⟨i, v, h1, h2⟩ := ih (j + 1) q h
      exact ⟨i + 1, v, by simpa using h1, by rw [h2]; congr 1; omega⟩
    | some w =>
      rcases List.mem_cons.mp h with h | h
      · exact ⟨0, w, by simp, h⟩
      · obtain ⟨i, v, h1, h2⟩ := ih (j + 1) q h
        exact ⟨i + 1, v, by simpa using h1, by rw [h2]; congr 1; omega⟩
theorem lv_mono {ls : Array Slot} {nL : Nat} {l l' : List (Nat × Value)} (h : lv_has ls nL l) (hm : ∀ q ∈ l', q ∈ l) : lv_has ls nL l' := ⟨h.1, h.2.1, fun q hq => h.2.2 q (hm q hq)⟩
theorem s_s1_len (L : s_L) (i : Nat) (v : Value) : (s_s1 L i v).length = L.length := by
  unfold s_s1
  cases i with
  | zero => simp
  | succ j =>
    dsimp only
    split <;> simp
theorem s_s2_len (L : s_L) (i : Nat) (v : Value) : (s_s2 L i v).length = L.length := by
  unfold s_s2
  rw [List.length_set, s_s1_len]
theorem s_s1_at {L : s_L} {i j : Nat} {v w : Value} (h : (s_s1 L i v)[j]? = some (some w)) : (j = i ∧ w = v) ∨ (j ≠ i ∧ L[j]? = some (some w) ∧ ¬ (j + 1 = i ∧ w.category = 2)) := by
  unfold s_s1 at h
  cases i with
  | zero =>
    dsimp only at h
    rw [List.getElem?_set] at h
    by_cases hj : 0 = j
    · rw [if_pos hj] at h
      split at h
      · exact Or.inl ⟨hj.symm, (Option.some.inj (Option.some.inj h)).symm⟩
      · cases h
    · rw [if_neg hj] at h
      exact Or.inr ⟨fun q => hj q.symm, h, fun q => by omega⟩
  | succ k =>
    dsimp only at h
    have two : ∀ (M : s_L), (M = L ∨ M = L.set k none) → (M.set (k + 1) (some v))[j]? = some (some w) → (∀ x, L[k]? = some (some x) → x.category = 2 → M = L.set k none) → (j = k + 1 ∧ w = v) ∨ (j ≠ k + 1 ∧ L[j]? = some (some w) ∧ ¬ (j + 1 = k + 1 ∧ w.category = 2)) := by
      intro M hM g hc
      rw [List.getElem?_set] at g
      by_cases hj : k + 1 = j
      · rw [if_pos hj] at g
        split at g
        · exact Or.inl ⟨hj.symm, (Option.some.inj (Option.some.inj g)).symm⟩
        · cases g
      · rw [if_neg hj] at g
        refine Or.inr ⟨fun q => hj q.symm, ?_, fun q => ?_⟩
        · rcases hM with hM | hM
          · rw [hM] at g
            exact g
          · rw [hM, List.getElem?_set] at g
            by_cases hk : k = j
            · rw [if_pos hk] at g
              split at g <;> cases g
            · rw [if_neg hk] at g
              exact g
        · have hjk : j = k := by omega
          subst hjk
          have e2 : M = L.set j none := by
            rcases hM with hM | hM
            · rw [hM] at g
              exact hc w g q.2
            · exact hM
          rw [e2, List.getElem?_set] at g
          simp at g
    split at h
    · exact two _ (Or.inr rfl) h (fun _ _ _ => rfl)
    · exact two _ (Or.inr rfl) h (fun _ _ _ => rfl)
    · rename_i hn1 hn2
      refine two _ (Or.inl rfl) h (fun x hx hc => ?_)
      cases x with
      | long z => exact absurd hx (hn1 z)
      | double z => exact absurd hx (hn2 z)
      | _ => cases hc
theorem s_st1 {ρ : Nat → Nat} {ls : Array Slot} {nL i : Nat} {L : s_L} {v : Value} (h : lv_has ls nL ((i, s_v ρ v) :: (s_as ρ 0 L).filter (fun q => !(q.1 == i) && !(q.1 + 1 == i && q.2.category == 2)))) : lv_has ls nL (s_as ρ 0 (s_s1 L i v)) := by
  refine lv_mono h (fun q hq => ?_)
  obtain ⟨j, w, h1, rfl⟩ := s_as_inv _ _ _ hq
  rw [Nat.zero_add]
  rcases s_s1_at h1 with ⟨rfl, rfl⟩ | ⟨hn, h2, h3⟩
  · exact List.mem_cons_self
  · refine List.mem_cons_of_mem _ (List.mem_filter.mpr ⟨?_, ?_⟩)
    · have := s_as_mem (ρ := ρ) L 0 j w h2
      rwa [Nat.zero_add] at this
    · simp only [Bool.and_eq_true, Bool.not_eq_true', beq_eq_false_iff_ne, ne_eq, Bool.and_eq_false_imp, beq_iff_eq, s_v_cat]
      exact ⟨hn, fun e c => h3 ⟨e, c⟩⟩
theorem s_s2_at {L : s_L} {i j : Nat} {v w : Value} (h : (s_s2 L i v)[j]? = some (some w)) : j ≠ i + 1 ∧ (s_s1 L i v)[j]? = some (some w) := by
  unfold s_s2 at h
  rw [List.getElem?_set] at h
  by_cases hj : i + 1 = j
  · rw [if_pos hj] at h
    split at h <;> cases h
  · rw [if_neg hj] at h
    exact ⟨fun q => hj q.symm, h⟩
theorem s_st2 {ρ : Nat → Nat} {ls : Array Slot} {nL i : Nat} {L : s_L} {v : Value} (h : lv_has ls nL ((i, s_v ρ v) :: (s_as ρ 0 L).filter (fun q => !(q.1 == i) && (!(q.1 == i + 1) && !(q.1 + 1 == i && q.2.category == 2))))) : lv_has ls nL (s_as ρ 0 (s_s2 L i v)) := by
  refine lv_mono h (fun q hq => ?_)
  obtain ⟨j, w, h1, rfl⟩ := s_as_inv _ _ _ hq
  rw [Nat.zero_add]
  obtain ⟨hj, h1⟩ := s_s2_at h1
  rcases s_s1_at h1 with ⟨rfl, rfl⟩ | ⟨hn, h2, h3⟩
  · exact List.mem_cons_self
  · refine List.mem_cons_of_mem _ (List.mem_filter.mpr ⟨?_, ?_⟩)
    · have := s_as_mem (ρ := ρ) L 0 j w h2
      rwa [Nat.zero_add] at this
    · simp only [Bool.and_eq_true, Bool.not_eq_true', beq_eq_false_iff_ne, ne_eq, Bool.and_eq_false_imp, beq_iff_eq, s_v_cat]
      exact ⟨hn, hj, fun e c => h3 ⟨e, c⟩⟩
theorem s_lat {ρ : Nat → Nat} {ls : Array Slot} {nL i : Nat} {L : s_L} {v : Value} (h : lv_has ls nL (s_as ρ 0 L)) (hv : L[i]? = some (some v)) : ls[i]? = some (.val (s_v ρ v)) := by
  have := s_as_mem (ρ := ρ) L 0 i v hv
  rw [Nat.zero_add] at this
  exact h.2.2 _ this
-- entry
theorem s_en_args {ρ : Nat → Nat} : ∀ (vs : List Value) (j : Nat), s_as ρ j (s_en vs) = lv_args j (vs.map (s_v ρ)) := by
  intro vs
  induction vs with
  | nil => intro j; rfl
  | cons v r ih =>
    intro j
    cases v <;> simp only [s_en, s_as, List.map_cons, lv_args, s_v, Value.category, ih] <;> first | rfl | simp
theorem s_as_app {ρ : Nat → Nat} : ∀ (L : s_L) (j n : Nat), s_as ρ j (L ++ List.replicate n none) = s_as ρ j L := by
  intro L
  induction L with
  | nil =>
    intro j n
    induction n generalizing j with
    | zero => rfl
    | succ n ih =>
      rw [List.nil_append, List.replicate_succ]
      have := ih (j + 1)
      rw [List.nil_append] at this
      exact this
  | cons x r ih =>
    intro j n
    cases x with
    | none => exact ih (j + 1) n
    | some v => exact congrArg (fun t => (j, s_v ρ v) :: t) (ih (j + 1) n)
theorem s_ent_as {ρ : Nat → Nat} (vs : List Value) (n : Nat) : s_as ρ 0 (s_ent vs n) = lv_args 0 (vs.map (s_v ρ)) := by
  unfold s_ent
  rw [s_as_app, s_en_args]
