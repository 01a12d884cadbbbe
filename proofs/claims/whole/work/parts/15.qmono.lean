-- KNOWING MORE LOCALS does no harm
def s_le : s_L → s_L → Prop
  | [], [] => True
  | a :: r, b :: r' => (a = none ∨ a = b) ∧ s_le r r'
  | _, _ => False
theorem s_le_rf : ∀ L : s_L, s_le L L := by
  intro L
  induction L with
  | nil => exact trivial
  | cons a r ih => exact ⟨Or.inr rfl, ih⟩
theorem s_le_len : ∀ {L L' : s_L}, s_le L L' → L.length = L'.length := by
  intro L
  induction L with
  | nil => intro L' h; cases L' with
    | nil => rfl
    | cons b r' => cases h
  | cons a r ih => intro L' h; cases L' with
    | nil => cases h
    | cons b r' => simp only [List.length_cons, ih h.2]
theorem s_le_at : ∀ {L L' : s_L} {i : Nat} {v : Value}, s_le L L' → L[i]? = some (some v) → L'[i]? = some (some v) := by
  intro L
  induction L with
  | nil => intro L' i v h hi; simp at hi
  | cons a r ih => intro L' i v h hi; cases L' with
    | nil => cases h
    | cons b r' =>
      cases i with
      | zero =>
        have : a = some v := by simpa using hi
        rcases h.1 with h1 | h1
        · rw [h1] at this; cases this
        · rw [← h1, this]; rfl
      | succ j =>
        have h2 : r[j]? = some (some v) := by simpa using hi
        have := ih h.2 h2
        simpa using this
theorem s_le_set : ∀ {L L' : s_L} (i : Nat) {x y : Option Value}, s_le L L' → (x = none ∨ x = y) → s_le (L.set i x) (L'.set i y) := by
  intro L
  induction L with
  | nil => intro L' i x y h _; cases L' with
    | nil => exact trivial
    | cons b r' => cases h
  | cons a r ih => intro L' i x y h hxy; cases L' with
    | nil => cases h
    | cons b r' =>
      cases i with
      | zero => exact ⟨hxy, h.2⟩
      | succ j => exact ⟨h.1, ih j h.2 hxy⟩
theorem s_set_none : ∀ {L : s_L} {i : Nat}, (∀ v, L[i]? ≠ some (some v)) → L.set i none = L := by
  intro L
  induction L with
  | nil => intro i _; rfl
  | cons a r ih => intro i h; cases i with
    | zero =>
      cases a with
      | none => rfl
      | some v => exact absurd rfl (h v)
    | succ j =>
      show a :: r.set j none = a :: r
      rw [ih (fun v hv => h v (by simpa using hv))]
theorem s_le_s1 {L L' : s_L} (i : Nat) (v : Value) (h : s_le L L') : s_le (s_s1 L i v) (s_s1 L' i v) := by
  unfold s_s1
  cases i with
  | zero => exact s_le_set 0 h (Or.inr rfl)
  | succ j =>
    dsimp only
    have main : ∀ A B : s_L, (A = L ∨ A = L.set j none) → (B = L' ∨ B = L'.set j none) → (A = L → (∀ w, L[j]? = some (some w) → B = L')) → (B = L' → A = L) → s_le (A.set (j + 1) (some v)) (B.set (j + 1) (some v)) := by
      intro A B hA hB h1 h2
      refine s_le_set _ ?_ (Or.inr rfl)
      rcases hA with rfl | rfl
      · rcases hB with rfl | rfl
        · exact h
        · by_cases hw : ∃ w, A[j]? = some (some w)
          · obtain ⟨w, hw⟩ := hw
            rw [h1 rfl w hw]
            exact h
          · rw [← s_set_none (L := A) (i := j) (fun w hq => hw ⟨w, hq⟩)]
            exact s_le_set j h (Or.inl rfl)
      · exact s_le_set j h (Or.inl rfl) |> fun q => by
          rcases hB with rfl | rfl
          · have := h2 rfl
            rw [this]; exact h
          · exact q
    split
    · rename_i z hz
      rw [s_le_at h hz]
      exact main _ _ (Or.inr rfl) (Or.inr rfl) (fun e w hw => by rw [hz] at hw; exact absurd e (by intro e2; have h3 : (L.set j none)[j]? = L[j]? := by rw [e2]
                                                                                                   rw [hz, List.getElem?_set] at h3; simp at h3)) (fun e => by
        have h3 : (L'.set j none)[j]? = L'[j]? := by rw [e]
        rw [s_le_at h hz, List.getElem?_set] at h3; simp at h3)
    · rename_i z hz
      rw [s_le_at h hz]
      exact main _ _ (Or.inr rfl) (Or.inr rfl) (fun e w hw => by rw [hz] at hw; exact absurd e (by intro e2; have h3 : (L.set j none)[j]? = L[j]? := by rw [e2]
                                                                                                   rw [hz, List.getElem?_set] at h3; simp at h3)) (fun e => by
        have h3 : (L'.set j none)[j]? = L'[j]? := by rw [e]
        rw [s_le_at h hz, List.getElem?_set] at h3; simp at h3)
    · rename_i n1 n2
      split
      · rename_i z hz
        refine main _ _ (Or.inl rfl) (Or.inr rfl) (fun _ w hw => ?_) (fun _ => rfl)
        have := s_le_at h hw
        rw [hz] at this
        cases this
        exact absurd hw (n1 _)
      · rename_i z hz
        refine main _ _ (Or.inl rfl) (Or.inr rfl) (fun _ w hw => ?_) (fun _ => rfl)
        have := s_le_at h hw
        rw [hz] at this
        cases this
        exact absurd hw (n2 _)
      · exact main _ _ (Or.inl rfl) (Or.inl rfl) (fun _ _ _ => rfl) (fun _ => rfl)
theorem s_le_s2 {L L' : s_L} (i : Nat) (v : Value) (h : s_le L L') : s_le (s_s2 L i v) (s_s2 L' i v) := s_le_set _ (s_le_s1 i v h) (Or.inl rfl)
-- one outcome says no more of the locals than the other
def s_ro (o o' : Option s_O) : Prop := (∀ a b c d, o = some (.inl (a, b, c, d)) → ∃ b', o' = some (.inl (a, b', c, d)) ∧ s_le b b') ∧ ∀ z, o = some (.inr z) → o' = some (.inr z)
theorem s_ro_no {o' : Option s_O} : s_ro none o' := ⟨fun _ _ _ _ h => (by cases h), fun _ h => (by cases h)⟩
theorem s_ro_rt (z : Option (Option Value) ⊕ (Nat × List Value × List Value)) : s_ro (some (.inr z)) (some (.inr z)) := ⟨fun _ _ _ _ h => (by cases h), fun _ h => h⟩
theorem s_ro_sm (o : Option s_O) (hn : ∀ a b c d, o ≠ some (.inl (a, b, c, d))) : s_ro o o := ⟨fun a b c d h => absurd h (hn a b c d), fun _ h => h⟩
theorem s_ro_nx {pc : Nat} {L L' : s_L} {st : List Value} {h : s_H} (hle : s_le L L') : s_ro (s_nx pc L st h) (s_nx pc L' st h) := by
  refine ⟨fun a b c d e => ?_, fun z e => by unfold s_nx at e; cases e⟩
  obtain ⟨rfl, rfl, rfl, rfl⟩ := s_nx_of e
  exact ⟨L', rfl, hle⟩
theorem s_ro_if {c : Prop} [Decidable c] {a b a' b' : Option s_O} (h1 : s_ro a a') (h2 : s_ro b b') : s_ro (if c then a else b) (if c then a' else b') := by
  by_cases hc : c
  · rw [if_pos hc, if_pos hc]; exact h1
  · rw [if_neg hc, if_neg hc]; exact h2
theorem s_ro_br {c : Prop} [Decidable c] {tg pc : Nat} {L L' : s_L} {st : List Value} {h : s_H} (hle : s_le L L') : s_ro (s_br c tg pc L st h) (s_br c tg pc L' st h) := s_ro_if (s_ro_nx hle) (s_ro_nx hle)
theorem s_ro_i1 {st : List Value} {k k' : Int32 → List Value → Option s_O} (h : ∀ x r, s_ro (k x r) (k' x r)) : s_ro (s_i1 st k) (s_i1 st k') := by
  unfold s_i1
  split
  · exact h _ _
  · exact s_ro_no
theorem s_ro_ii {st : List Value} {k k' : Int32 → Int32 → List Value → Option s_O} (h : ∀ x y r, s_ro (k x y r) (k' x y r)) : s_ro (s_ii st k) (s_ii st k') := by
  unfold s_ii
  split
  · exact h _ _ _
  · exact s_ro_no
theorem s_ro_l1 {st : List Value} {k k' : Int64 → List Value → Option s_O} (h : ∀ x r, s_ro (k x r) (k' x r)) : s_ro (s_l1 st k) (s_l1 st k') := by
  unfold s_l1
  split
  · exact h _ _
  · exact s_ro_no
theorem s_ro_ll {st : List Value} {k k' : Int64 → Int64 → List Value → Option s_O} (h : ∀ x y r, s_ro (k x y r) (k' x y r)) : s_ro (s_ll st k) (s_ll st k') := by
  unfold s_ll
  split
  · exact h _ _ _
  · exact s_ro_no
theorem s_ro_r1 {st : List Value} {k k' : Nat → List Value → Option s_O} (h : ∀ x r, s_ro (k x r) (k' x r)) : s_ro (s_r1 st k) (s_r1 st k') := by
  unfold s_r1
  split
  · exact h _ _
  · exact s_ro_no
theorem s_ro_ir {st : List Value} {k k' : Int32 → Nat → List Value → Option s_O} (h : ∀ i a r, s_ro (k i a r) (k' i a r)) : s_ro (s_ir st k) (s_ir st k') := by
  unfold s_ir
  split
  · exact h _ _ _
  · exact s_ro_no
theorem s_ro_ild {L L' : s_L} {i pc : Nat} {st : List Value} {h : s_H} (hle : s_le L L') : s_ro (s_ild L i pc st h) (s_ild L' i pc st h) := by
  unfold s_ild
  split
  · rename_i x hx
    rw [s_le_at hle hx]
    exact s_ro_nx hle
  · exact s_ro_no
theorem s_ro_lld {L L' : s_L} {i pc : Nat} {st : List Value} {h : s_H} (hle : s_le L L') : s_ro (s_lld L i pc st h) (s_lld L' i pc st h) := by
  unfold s_lld
  split
  · rename_i x hx
    rw [s_le_at hle hx]
    exact s_ro_nx hle
  · exact s_ro_no
theorem s_ro_ald {L L' : s_L} {i pc : Nat} {st : List Value} {h : s_H} (hle : s_le L L') : s_ro (s_ald L i pc st h) (s_ald L' i pc st h) := by
  unfold s_ald
  split
  · rename_i x hx
    rw [s_le_at hle hx]
    exact s_ro_nx hle
  · rename_i hx
    rw [s_le_at hle hx]
    exact s_ro_nx hle
  · exact s_ro_no
theorem s_ro_ist {L L' : s_L} {i pc : Nat} {st : List Value} {h : s_H} (hle : s_le L L') : s_ro (s_ist L i pc st h) (s_ist L' i pc st h) := by
  unfold s_ist
  rw [s_le_len hle]
  split
  · exact s_ro_i1 (fun x r => s_ro_nx (s_le_s1 _ _ hle))
  · exact s_ro_no
theorem s_ro_lst {L L' : s_L} {i pc : Nat} {st : List Value} {h : s_H} (hle : s_le L L') : s_ro (s_lst L i pc st h) (s_lst L' i pc st h) := by
  unfold s_lst
  rw [s_le_len hle]
  split
  · exact s_ro_l1 (fun x r => s_ro_nx (s_le_s2 _ _ hle))
  · exact s_ro_no
theorem s_ro_ast {L L' : s_L} {i pc : Nat} {st : List Value} {h : s_H} (hle : s_le L L') : s_ro (s_ast L i pc st h) (s_ast L' i pc st h) := by
  unfold s_ast
  rw [s_le_len hle]
  split
  · split
    · exact s_ro_nx (s_le_s1 _ _ hle)
    · exact s_ro_nx (s_le_s1 _ _ hle)
    · exact s_ro_no
  · exact s_ro_no
theorem s_ro_ts {x pc : Int} {L L' : s_L} {st : List Value} {h : s_H} {d : Int} (hle : s_le L L') : ∀ (offs : List Int) (lo : Int), s_ro (s_ts x pc L st h d lo offs) (s_ts x pc L' st h d lo offs) := by
  intro offs
  induction offs with
  | nil => intro lo; unfold s_ts; exact s_ro_if (s_ro_nx hle) s_ro_no
  | cons o t ih => intro lo; unfold s_ts; exact s_ro_if (s_ro_if (s_ro_nx hle) s_ro_no) (ih _)
theorem s_ro_ls {x pc : Int} {L L' : s_L} {st : List Value} {h : s_H} {d : Int} (hle : s_le L L') : ∀ (ps : List (Int × Int)), s_ro (s_ls x pc L st h d ps) (s_ls x pc L' st h d ps) := by
  intro ps
  induction ps with
  | nil => unfold s_ls; exact s_ro_if (s_ro_nx hle) s_ro_no
  | cons o t ih => unfold s_ls; exact s_ro_if (s_ro_if (s_ro_nx hle) s_ro_no) ih
theorem s_ro_gf {own pc c k : Nat} {L L' : s_L} {st : List Value} {h : s_H} (hle : s_le L L') : s_ro (s_gf own pc c k L st h) (s_gf own pc c k L' st h) := by
  unfold s_gf
  refine s_ro_r1 (fun a r => ?_)
  split
  · split
    · exact s_ro_nx hle
    · exact s_ro_no
  · split
    · exact s_ro_nx hle
    · exact s_ro_no
theorem s_ro_pf {own pc c k : Nat} {ini : Bool} {L L' : s_L} {st : List Value} {h : s_H} (hle : s_le L L') : s_ro (s_pf own ini pc c k L st h) (s_pf own ini pc c k L' st h) := by
  unfold s_pf
  split
  · exact s_ro_no
  · split
    · split
      · exact s_ro_no
      · split
        · exact s_ro_nx hle
        · exact s_ro_if (s_ro_nx hle) s_ro_no
        · exact s_ro_nx hle
        · exact s_ro_nx hle
        · exact s_ro_nx hle
        · exact s_ro_no
    · exact s_ro_no
theorem s_ro_iald {pc : Nat} {L L' : s_L} {st : List Value} {h : s_H} (hle : s_le L L') : s_ro (s_iald pc L st h) (s_iald pc L' st h) := by
  unfold s_iald
  refine s_ro_ir (fun i a r => ?_)
  split
  · exact s_ro_if s_ro_no (s_ro_nx hle)
  · split
    · exact s_ro_if s_ro_no (s_ro_nx hle)
    · exact s_ro_no
theorem s_ro_bald {pc : Nat} {L L' : s_L} {st : List Value} {h : s_H} (hle : s_le L L') : s_ro (s_bald pc L st h) (s_bald pc L' st h) := by
  unfold s_bald
  refine s_ro_ir (fun i a r => ?_)
  split
  · exact s_ro_if s_ro_no (s_ro_nx hle)
  · exact s_ro_no
theorem s_ro_lald {pc : Nat} {L L' : s_L} {st : List Value} {h : s_H} (hle : s_le L L') : s_ro (s_lald pc L st h) (s_lald pc L' st h) := by
  unfold s_lald
  refine s_ro_ir (fun i a r => ?_)
  split
  · exact s_ro_if s_ro_no (s_ro_nx hle)
  · exact s_ro_no
theorem s_ro_aald {pc : Nat} {L L' : s_L} {st : List Value} {h : s_H} (hle : s_le L L') : s_ro (s_aald pc L st h) (s_aald pc L' st h) := by
  unfold s_aald
  refine s_ro_ir (fun i a r => ?_)
  split
  · exact s_ro_if s_ro_no (s_ro_nx hle)
  · split
    · exact s_ro_if s_ro_no (s_ro_nx hle)
    · exact s_ro_no
theorem s_ro_iast {pc : Nat} {L L' : s_L} {st : List Value} {h : s_H} (hle : s_le L L') : s_ro (s_iast pc L st h) (s_iast pc L' st h) := by
  unfold s_iast
  refine s_ro_i1 (fun x st1 => s_ro_ir (fun i a r => ?_))
  split
  · exact s_ro_if s_ro_no (s_ro_nx hle)
  · exact s_ro_no
theorem s_ro_bast {pc : Nat} {L L' : s_L} {st : List Value} {h : s_H} (hle : s_le L L') : s_ro (s_bast pc L st h) (s_bast pc L' st h) := by
  unfold s_bast
  refine s_ro_i1 (fun x st1 => s_ro_ir (fun i a r => ?_))
  split
  · exact s_ro_if s_ro_no (s_ro_nx hle)
  · split
    · exact s_ro_if s_ro_no (s_ro_nx hle)
    · exact s_ro_no
theorem s_ro_last {pc : Nat} {L L' : s_L} {st : List Value} {h : s_H} (hle : s_le L L') : s_ro (s_last pc L st h) (s_last pc L' st h) := by
  unfold s_last
  refine s_ro_l1 (fun x st1 => s_ro_ir (fun i a r => ?_))
  split
  · exact s_ro_if s_ro_no (s_ro_nx hle)
  · exact s_ro_no
theorem s_ro_aast {pc : Nat} {L L' : s_L} {st : List Value} {h : s_H} (hle : s_le L L') : s_ro (s_aast pc L st h) (s_aast pc L' st h) := by
  unfold s_aast
  split
  · split
    · refine s_ro_if s_ro_no ?_
      split
      · exact s_ro_nx hle
      · split
        · exact s_ro_nx hle
        · exact s_ro_no
      · exact s_ro_no
    · exact s_ro_no
  · exact s_ro_no
theorem s_ro_alen {pc : Nat} {L L' : s_L} {st : List Value} {h : s_H} (hle : s_le L L') : s_ro (s_alen pc L st h) (s_alen pc L' st h) := by
  unfold s_alen
  refine s_ro_r1 (fun a r => ?_)
  split
  · exact s_ro_nx hle
  · split
    · exact s_ro_nx hle
    · split
      · split
        · split
          · exact s_ro_nx hle
          · exact s_ro_no
        · exact s_ro_no
      · exact s_ro_no
theorem s_ro_mka {pc k : Nat} {L L' : s_L} {st : List Value} {h : s_H} (hle : s_le L L') : s_ro (s_mka pc k L st h) (s_mka pc k L' st h) := by
  unfold s_mka
  refine s_ro_i1 (fun x r => s_ro_if s_ro_no ?_)
  split
  · exact s_ro_nx hle
  · exact s_ro_no
theorem s_ro_mko {pc c : Nat} {L L' : s_L} {st : List Value} {h : s_H} (hle : s_le L L') : s_ro (s_mko pc c L st h) (s_mko pc c L' st h) := by
  unfold s_mko
  split
  · exact s_ro_no
  · split
    · split
      · exact s_ro_nx hle
      · exact s_ro_no
    · exact s_ro_no
theorem s_ro_acp {pc : Nat} {L L' : s_L} {st : List Value} {h : s_H} (hle : s_le L L') : s_ro (s_acp pc L st h) (s_acp pc L' st h) := by
  unfold s_acp
  split
  · refine s_ro_if s_ro_no ?_
    split
    · exact s_ro_nx hle
    · split
      · exact s_ro_nx hle
      · exact s_ro_no
  · exact s_ro_no
theorem s_ro_call {md n : Nat} {st : List Value} : s_ro (s_call md n st) (s_call md n st) := by
  unfold s_call
  split
  · exact s_ro_rt _
  · exact s_ro_no
theorem s_ro_inv {w pc : Nat} {e : Nat × Nat × Nat} {L L' : s_L} {st : List Value} {h : s_H} (hle : s_le L L') : s_ro (s_inv w pc e L st h) (s_inv w pc e L' st h) := by
  unfold s_inv
  split
  · split
    · split
      · exact s_ro_call
      · exact s_ro_no
    · exact s_ro_no
  · exact s_ro_call
  · split
    · exact s_ro_call
    · exact s_ro_no
  · split
    · exact s_ro_call
    · exact s_ro_no
  · refine s_ro_r1 (fun _ r => ?_)
    split
    · exact s_ro_nx hle
    · exact s_ro_no
  · exact s_ro_acp hle
  · exact s_ro_call
  · refine s_ro_ii (fun _ _ r => ?_)
    split
    · exact s_ro_nx hle
    · exact s_ro_no
  · refine s_ro_ii (fun _ _ r => ?_)
    split
    · exact s_ro_nx hle
    · exact s_ro_no
  · refine s_ro_r1 (fun a r => s_ro_if s_ro_no ?_)
    split
    · split
      · exact s_ro_nx hle
      · exact s_ro_no
    · exact s_ro_no
  · refine s_ro_ir (fun i a r => s_ro_if s_ro_no ?_)
    split
    · split
      · exact s_ro_if s_ro_no (s_ro_nx hle)
      · exact s_ro_no
    · exact s_ro_no
  · exact s_ro_no
theorem s_ro_mt {α : Type} {x : Option α} {f g : α → Option s_O} (h : ∀ y, s_ro (f y) (g y)) : s_ro (match x with
    | some y => f y
    | none => none) (match x with
    | some y => g y
    | none => none) := by
  cases x with
  | none => exact s_ro_no
  | some y => exact h y
set_option maxHeartbeats 4000000 in
theorem s_ro_ex {cp : s_C} {own : Nat} {ini : Bool} {rt : Option FieldType} {pc : Nat} {i : Instr} {tg : Nat} {L L' : s_L} {st : List Value} {h : s_H} (hle : s_le L L') : s_ro (s_ex cp own ini rt pc i tg L st h) (s_ex cp own ini rt pc i tg L' st h) := by
  cases i with
  | aconst_null => exact s_ro_nx hle
  | iconst n => exact s_ro_nx hle
  | bipush n => exact s_ro_nx hle
  | sipush n => exact s_ro_nx hle
  | lconst n => exact s_ro_nx hle
  | iload_n k => exact s_ro_ild hle
  | iload k => exact s_ro_ild hle
  | lload_n k => exact s_ro_lld hle
  | lload k => exact s_ro_lld hle
  | aload_n k => exact s_ro_ald hle
  | aload k => exact s_ro_ald hle
  | istore_n k => exact s_ro_ist hle
  | istore k => exact s_ro_ist hle
  | lstore_n k => exact s_ro_lst hle
  | lstore k => exact s_ro_lst hle
  | astore_n k => exact s_ro_ast hle
  | astore k => exact s_ro_ast hle
  | iinc k n =>
    unfold s_ex
    dsimp only
    split
    · rename_i x hx
      rw [s_le_at hle hx]
      exact s_ro_nx (s_le_s1 _ _ hle)
    · exact s_ro_no
  | iadd => exact s_ro_ii (fun _ _ _ => s_ro_nx hle)
  | isub => exact s_ro_ii (fun _ _ _ => s_ro_nx hle)
  | imul => exact s_ro_ii (fun _ _ _ => s_ro_nx hle)
  | iand => exact s_ro_ii (fun _ _ _ => s_ro_nx hle)
  | ior => exact s_ro_ii (fun _ _ _ => s_ro_nx hle)
  | ixor => exact s_ro_ii (fun _ _ _ => s_ro_nx hle)
  | ishl => exact s_ro_ii (fun _ _ _ => s_ro_nx hle)
  | ishr => exact s_ro_ii (fun _ _ _ => s_ro_nx hle)
  | iushr => exact s_ro_ii (fun _ _ _ => s_ro_nx hle)
  | idiv => exact s_ro_ii (fun _ _ _ => s_ro_if s_ro_no (s_ro_nx hle))
  | irem => exact s_ro_ii (fun _ _ _ => s_ro_if s_ro_no (s_ro_nx hle))
  | ineg => exact s_ro_i1 (fun _ _ => s_ro_nx hle)
  | i2l => exact s_ro_i1 (fun _ _ => s_ro_nx hle)
  | i2b => exact s_ro_i1 (fun _ _ => s_ro_nx hle)
  | ladd => exact s_ro_ll (fun _ _ _ => s_ro_nx hle)
  | lsub => exact s_ro_ll (fun _ _ _ => s_ro_nx hle)
  | lmul => exact s_ro_ll (fun _ _ _ => s_ro_nx hle)
  | land => exact s_ro_ll (fun _ _ _ => s_ro_nx hle)
  | lcmp => exact s_ro_ll (fun _ _ _ => s_ro_nx hle)
  | ldiv => exact s_ro_ll (fun _ _ _ => s_ro_if s_ro_no (s_ro_nx hle))
  | lrem => exact s_ro_ll (fun _ _ _ => s_ro_if s_ro_no (s_ro_nx hle))
  | l2i => exact s_ro_l1 (fun _ _ => s_ro_nx hle)
  | lshr => exact s_ro_i1 (fun _ _ => s_ro_l1 (fun _ _ => s_ro_nx hle))
  | dup =>
    unfold s_ex
    dsimp only
    split
    · split
      · exact s_ro_nx hle
      · exact s_ro_no
    · exact s_ro_no
  | dup2 =>
    unfold s_ex
    dsimp only
    split
    · split
      · exact s_ro_nx hle
      · exact s_ro_no
    · exact s_ro_no
  | pop =>
    unfold s_ex
    dsimp only
    split
    · split
      · exact s_ro_nx hle
      · exact s_ro_no
    · exact s_ro_no
  | ifCond o _ => exact s_ro_i1 (fun _ _ => by cases o <;> exact s_ro_br hle)
  | if_icmp o _ => exact s_ro_ii (fun _ _ _ => by cases o <;> exact s_ro_br hle)
  | if_acmp o _ =>
    unfold s_ex
    dsimp only
    split
    · split
      · cases o <;> exact s_ro_br hle
      · exact s_ro_no
    · exact s_ro_no
  | ifnull _ =>
    unfold s_ex
    dsimp only
    split
    · exact s_ro_nx hle
    · exact s_ro_nx hle
    · exact s_ro_no
  | ifnonnull _ =>
    unfold s_ex
    dsimp only
    split
    · exact s_ro_nx hle
    · exact s_ro_nx hle
    · exact s_ro_no
  | goto _ => exact s_ro_nx hle
  | tableswitch d lo hi offs => exact s_ro_i1 (fun _ _ => s_ro_if (s_ro_ts hle _ _) s_ro_no)
  | lookupswitch d ps => exact s_ro_i1 (fun _ _ => s_ro_ls hle _)
  | getfield x =>
    unfold s_ex
    dsimp only
    split
    · exact s_ro_gf hle
    · exact s_ro_no
  | putfield x =>
    unfold s_ex
    dsimp only
    split
    · exact s_ro_pf hle
    · exact s_ro_no
  | getstatic x =>
    unfold s_ex
    dsimp only
    split
    · exact s_ro_nx hle
    · exact s_ro_no
  | ldc x =>
    unfold s_ex
    dsimp only
    split
    · exact s_ro_nx hle
    · exact s_ro_nx hle
    · exact s_ro_no
  | ldc_w x =>
    unfold s_ex
    dsimp only
    split
    · exact s_ro_nx hle
    · exact s_ro_nx hle
    · exact s_ro_no
  | ldc2_w x =>
    unfold s_ex
    dsimp only
    split
    · exact s_ro_nx hle
    · exact s_ro_no
  | iaload => exact s_ro_iald hle
  | baload => exact s_ro_bald hle
  | laload => exact s_ro_lald hle
  | aaload => exact s_ro_aald hle
  | iastore => exact s_ro_iast hle
  | bastore => exact s_ro_bast hle
  | lastore => exact s_ro_last hle
  | aastore => exact s_ro_aast hle
  | arraylength => exact s_ro_alen hle
  | newarray t => exact s_ro_mka hle
  | anewarray x =>
    unfold s_ex
    dsimp only
    split
    · exact s_ro_mka hle
    · exact s_ro_no
  | new x =>
    unfold s_ex
    dsimp only
    split
    · exact s_ro_mko hle
    · split
      · exact s_ro_rt _
      · exact s_ro_no
  | invokevirtual x =>
    unfold s_ex
    dsimp only
    split
    · exact s_ro_inv hle
    · exact s_ro_no
  | invokestatic x =>
    unfold s_ex
    dsimp only
    split
    · exact s_ro_inv hle
    · exact s_ro_no
  | invokespecial x =>
    unfold s_ex
    dsimp only
    split
    · exact s_ro_inv hle
    · exact s_ro_no
  | ireturn =>
    show s_ro (s_ret rt st) (s_ret rt st)
    unfold s_ret
    split
    · exact s_ro_rt _
    · exact s_ro_if (s_ro_rt _) s_ro_no
    · exact s_ro_no
  | lreturn =>
    unfold s_ex
    dsimp only
    split
    · exact s_ro_rt _
    · exact s_ro_no
  | areturn =>
    unfold s_ex
    dsimp only
    split
    · exact s_ro_rt _
    · exact s_ro_rt _
    · exact s_ro_no
  | return_ =>
    unfold s_ex
    dsimp only
    split
    · exact s_ro_rt _
    · exact s_ro_no
  | _ => exact s_ro_no
theorem s_exq_le {q : s_M} {pc : Nat} {L L' : s_L} {st : List Value} {h : s_H} (hle : s_le L L') : s_ro (s_exq q pc L st h) (s_exq q pc L' st h) := by
  unfold s_exq
  split
  · exact s_ro_ex hle
  · exact s_ro_no
/-- from a place where more locals are known -/
theorem s_mny_more {f d : Nat} {q : s_M} : ∀ (n : Nat) (pc pc1 : Nat) (L L' L1 : s_L) (st st1 : List Value) (h h1 : s_H), s_le L L' → s_mny f d q n (pc, L, st, h) = some (pc1, L1, st1, h1) → ∃ L1', s_le L1 L1' ∧ s_mny f d q n (pc, L', st, h) = some (pc1, L1', st1, h1) := by
  intro n
  induction n with
  | zero =>
    intro pc pc1 L L' L1 st st1 h h1 hle hm
    cases hm
    exact ⟨L', hle, rfl⟩
  | succ n ih =>
    intro pc pc1 L L' L1 st st1 h h1 hle hm
    rw [s_mny] at hm
    dsimp only at hm
    split at hm
    · rename_i y ho
      obtain ⟨pc2, L2, st2, h2⟩ := y
      obtain ⟨i, len, tg, cp, hlo, hcp, hc⟩ := s_one_of ho
      have hq : ∀ o, s_ex cp q.2.2.2.2.1 q.2.2.2.2.2.1 q.2.2.2.1 pc i tg L st h = o → s_exq q pc L st h = o := by
        intro o ho
        unfold s_exq
        rw [hlo, hcp]
        exact ho
      have hro := s_exq_le (q := q) (pc := pc) (st := st) (h := h) hle
      rcases hc with ⟨a1, a2, a3, a4, ey, hex, hmo⟩ | ⟨r1, ey, -, -⟩ | ⟨w, x, md, vs, rest, d1, q1, px1, v, h3, ey, hex, hiv, rfl, hq1, hlen, hrun⟩
      · cases ey
        obtain ⟨L2', e2, hle2⟩ := hro.1 _ _ _ _ (hq _ hex)
        obtain ⟨L1', hle1, e1⟩ := ih _ _ _ _ _ _ _ _ _ hle2 hm
        refine ⟨L1', hle1, ?_⟩
        rw [s_mny, s_one_nx e2 hmo]
        exact e1
      · cases ey
      · cases ey
        have e2 := hro.2 _ (hq _ hex)
        obtain ⟨L1', hle1, e1⟩ := ih _ _ _ _ _ _ _ _ _ hle hm
        refine ⟨L1', hle1, ?_⟩
        rw [s_mny, s_one_call e2 (by unfold s_isq; rw [hlo]; dsimp only; rw [hiv]) hq1 hlen hrun]
        exact e1
    · cases hm
