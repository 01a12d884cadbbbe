-- WHAT THE PURE FUNCTIONS ARE MADE OF: binds, loops, indices, words
def s_b1 {α β : Type} (o : Option α) (f : α → Option β) : Option β := match o with
  | none => none
  | some a => f a
def s_b2 {α β γ : Type} (o : Option (α × β)) (f : α → β → Option γ) : Option γ := match o with
  | none => none
  | some (a, b) => f a b
def s_in {α β : Type} (o : Option β) : Option (α ⊕ β) := match o with
  | none => none
  | some b => some (.inr b)
def s_sm {X R : Type} (P : X → Option Value → s_H → Prop) (Q : R → Option Value → s_H → Prop) (z : X ⊕ R) : Option Value → s_H → Prop := match z with
  | .inl x => P x
  | .inr r => Q r
theorem s_bd {α β : Type} {o : Option α} {f : α → Option β} {z : β} (h : s_b1 o f = some z) : ∃ a, o = some a ∧ f a = some z := by
  cases o with
  | none => cases h
  | some a => exact ⟨a, rfl, h⟩
theorem s_bd2 {α β γ : Type} {o : Option (α × β)} {f : α → β → Option γ} {z : γ} (h : s_b2 o f = some z) : ∃ a b, o = some (a, b) ∧ f a b = some z := by
  cases o with
  | none => cases h
  | some p => exact ⟨p.1, p.2, rfl, h⟩
theorem s_in_of {α β : Type} {o : Option β} {z : α ⊕ β} (h : s_in o = some z) : ∃ b, o = some b ∧ z = .inr b := by
  cases o with
  | none => cases h
  | some b => cases h; exact ⟨b, rfl, rfl⟩
theorem s_b1_s {α β : Type} (a : α) (f : α → Option β) : s_b1 (some a) f = f a := rfl
theorem s_b2_s {α β γ : Type} (a : α) (b : β) (f : α → β → Option γ) : s_b2 (some (a, b)) f = f a b := rfl
theorem s_in_s {α β : Type} (b : β) : (s_in (some b) : Option (α ⊕ β)) = some (.inr b) := rfl
-- loops
def s_it {X R : Type} (B : X → Option (X ⊕ R)) : Nat → X → Option R
  | 0, _ => none
  | n + 1, x => match B x with
    | none => none
    | some (.inl y) => s_it B n y
    | some (.inr r) => some r
theorem s_lp_ex {X R : Type} (B : X → Option (X ⊕ R)) (x : X) : ∃ o : Option R, (o = none ∧ ∀ n, s_it B n x = none) ∨ ∃ r n, o = some r ∧ s_it B n x = some r := by
  by_cases h : ∃ n r, s_it B n x = some r
  · obtain ⟨n, r, h⟩ := h
    exact ⟨some r, Or.inr ⟨r, n, rfl, h⟩⟩
  · refine ⟨none, Or.inl ⟨rfl, fun n => ?_⟩⟩
    cases hn : s_it B n x with
    | none => rfl
    | some r => exact absurd ⟨n, r, hn⟩ h
noncomputable def s_lp {X R : Type} (B : X → Option (X ⊕ R)) (x : X) : Option R := Classical.choose (s_lp_ex B x)
theorem s_lp_sp {X R : Type} (B : X → Option (X ⊕ R)) (x : X) : (s_lp B x = none ∧ ∀ n, s_it B n x = none) ∨ ∃ r n, s_lp B x = some r ∧ s_it B n x = some r := Classical.choose_spec (s_lp_ex B x)
theorem s_it_up {X R : Type} (B : X → Option (X ⊕ R)) (r : R) : ∀ (n k : Nat) (x : X), s_it B n x = some r → s_it B (n + k) x = some r := by
  intro n
  induction n with
  | zero => intro k x h; cases h
  | succ n ih =>
    intro k x h
    rw [show n + 1 + k = (n + k) + 1 by omega]
    rw [s_it] at h ⊢
    split at h
    · cases h
    · exact ih _ _ h
    · exact h
theorem s_it_eq {X R : Type} {B : X → Option (X ⊕ R)} {n k : Nat} {x : X} {r r' : R} (h : s_it B n x = some r) (h' : s_it B k x = some r') : r = r' := by
  have a := s_it_up B r n k x h
  have b := s_it_up B r' k n x h'
  rw [Nat.add_comm] at b
  rw [a] at b
  exact Option.some.inj b
theorem s_lp_of {X R : Type} {B : X → Option (X ⊕ R)} {n : Nat} {x : X} {r : R} (h : s_it B n x = some r) : s_lp B x = some r := by
  rcases s_lp_sp B x with ⟨_, hn⟩ | ⟨r', k, h1, h2⟩
  · rw [hn n] at h; cases h
  · rw [h1, s_it_eq h h2]
theorem s_lp_to {X R : Type} {B : X → Option (X ⊕ R)} {x : X} {r : R} (h : s_lp B x = some r) : ∃ n, s_it B n x = some r := by
  rcases s_lp_sp B x with ⟨hn, _⟩ | ⟨r', k, h1, h2⟩
  · rw [hn] at h; cases h
  · rw [h1] at h; cases h; exact ⟨k, h2⟩
theorem s_lp_out {X R : Type} {B : X → Option (X ⊕ R)} {x : X} {r : R} (h : B x = some (.inr r)) : s_lp B x = some r := s_lp_of (n := 1) (by rw [s_it, h])
theorem s_lp_in {X R : Type} {B : X → Option (X ⊕ R)} {x y : X} (h : B x = some (.inl y)) : s_lp B x = s_lp B y := by
  cases hy : s_lp B y with
  | none =>
    cases hx : s_lp B x with
    | none => rfl
    | some r =>
      obtain ⟨n, hn⟩ := s_lp_to hx
      cases n with
      | zero => cases hn
      | succ n =>
        rw [s_it, h] at hn
        have := s_lp_of (x := y) hn
        rw [hy] at this
        cases this
  | some r =>
    obtain ⟨n, hn⟩ := s_lp_to hy
    exact s_lp_of (n := n + 1) (by rw [s_it, h]; exact hn)
theorem s_lp_s {X R : Type} {B : X → Option (X ⊕ R)} {P : X → Option Value → s_H → Prop} {Q : R → Option Value → s_H → Prop} (hB : ∀ x z, B x = some z → ∀ v h, s_sm P Q z v h → P x v h) {x : X} {z : R} (h : s_lp B x = some z) : ∀ v h, Q z v h → P x v h := by
  intro v h' hq
  obtain ⟨n, hn⟩ := s_lp_to h
  clear h
  induction n generalizing x with
  | zero => cases hn
  | succ n ih =>
    rw [s_it] at hn
    split at hn
    · cases hn
    · rename_i y hy
      exact hB _ _ hy _ _ (ih hn)
    · rename_i r hy
      cases hn
      exact hB _ _ hy _ _ hq
-- writes
def s_si (g : s_G) (a k : Nat) (v : Int32) : s_G := (s_up g.1 a k v, g.2.1, g.2.2)
def s_sl (g : s_G) (a k : Nat) (v : Int64) : s_G := (g.1, s_up g.2.1 a k v, g.2.2)
def s_sr (g : s_G) (a k : Nat) (v : Option Nat) : s_G := (g.1, g.2.1, s_up g.2.2 a k v)
def s_ci (g : s_G) (a b sp dp n : Nat) : s_G := (s_row g.1 b (va_cpy (g.1 a) (g.1 b) sp dp n), g.2.1, g.2.2)
def s_cL (g : s_G) (a b sp dp n : Nat) : s_G := (g.1, s_row g.2.1 b (va_cpy (g.2.1 a) (g.2.1 b) sp dp n), g.2.2)
-- an index
def s_ix (n : Nat) (i : Int32) : Option Nat := if i < 0 ∨ n ≤ i.toNatClampNeg then none else some i.toNatClampNeg
theorem s_ix_of {n : Nat} {i : Int32} {k : Nat} (h : s_ix n i = some k) : ¬ (i < 0 ∨ n ≤ i.toNatClampNeg) ∧ i.toNatClampNeg = k := by
  unfold s_ix at h
  split at h
  · cases h
  · rename_i hn
    exact ⟨hn, Option.some.inj h⟩
theorem s_Fin.ix {n : Nat} {i : Int32} {k : Nat} {d : Nat} {q : s_M} {pc pc1 : Nat} {L L1 : s_L} {st : List Value} {h h' : s_H} {v : Option Value} (st1 : Nat → List Value) (h1 : Nat → s_H) (hk : s_ix n i = some k) (hex : s_exq q pc L st h = if i < 0 ∨ n ≤ i.toNatClampNeg then none else s_nx pc1 L1 (st1 i.toNatClampNeg) (h1 i.toNatClampNeg)) (hmo : s_mo h (h1 k) = true) (kont : s_Fin d q (pc1, L1, st1 k, h1 k) v h') : s_Fin d q (pc, L, st, h) v h' := by
  obtain ⟨hn, rfl⟩ := s_ix_of hk
  exact s_Fin.gd hn hex hmo kont
-- words
def s_okw (w : Option Nat) : Bool := match w with
  | none => true
  | some a => Nat.ble 1000 a && Nat.blt a 1029
theorem s_okw_r {a : Nat} (h : s_okw (some a) = true) : 1000 ≤ a ∧ a < 1029 := by
  unfold s_okw at h
  rw [Bool.and_eq_true] at h
  exact ⟨Nat.le_of_ble_eq_true h.1, Nat.le_of_ble_eq_true h.2⟩
theorem s_ow_w {w : Option Nat} (h : s_okw w = true) : s_ow (va_rf w) = some w := by
  cases w with
  | none => rfl
  | some a =>
    show (if 1000 ≤ a ∧ a < 1029 then some (some a) else none) = some (some a)
    rw [if_pos (s_okw_r h)]
def s_acE (tg pc : Nat) (L : s_L) (r : List Value) (h : s_H) (v w : Value) : Option s_O := match s_ow v, s_ow w with
  | some ry, some rx => s_br (rx = ry) tg pc L r h
  | _, _ => none
def s_acN (tg pc : Nat) (L : s_L) (r : List Value) (h : s_H) (v w : Value) : Option s_O := match s_ow v, s_ow w with
  | some ry, some rx => s_br (¬ rx = ry) tg pc L r h
  | _, _ => none
theorem s_acE_t {tg pc : Nat} {L : s_L} {r : List Value} {h : s_H} {v : Value} {w : Option Nat} {c : Nat} (hw : s_okw w = true) (hv : s_ow v = some (some c)) (hc : w = some c) : s_acE tg pc L r h v (va_rf w) = some (.inl (tg, L, r, h)) := by
  unfold s_acE
  rw [hv, s_ow_w hw]
  dsimp only
  unfold s_br
  rw [if_pos hc]
  rfl
theorem s_acE_f {tg pc : Nat} {L : s_L} {r : List Value} {h : s_H} {v : Value} {w : Option Nat} {c : Nat} (hw : s_okw w = true) (hv : s_ow v = some (some c)) (hc : ¬ w = some c) : s_acE tg pc L r h v (va_rf w) = some (.inl (pc + 3, L, r, h)) := by
  unfold s_acE
  rw [hv, s_ow_w hw]
  dsimp only
  unfold s_br
  rw [if_neg hc]
  rfl
theorem s_acN_t {tg pc : Nat} {L : s_L} {r : List Value} {h : s_H} {v : Value} {w : Option Nat} {c : Nat} (hw : s_okw w = true) (hv : s_ow v = some (some c)) (hc : w = some c) : s_acN tg pc L r h v (va_rf w) = some (.inl (pc + 3, L, r, h)) := by
  unfold s_acN
  rw [hv, s_ow_w hw]
  dsimp only
  unfold s_br
  rw [if_neg (fun hn => hn hc)]
  rfl
theorem s_acN_f {tg pc : Nat} {L : s_L} {r : List Value} {h : s_H} {v : Value} {w : Option Nat} {c : Nat} (hw : s_okw w = true) (hv : s_ow v = some (some c)) (hc : ¬ w = some c) : s_acN tg pc L r h v (va_rf w) = some (.inl (tg, L, r, h)) := by
  unfold s_acN
  rw [hv, s_ow_w hw]
  dsimp only
  unfold s_br
  rw [if_pos hc]
  rfl
def s_wlt (a : Nat) : Option Int64 := if 1000 ≤ a ∧ a < 1029 then some (s_wl.getD (a - 1000) 0) else none
def s_wkd (a : Nat) : Option Int32 := if 1000 ≤ a ∧ a < 1029 then some (s_wk (a - 1000)) else none
def s_gfw (k pc : Nat) (L : s_L) (r : List Value) (h : s_H) (a : Nat) : Option s_O := match s_sv a k with
  | some v => s_nx pc L (v :: r) h
  | none => none
theorem s_wlt_of {a pc : Nat} {u : Int64} {L : s_L} {r : List Value} {h : s_H} (hu : s_wlt a = some u) : s_gfw 0 pc L r h a = some (.inl (pc, L, .long u :: r, h)) := by
  unfold s_wlt at hu
  split at hu
  · rename_i hr
    have hu := Option.some.inj hu
    subst hu
    unfold s_gfw s_sv
    rw [if_neg (by omega), if_pos (by omega)]
    rfl
  · cases hu
theorem s_wkd_of {a pc : Nat} {u : Int32} {L : s_L} {r : List Value} {h : s_H} (hu : s_wkd a = some u) : s_gfw 1 pc L r h a = some (.inl (pc, L, .int u :: r, h)) := by
  unfold s_wkd at hu
  split at hu
  · rename_i hr
    have hu := Option.some.inj hu
    subst hu
    unfold s_gfw s_sv
    rw [if_neg (by omega), if_pos (by omega)]
    rfl
  · cases hu
def s_aaw (a n pc : Nat) (L : s_L) (r : List Value) (h : s_H) (i : Int32) (v : Value) : Option s_O := if i < 0 ∨ n ≤ i.toNatClampNeg then none else (match v with
  | .null => s_nx pc L r (s_wR h a i.toNatClampNeg none)
  | .ref b => (match s_okR h a b with
    | true => s_nx pc L r (s_wR h a i.toNatClampNeg (some b))
    | false => none)
  | _ => none)
theorem s_aaw_of {a n pc : Nat} {L : s_L} {r : List Value} {h : s_H} {i : Int32} {v : Value} {w : Option Nat} {k : Nat} {h1 : Nat → s_H} (hG : s_isG h a 104 = true) (hv : v = va_rf w) (hw : s_okw w = true) (hk : s_ix n i = some k) (hh : ∀ k, s_wR h a k w = h1 k) : s_aaw a n pc L r h i v = some (.inl (pc, L, r, h1 k)) := by
  obtain ⟨hn, rfl⟩ := s_ix_of hk
  unfold s_aaw
  rw [if_neg hn, hv]
  cases w with
  | none => show s_nx pc L r (s_wR h a i.toNatClampNeg none) = _; rw [hh]; rfl
  | some b =>
    have hr := s_okw_r hw
    have ho : s_okR h a b = true := by
      unfold s_okR
      rw [hG]
      dsimp only
      rw [Nat.ble_eq_true_of_le hr.1]
      exact Nat.ble_eq_true_of_le hr.2
    show (match s_okR h a b with
    | true => s_nx pc L r (s_wR h a i.toNatClampNeg (some b))
    | false => none) = _
    rw [ho]
    dsimp only
    rw [hh]
    rfl
-- switches
theorem s_tne {v c : Int32} {k : Int} (hc : ¬ v = c) (hk : c.toInt = k) : ¬ v.toInt = k := fun h => hc (Int32.toInt_inj.mp (h.trans hk.symm))
theorem s_ts_ms0 {x pc : Int} {L : s_L} {st : List Value} {h : s_H} {d : Int} : ∀ (offs : List Int) (lo : Int), (x < lo ∨ lo + (offs.length : Int) ≤ x) → s_ts x pc L st h d lo offs = if 0 ≤ pc + d then s_nx (pc + d).toNat L st h else none := by
  intro offs
  induction offs with
  | nil => intro lo _; rfl
  | cons o t ih =>
    intro lo hx
    rw [List.length_cons] at hx
    rw [s_ts, if_neg (by omega)]
    exact ih _ (by omega)
theorem s_ts_ms {x pc : Int} {L : s_L} {st : List Value} {h : s_H} {d : Int} {offs : List Int} {n : Nat} (hn : offs.length = n) (hx : x < 0 ∨ (n : Int) ≤ x) {t : Nat} (ht : (if 0 ≤ pc + d then s_nx (pc + d).toNat L st h else none) = s_nx t L st h) : s_ts x pc L st h d 0 offs = some (.inl (t, L, st, h)) := by
  rw [s_ts_ms0 offs 0 (by rw [hn]; omega), ht]
  rfl
def s_lsn (x : Int) : List (Int × Int) → Prop
  | [] => True
  | p :: t => (¬ x = p.1) ∧ s_lsn x t
theorem s_ls_ms {x pc : Int} {L : s_L} {st : List Value} {h : s_H} {d : Int} {t : Nat} : ∀ {ps : List (Int × Int)}, s_lsn x ps → (if 0 ≤ pc + d then s_nx (pc + d).toNat L st h else none) = s_nx t L st h → s_ls x pc L st h d ps = some (.inl (t, L, st, h)) := by
  intro ps
  induction ps with
  | nil => intro _ ht; rw [s_ls, ht]; rfl
  | cons p r ih =>
    intro hx ht
    obtain ⟨a, o⟩ := p
    rw [s_ls, if_neg hx.1]
    exact ih hx.2 ht
