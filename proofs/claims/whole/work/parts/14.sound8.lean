-- the shape of a step
theorem s_one_of {run : Nat → s_M → Nat → s_L → List Value → s_H → Option (Nat × Option (Option Value) × s_H)} {d : Nat} {q : s_M} {pc : Nat} {L : s_L} {st : List Value} {h : s_H} {y : (Nat × s_L × List Value × s_H) ⊕ Option (Option Value)} (hr : s_one run d q pc L st h = some y) :
    ∃ (i : Instr) (len tg : Nat) (cp : s_C), s_look q.2.2.2.2.2.2 pc = some (i, len, tg) ∧ s_cps[q.2.2.2.2.1]? = some cp ∧
    ((∃ pc1 L1 st1 h1, y = .inl (pc1, L1, st1, h1) ∧ s_ex cp q.2.2.2.2.1 q.2.2.2.2.2.1 q.2.2.2.1 pc i tg L st h = some (.inl (pc1, L1, st1, h1)) ∧ s_mo h h1 = true) ∨
     (∃ r, y = .inr r ∧ s_ex cp q.2.2.2.2.1 q.2.2.2.2.2.1 q.2.2.2.1 pc i tg L st h = some (.inr (.inl r)) ∧ s_isE i = true) ∨
     (∃ w x md vs rest d1 q1 px1 v h1, y = .inl (pc + 3, L, v.toList ++ rest, h1) ∧ s_ex cp q.2.2.2.2.1 q.2.2.2.2.2.1 q.2.2.2.1 pc i tg L st h = some (.inr (.inr (md, vs, rest))) ∧ s_iv i = some (w, x) ∧ d = d1 + 1 ∧ s_ms[md]? = some q1 ∧ (s_en vs).length ≤ q1.2.2.1 ∧ run d1 q1 0 (s_ent vs q1.2.2.1) [] h = some (px1, some v, h1))) := by
  unfold s_one at hr
  split at hr
  · rename_i i len tg cp hlo hcp
    refine ⟨i, len, tg, cp, hlo, hcp, ?_⟩
    split at hr
    · rename_i pc1 L1 st1 h1 hex
      split at hr
      · rename_i hmo
        cases hr
        exact Or.inl ⟨pc1, L1, st1, h1, rfl, hex, hmo⟩
      · cases hr
    · rename_i r1 hex
      split at hr
      · rename_i hE
        cases hr
        exact Or.inr (Or.inl ⟨r1, rfl, hex, hE⟩)
      · cases hr
    · rename_i md vs rest hex
      split at hr
      · cases hr
      · rename_i wx hiv
        split at hr
        · rename_i d1 q1 hq1
          split at hr
          · rename_i hle
            split at hr
            · rename_i px1 v h1 hrun
              cases hr
              exact Or.inr (Or.inr ⟨wx.1, wx.2, md, vs, rest, d1, q1, px1, v, h1, rfl, hex, hiv, rfl, hq1, Nat.le_of_ble_eq_true hle, hrun⟩)
            · cases hr
          · cases hr
        · cases hr
    · cases hr
  · cases hr
/-- the shape of a run's first step -/
theorem s_run_of {d f : Nat} {q : s_M} {pc px : Nat} {L : s_L} {st : List Value} {h h' : s_H} {r : Option (Option Value)} (hr : s_run (f + 1) d q pc L st h = some (px, r, h')) :
    ∃ (i : Instr) (len tg : Nat) (cp : s_C), s_look q.2.2.2.2.2.2 pc = some (i, len, tg) ∧ s_cps[q.2.2.2.2.1]? = some cp ∧
    ((∃ pc1 L1 st1 h1, s_ex cp q.2.2.2.2.1 q.2.2.2.2.2.1 q.2.2.2.1 pc i tg L st h = some (.inl (pc1, L1, st1, h1)) ∧ s_mo h h1 = true ∧ s_run f d q pc1 L1 st1 h1 = some (px, r, h')) ∨
     (s_ex cp q.2.2.2.2.1 q.2.2.2.2.2.1 q.2.2.2.1 pc i tg L st h = some (.inr (.inl r)) ∧ s_isE i = true ∧ px = pc ∧ h' = h) ∨
     (∃ w x md vs rest d1 q1 px1 v h1, s_ex cp q.2.2.2.2.1 q.2.2.2.2.2.1 q.2.2.2.1 pc i tg L st h = some (.inr (.inr (md, vs, rest))) ∧ s_iv i = some (w, x) ∧ d = d1 + 1 ∧ s_ms[md]? = some q1 ∧ (s_en vs).length ≤ q1.2.2.1 ∧ s_run f d1 q1 0 (s_ent vs q1.2.2.1) [] h = some (px1, some v, h1) ∧ s_run f d q (pc + 3) L (v.toList ++ rest) h1 = some (px, r, h'))) := by
  rw [s_run] at hr
  split at hr
  · rename_i pc1 L1 st1 h1 ho
    obtain ⟨i, len, tg, cp, hlo, hcp, hc⟩ := s_one_of ho
    refine ⟨i, len, tg, cp, hlo, hcp, ?_⟩
    rcases hc with ⟨a1, a2, a3, a4, e, hex, hmo⟩ | ⟨r1, e, -, -⟩ | ⟨w, x, md, vs, rest, d1, q1, px1, v, h2, e, hex, hiv, hd, hq1, hle, hrun⟩
    · cases e
      exact Or.inl ⟨_, _, _, _, hex, hmo, hr⟩
    · cases e
    · cases e
      exact Or.inr (Or.inr ⟨w, x, md, vs, rest, d1, q1, px1, v, _, hex, hiv, hd, hq1, hle, hrun, hr⟩)
  · rename_i r1 ho
    cases hr
    obtain ⟨i, len, tg, cp, hlo, hcp, hc⟩ := s_one_of ho
    refine ⟨i, len, tg, cp, hlo, hcp, ?_⟩
    rcases hc with ⟨a1, a2, a3, a4, e, hex, hmo⟩ | ⟨r1, e, hex, hE⟩ | ⟨w, x, md, vs, rest, d1, q1, px1, v, h2, e, -⟩
    · cases e
    · cases e
      exact Or.inr (Or.inl ⟨hex, hE, rfl, rfl⟩)
    · cases e
  · cases hr
theorem s_mo_of {h h1 : s_H} (hm : s_mo h h1 = true) : h.1 ≤ h1.1 ∧ h.2.1 ≤ h1.2.1 ∧ h1.2.2.1 = h.2.2.1 := by
  unfold s_mo at hm
  simp only [Bool.and_eq_true] at hm
  refine ⟨Nat.le_of_ble_eq_true hm.1.1, Nat.le_of_ble_eq_true hm.1.2, ?_⟩
  have h2 := hm.2
  cases ha : h.2.2.1 <;> cases hb : h1.2.2.1 <;> rw [ha, hb] at h2 <;> first | rfl | cases h2
theorem s_run_mono : ∀ (f d : Nat) (q : s_M) (pc px : Nat) (L : s_L) (st : List Value) (h h' : s_H) (r : Option (Option Value)), s_run f d q pc L st h = some (px, r, h') → h.1 ≤ h'.1 ∧ h.2.1 ≤ h'.2.1 ∧ h'.2.2.1 = h.2.2.1 := by
  intro f
  induction f with
  | zero => intro d q pc px L st h h' r hr; rw [s_run] at hr; cases hr
  | succ f ih =>
    intro d q pc px L st h h' r hr
    obtain ⟨i, len, tg, cp, -, -, hc⟩ := s_run_of hr
    rcases hc with ⟨pc1, L1, st1, h1, -, hmo, hr1⟩ | ⟨-, -, -, rfl⟩ | ⟨w, x, md, vs, rest, d1, q1, px1, v, h1, -, -, rfl, -, -, hr1, hr2⟩
    · obtain ⟨a1, a2, a3⟩ := s_mo_of hmo
      obtain ⟨b1, b2, b3⟩ := ih _ _ _ _ _ _ _ _ _ hr1
      exact ⟨by omega, by omega, by rw [b3, a3]⟩
    · exact ⟨Nat.le_refl _, Nat.le_refl _, rfl⟩
    · obtain ⟨a1, a2, a3⟩ := ih _ _ _ _ _ _ _ _ _ hr1
      obtain ⟨b1, b2, b3⟩ := ih _ _ _ _ _ _ _ _ _ hr2
      exact ⟨by omega, by omega, by rw [b3, a3]⟩
-- what holds of the start stays
def s_isN (w : Cond) : Bool := match w with
  | .fieldLinkNest _ _ _ _ _ _ => true
  | .methodLinkNest _ _ _ _ => true
  | _ => false
theorem s_nws_N : ∀ w ∈ s_nws, s_isN w = true := by decide +kernel
theorem s_Any_moved {E : String} {u U : State} {H : Heap} {a : Nat} (hvm : u.vm.Alike U.vm) (h : va_Any E u H a) : va_Any E U H a := by
  obtain ⟨cell, h1, h2, ⟨kC, h3⟩, h4⟩ := h
  obtain ⟨k', hk', -⟩ := hvm.2.2 _ _ h3
  refine ⟨cell, h1, h2, ⟨k', hk'⟩, fun comp hc => ?_⟩
  rw [hvm.findClass] at hc
  rw [Vm.Alike.assignable hvm]
  exact h4 comp hc
theorem s_SR_moved {base : Nat} {ρ : Nat → Nat} {D : va_G} {cid : Nat → ClassId} {xs : Nat → Int32} {Ln : Nat} {s U : State} (h : s_SR base ρ D cid xs Ln s) (hW : s.WarmedH U.vm) (hz : s.heap.size ≤ U.heap.size) (hq : ∀ a : Nat, a < s.heap.size → ¬ s_A base a → U.heap[a]? = s.heap[a]?) : s_SR base ρ D cid xs Ln U := by
  obtain ⟨k1, k2, ⟨k3, k4, k5⟩, ⟨k6, k7⟩, k8, k9, ⟨k10, k11, k12, k13⟩, ⟨k14, k16, k17, k18⟩, k15⟩ := h
  have hA := hW.alike
  refine ⟨va_K.moved hA k1, fun w hw => ?_, ⟨va_AO.moved hA k3, va_AO.moved hA k4, va_AO.moved hA k5⟩, ⟨fun i hi => va_Z.moved hA ((k6 i hi).kept hq), va_Z.moved hA (k7.kept hq)⟩, fun i hi => ?_, va_T.moved hA (k9.kept hq), ⟨va_X.moved hA (k10.kept (hq _ k12 k11)), k11, Nat.lt_of_lt_of_le k12 hz, k13⟩, ⟨fun k a hm => vk_R.warm hW (k14 k a hm), fun i hi => ?_, va_Z.moved hA (k17.kept hq), va_Zq.moved hA (k18.kept hq)⟩, Nat.le_trans k15 hz⟩
  · have h1 := k2 w hw
    have h2 := s_nws_N w hw
    cases w with
    | fieldLinkNest a b c d e f => exact va_Nw.warmF hW h1
    | methodLinkNest a b c d => exact va_Nw.warmM hW h1
    | _ => cases h2
  · obtain ⟨j1, j2, j3, j4⟩ := k8 i hi
    refine ⟨va_OF.moved hA (j1.kept hq), va_OF.moved hA (j2.kept hq), va_O.moved hA (j3.kept hq), ?_⟩
    obtain ⟨cell, w1, w2, w3, w4⟩ := j3
    exact s_Any_moved hA (s_Any_kept j4 (hq _ (Array.getElem?_eq_some_iff.mp w1).1 w4))
  · obtain ⟨t, j1, j2, j3, j4⟩ := k16 i hi
    exact ⟨t, va_O.moved hA (j1.kept hq), va_OF.moved hA (j2.kept hq), va_OF.moved hA (j3.kept hq), va_T.moved hA (j4.kept hq)⟩
-- a method's contract, by its run
def s_ws (q : s_M) : List Cond := Cond.code q.1 q.2.1 q.2.2.1 q.2.2.2.1 :: s_gw
def s_rm (d mc ms : Nat) : Room := { frames := d + 6, cells := mc, slots := ms, locals := 40 * d + 240 }
def s_Pc (base : Nat) (ρ : Nat → Nat) (D : va_G) (cid : Nat → ClassId) (xs : Nat → Int32) (Ln : Nat) (vs : List Value) (h : s_H) : Array Value → State → Prop := fun a U => a = (vs.map (s_v ρ)).toArray ∧ s_HR base ρ D cid xs Ln h U.heap ∧ s_SR base ρ D cid xs Ln U ∧ (h.2.2.1 = true → U.heap.size = base + h.1)
def s_Qc (base : Nat) (ρ : Nat → Nat) (D : va_G) (cid : Nat → ClassId) (xs : Nat → Int32) (Ln : Nat) (v : Option Value) (h : s_H) : Array Value → State → Outcome → State → Prop := fun _ st oc t => oc = .returned (v.map (s_v ρ)) ∧ s_HR base ρ D cid xs Ln h t.heap ∧ va_F (s_A base) st t
theorem s_Pc_blind {base : Nat} {ρ : Nat → Nat} {D : va_G} {cid : Nat → ClassId} {xs : Nat → Int32} {Ln : Nat} {vs : List Value} {h : s_H} : FrameBlind (s_Pc base ρ D cid xs Ln vs h) := by
  intro a U g mk hp
  obtain ⟨h1, h2, h3, h4⟩ := hp
  exact ⟨h1, h2, s_SR_moved (U := U.calling g mk a) h3 (State.WarmedH.refl U) (Nat.le_refl _) (fun _ _ _ => rfl), h4⟩
def s_Snd (l : Launch) (base : Nat) (ρ : Nat → Nat) (D : va_G) (cid : Nat → ClassId) (xs : Nat → Int32) (Ln : Nat) (d f : Nat) : Prop :=
  ∀ (q : s_M) (pc : Nat) (L : s_L) (st : List Value) (h : s_H) (px : Nat) (r : Option (Option Value)) (h' : s_H), s_run f d q pc L st h = some (px, r, h') →
  ∀ (p : Program) (e : Env) (R : Room) (s : State) (m : MethodId) (args : Array Value) (below : List Frame) (meth : Method) (c : Code) (Q : State → Prop) (n0 z0 G Gs : Nat) (H : Heap) (locs : List Loc) (ls : Array Slot),
  s_Cx p s m args meth c base ρ D cid xs Ln q → (h.2.2.1 = true → s.heap.size = base + n0 ∧ G = 0) → n0 ≤ h.1 → z0 ≤ h.2.1 → d + 6 ≤ R.frames → 40 * d + 240 ≤ R.locals → h'.1 - n0 + G ≤ R.cells → h'.2.1 - z0 + Gs ≤ R.slots →
  s_HR base ρ D cid xs Ln h H → va_S (s_A base) s.heap H locs → lv_has ls q.2.2.1 (s_as ρ 0 L) → L.length = q.2.2.1 →
  (∀ (i : Instr) (len tg : Nat) (cp : s_C) (L' : s_L) (st' : List Value), s_look q.2.2.2.2.2.2 px = some (i, len, tg) → s_cps[q.2.2.2.2.1]? = some cp → s_isE i = true → s_ex cp q.2.2.2.2.1 q.2.2.2.2.2.1 q.2.2.2.1 px i tg L' st' h' = some (.inr (.inl r)) → s_K p l e R s m args below meth c Q base ρ D cid xs Ln q n0 z0 G Gs px L' st' h') →
  W p l e R s m args below meth c H locs (h.1 - n0 + G) (h.2.1 - z0 + Gs) Q (F0 m pc ls (st.map (s_v ρ)))
section SNL
variable {p : Program} {l : Launch} {e : Env} {R : Room} {s : State} {m : MethodId} {args : Array Value} {below : List Frame} {meth : Method} {c : Code} {Q : State → Prop}
variable {base : Nat} {ρ : Nat → Nat} {D : va_G} {cid : Nat → ClassId} {xs : Nat → Int32} {Ln : Nat}
set_option maxHeartbeats 1000000 in
/-- the end of a method that returns -/
theorem s_exit {cp : s_C} {q : s_M} {n0 z0 G Gs px len tg : Nat} {i : Instr} {L' : s_L} {st' : List Value} {h' : s_H} {v : Option Value}
    (cx : s_Cx p s m args meth c base ρ D cid xs Ln q) (hr : meth.sig.returnType = q.2.2.2.1) (hlocks : meth.locks = false) (hlo : s_look q.2.2.2.2.2.2 px = some (i, len, tg)) (hE : s_isE i = true) (hex : s_ex cp q.2.2.2.2.1 q.2.2.2.2.2.1 q.2.2.2.1 px i tg L' st' h' = some (.inr (.inl (some v)))) :
    s_K p l e R s m args below meth c (MQ below (s_Qc base ρ D cid xs Ln v h') args s (h'.1 - n0 + G) (h'.2.1 - z0 + Gs) (s_A base)) base ρ D cid xs Ln q n0 z0 G Gs px L' st' h' := by
  obtain ⟨hdg, hlk, -⟩ := s_cx_at cx hlo
  obtain ⟨hx, hb, -⟩ := cx
  intro H1 locs1 ls1 hH hS hl hL
  have hq : ∀ t : State, t.heap = H1 → s.WarmedH t.vm → s_Qc base ρ D cid xs Ln v h' args s (.returned (v.map (s_v ρ))) t := fun t ht _ => ⟨rfl, by rw [ht]; exact hH, hS.F ht⟩
  cases i with
  | ireturn =>
    obtain rfl : 1 = len := Nat.eq_of_beq_eq_true hlk
    change s_ret q.2.2.2.1 st' = _ at hex
    unfold s_ret at hex
    split at hex
    · rename_i x hrt
      cases hex
      rw [hrt] at hr
      exact W.iret hx hb hr hq hS.2.2 hdg hlocks
    · rename_i x hrt
      rw [hrt] at hr
      split at hex
      · rename_i h01
        cases hex
        exact W.zret hx hb hr (by rcases h01 with rfl | rfl <;> rfl) hq hS.2.2 hdg hlocks
      · cases hex
    · cases hex
  | lreturn =>
    obtain rfl : 1 = len := Nat.eq_of_beq_eq_true hlk
    unfold s_ex at hex
    dsimp only at hex
    split at hex
    · rename_i x hrt
      cases hex
      rw [hrt] at hr
      exact W.lret hx hb hr hq hS.2.2 hdg hlocks
    · cases hex
  | areturn =>
    obtain rfl : 1 = len := Nat.eq_of_beq_eq_true hlk
    unfold s_ex at hex
    dsimp only at hex
    split at hex
    · rename_i C x hrt
      cases hex
      rw [hrt] at hr
      exact W.aret hx hb hr (Or.inl ⟨_, rfl⟩) (Or.inr ⟨_, rfl⟩) hq hS.2.2 hdg hlocks
    · rename_i C hrt
      cases hex
      rw [hrt] at hr
      exact W.aret hx hb hr (Or.inl ⟨_, rfl⟩) (Or.inl rfl) hq hS.2.2 hdg hlocks
    · cases hex
  | return_ =>
    obtain rfl : 1 = len := Nat.eq_of_beq_eq_true hlk
    unfold s_ex at hex
    dsimp only at hex
    split at hex
    · rename_i hrt
      cases hex
      rw [hrt] at hr
      exact W.vret hx hb hr hq hS.2.2 hdg hlocks
    · cases hex
  | new x =>
    exfalso
    unfold s_ex at hex
    dsimp only at hex
    split at hex
    · unfold s_mko at hex
      split at hex
      · cases hex
      · split at hex
        · split at hex
          · cases hex
          · cases hex
        · cases hex
    · split at hex
      · cases hex
      · cases hex
  | _ => cases hE
set_option maxHeartbeats 1000000 in
/-- the contract of a method whose run is known -/
theorem s_met {d f : Nat} (ih : s_Snd l base ρ D cid xs Ln d f) (hρ : ∀ a, a < 1000 → ρ a = base + a) (hinj : ∀ a b, 1000 ≤ a → a < 1029 → 1000 ≤ b → b < 1029 → ρ a = ρ b → a = b) {q : s_M} (hok : s_okM q) {vs : List Value} (hlen : (s_en vs).length ≤ q.2.2.1) {h h' : s_H} {px : Nat} {v : Option Value}
    (hr : s_run f d q 0 (s_ent vs q.2.2.1) [] h = some (px, some v, h')) : Met l q.1 (s_ws q) (s_rm d (h'.1 - h.1) (h'.2.1 - h.2.1)) (s_Pc base ρ D cid xs Ln vs h) (s_Qc base ρ D cid xs Ln v h') (h'.1 - h.1) (h'.2.1 - h.2.1) (s_A base) := by
  obtain ⟨o1, o2, o3, o4, o5, o6, o7, o8, o9⟩ := hok
  refine Met.ofW (cc := q.2.1) (maxL := q.2.2.1) (ret := q.2.2.2.1) o1 rfl ?_
  intro p e s m args below meth c s₁ B hml hv
  obtain ⟨rfl, hH, hSR, hal⟩ := hv
  have hts := atoms_spec (ws := s_ws q) B.pre
  have hown : s.vm.findClass q.1.cls = some m.cls := findClass_of_methodNamed B.named
  have cx : s_Cx p s m ((vs.map (s_v ρ)).toArray) meth c base ρ D cid xs Ln q := ⟨B.exec, B.bytes, hml, by rw [← o2]; exact hown, fun w hw => hts w (List.mem_cons_of_mem _ hw), fun hi => ((name_of_methodNamed B.named B.method).1).trans (o6 hi).1, hSR, hρ, hinj, o4, o5⟩
  have hsl : ∀ us : List Value, (lg_sl (us.map (s_v ρ))).length = (s_en us).length := by
    intro us
    induction us with
    | nil => rfl
    | cons u r ihu =>
      have e1 : lg_sl ((u :: r).map (s_v ρ)) = (if (s_v ρ u).category = 2 then [.val (s_v ρ u), .second] else [.val (s_v ρ u)]) ++ lg_sl (r.map (s_v ρ)) := rfl
      rw [e1, List.length_append, ihu, s_v_cat]
      cases u <;> simp [s_en, Value.category] <;> omega
  have hl := lv_entry (vs.map (s_v ρ)) (n := q.2.2.1) (by rw [hsl]; exact hlen)
  rw [lg_entry_eq]
  generalize (lg_sl (vs.map (s_v ρ)) ++ List.replicate (q.2.2.1 - (lg_sl (vs.map (s_v ρ))).length) Slot.unset).toArray = ls at hl ⊢
  rw [← s_ent_as (ρ := ρ) vs q.2.2.1] at hl
  have hLn : (s_ent vs q.2.2.1).length = q.2.2.1 := by
    unfold s_ent
    rw [List.length_append, List.length_replicate]
    omega
  have hS : va_S (s_A base) s.heap s.heap [] := va_S.rf
  have key := ih q 0 (s_ent vs q.2.2.1) [] h px (some v) h' hr p e (headSpec (s_ws q) (s_rm d (h'.1 - h.1) (h'.2.1 - h.2.1))).room s m ((vs.map (s_v ρ)).toArray) below meth c (MQ below (s_Qc base ρ D cid xs Ln v h') ((vs.map (s_v ρ)).toArray) s (h'.1 - h.1) (h'.2.1 - h.2.1) (s_A base)) h.1 h.2.1 0 0 s.heap [] ls cx (fun ha => ⟨hal ha, rfl⟩) (Nat.le_refl _) (Nat.le_refl _) (Nat.le_refl _) (Nat.le_refl _) (Nat.le_refl _) (Nat.le_refl _) hH hS hl hLn (fun i len tg cp L' st' hlo hcp hE hex => s_exit cx B.returns B.notSynchronized hlo hE hex)
  rw [Nat.sub_self, Nat.sub_self] at key
  exact key
end SNL
