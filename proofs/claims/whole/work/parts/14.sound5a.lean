-- the JDK's own code under a text's length and its signs
/-- what it reads: one text at x, its bytes at t -/
def j_SS (A : Nat → Prop) (x t : Nat) (tx : List Int32) (U : State) : Prop :=
  va_O RJ0 x A U U.heap ∧ va_OF "java/lang/String" "coder" "B" (.int 0) x A U U.heap ∧ va_OF "java/lang/String" "value" "[B" (.ref t) x A U U.heap ∧ va_T .byte t tx.length (fun j => .int (tx.getD j 0)) A U U.heap ∧
  va_Z "java/lang/String" "COMPACT_STRINGS" "Z" (.int 1) A U U.heap ∧ va_Zq "jdk/internal/util/Preconditions" "SIOOBE_FORMATTER" "Ljava/util/function/BiFunction;" A U U.heap
theorem j_SS_moved {A : Nat → Prop} {x t : Nat} {tx : List Int32} {s U : State} (h : j_SS A x t tx s) (hW : s.WarmedH U.vm) (hq : ∀ a : Nat, a < s.heap.size → ¬ A a → U.heap[a]? = s.heap[a]?) : j_SS A x t tx U := by
  obtain ⟨h1, h2, h3, h4, h5, h6⟩ := h
  have hA := hW.alike
  exact ⟨va_O.moved hA (h1.kept hq), va_OF.moved hA (h2.kept hq), va_OF.moved hA (h3.kept hq), va_T.moved hA (h4.kept hq), va_Z.moved hA (h5.kept hq), va_Zq.moved hA (h6.kept hq)⟩
def j_P (A : Nat → Prop) (x t : Nat) (tx : List Int32) (As : List Value) : Array Value → State → Prop := fun a U => a = As.toArray ∧ j_SS A x t tx U
def j_Q (v : Option Value) : Array Value → State → Outcome → State → Prop := fun _ st oc t => oc = .returned v ∧ t.heap = st.heap
theorem j_P_blind {A : Nat → Prop} {x t : Nat} {tx : List Int32} {As : List Value} : FrameBlind (j_P A x t tx As) := by
  intro a U g mk hp
  exact ⟨hp.1, j_SS_moved (U := U.calling g mk a) hp.2 (State.WarmedH.refl U) (fun _ _ _ => rfl)⟩
def j_rm (n : Nat) : Room := { frames := n, cells := 0, slots := 0, locals := 30 * n }
def j_ws (y : MethodName) (cc : ByteArray) (maxL : Nat) (ret : Option FieldType) : List Cond := Cond.code y cc maxL ret :: s_gw
theorem j_gw {w : Cond} (p : Nat) (h : s_wAt p w = true) (hg : goodWord w = true) : w ∈ s_gw := s_gw_mem (s_wAt_mem h) hg
section JJ
variable {p : Program} {l : Launch} {e : Env} {R : Room} {s : State} {m : MethodId} {args : Array Value} {below : List Frame} {meth : Method} {c : Code} {Q : State → Prop}
variable {A : Nat → Prop} {x t : Nat} {tx : List Int32}
/-- a contract by its walk -/
theorem j_met {y : MethodName} {cc : ByteArray} {maxL n : Nat} {ret : Option FieldType} {As : List Value} {v : Option Value} (hy : plainName y.cls = true) (hlen : (lg_sl As).length ≤ maxL)
    (body : ∀ (p : Program) (e : Env) (R : Room) (s : State) (m : MethodId) (below : List Frame) (meth : Method) (c : Code) (ls : Array Slot), n ≤ R.frames → 30 * n ≤ R.locals → p.tables.exec = Jvm.exec → c.code = cc → c.maxLocals = maxL → s.vm.findClass y.cls = some m.cls → (∀ w ∈ s_gw, w.before As.toArray s = true) → meth.sig.returnType = ret → meth.locks = false → j_SS A x t tx s → lv_has ls maxL (lv_args 0 As) →
      W p l e R s m As.toArray below meth c s.heap [] 0 0 (MQ below (j_Q v) As.toArray s 0 0 (fun _ => False)) (F0 m 0 ls [])) :
    Met l y (j_ws y cc maxL ret) (j_rm n) (j_P A x t tx As) (j_Q v) 0 0 (fun _ => False) := by
  refine Met.ofW (cc := cc) (maxL := maxL) (ret := ret) hy rfl ?_
  intro p e s m args below meth c s₁ B hml hv
  obtain ⟨rfl, hSS⟩ := hv
  have hts := atoms_spec (ws := j_ws y cc maxL ret) B.pre
  have hown : s.vm.findClass y.cls = some m.cls := findClass_of_methodNamed B.named
  have hl := lv_entry As (n := maxL) hlen
  rw [lg_entry_eq]
  generalize (lg_sl As ++ List.replicate (maxL - (lg_sl As).length) Slot.unset).toArray = ls at hl ⊢
  exact body p e (headSpec (j_ws y cc maxL ret) (j_rm n)).room s m below meth c ls (Nat.le_refl _) (Nat.le_refl _) B.exec B.bytes hml hown (fun w hw => hts w (List.mem_cons_of_mem _ hw)) B.returns B.notSynchronized hSS hl
theorem j_back {H : Heap} {locs : List Loc} {cells slots pc : Nat} {ls : Array Slot} {rest st0 : List Value} {a : Array Value} {v : Option Value} (hr : va_Run p l e R s m args below meth c H locs cells slots 0 0 (F0 m pc ls st0) rest (j_Q v a) (fun _ => False))
    (kk : W p l e R s m args below meth c H locs cells slots Q (F0 m (pc + 3) ls (v.toList ++ rest))) : W p l e R s m args below meth c H locs cells slots Q (F0 m pc ls st0) := by
  intro T hT X
  obtain ⟨v', st₀, t, T', L, h0, X', hL, e1, e2, ⟨hv, hHR⟩, st⟩ := hr T hT X
  cases hv
  have hL0 : L = [] := by
    cases L with
    | nil => rfl
    | cons q r => exact (hL q List.mem_cons_self).elim
  subst hL0
  rw [List.append_nil] at X'
  obtain ⟨t2, a1, b1⟩ := kk T' (by rw [e1, hHR, h0]) X'
  exact ⟨t2, st t2 a1, b1⟩
theorem j_callS {y : MethodName} {bytes cc : ByteArray} {maxL nL n na index pc : Nat} {ret : Option FieldType} {own : String} {As rest : List Value} {v : Option Value} {H : Heap} {locs : List Loc} {ls : Array Slot} {cells slots : Nat}
    (hx : p.tables.exec = Jvm.exec) (hb : c.code = cc) (hml : c.maxLocals = nL) (hown : s.vm.findClass own = some m.cls) (hts : ∀ w ∈ s_gw, w.before args s = true) (hSS : j_SS A x t tx s) (hS : va_S A s.heap H locs)
    (hM : Met l y (j_ws y bytes maxL ret) (j_rm n) (j_P A x t tx As) (j_Q v) 0 0 (fun _ => False))
    (hfr : n + 1 ≤ R.frames) (hlc : 8 + (maxL + 11) + 30 * n ≤ R.locals) (hc : cells ≤ R.cells) (hs : slots ≤ R.slots) (hcode : Cond.code y bytes maxL ret ∈ s_gw) (hini : Cond.initialized y.cls ∈ s_gw) (hmh : y.cls ≠ "java/lang/invoke/MethodHandle" ∧ y.cls ≠ "java/lang/invoke/VarHandle") (hpar : (parseMethodDescriptor y.desc).map (fun d => d.parameters.length) = some na) (hlink : Cond.methodLink own index y ∈ s_gw) (hst : Cond.static y ∈ s_gw)
    (hn : As.length = na) (hsz : ls.size = nL) (hcat : (rest.map fun v => v.category).sum ≤ 8) (hdg : decode cc pc = .ok (.invokestatic index, 3))
    (kk : W p l e R s m args below meth c H locs cells slots Q (F0 m (pc + 3) ls (v.toList ++ rest))) : W p l e R s m args below meth c H locs cells slots Q (F0 m pc ls (As.reverse ++ rest)) := by
  have hgw : ∀ w ∈ j_ws y bytes maxL ret, w ∈ s_gw := by
    intro w hw
    rcases List.mem_cons.mp hw with rfl | h
    · exact hcode
    · exact h
  have hpay : ∀ w ∈ j_ws y bytes maxL ret, ∀ (a' : Array Value) (U : State), s.WarmedH U.vm → w.before a' U = true := fun w hw a' U hW => word_at hW (good_of_word (s_gw_good (hgw w hw)).2) (hts w (hgw w hw))
  have hp : ∀ sig, parseMethodDescriptor y.desc = some sig → na = sig.parameters.length := by
    intro sig hs
    rw [hs] at hpar
    exact (Option.some.inj hpar).symm
  refine j_back (a := As.toArray) (va_runS (As := As) (rest := rest) (n := na) ⟨hx, hb, hml, hown, hts⟩ hM ⟨⟨rfl, rfl, hfr, hlc, hpay, List.mem_cons_self, hts _ hcode, hts _ hini, hmh, hp, hts _ hlink⟩, hts _ hst⟩ ⟨j_P_blind, fun U hU hW => ⟨rfl, j_SS_moved hSS hW (fun a h1 h2 => by rw [hU]; exact hS.2.1 a h1 h2)⟩⟩ rfl hn hsz rfl (lv_room hcat) hdg ⟨hc, hs⟩) kk
theorem j_callV {y : MethodName} {bytes cc : ByteArray} {maxL nL n na index pc : Nat} {ret : Option FieldType} {own : String} {As rest : List Value} {v : Option Value} {H : Heap} {locs : List Loc} {ls : Array Slot} {cells slots : Nat}
    (hx : p.tables.exec = Jvm.exec) (hb : c.code = cc) (hml : c.maxLocals = nL) (hown : s.vm.findClass own = some m.cls) (hts : ∀ w ∈ s_gw, w.before args s = true) (hSS : j_SS A x t tx s) (hS : va_S A s.heap H locs)
    (hM : Met l y (j_ws y bytes maxL ret) (j_rm n) (j_P A x t tx (.ref x :: As)) (j_Q v) 0 0 (fun _ => False))
    (hfr : n + 1 ≤ R.frames) (hlc : 8 + (maxL + 11) + 30 * n ≤ R.locals) (hc : cells ≤ R.cells) (hs : slots ≤ R.slots) (hcode : Cond.code y bytes maxL ret ∈ s_gw) (hini : Cond.initialized y.cls ∈ s_gw) (hmh : y.cls ≠ "java/lang/invoke/MethodHandle" ∧ y.cls ≠ "java/lang/invoke/VarHandle") (hpar : (parseMethodDescriptor y.desc).map (fun d => d.parameters.length) = some na) (hlink : Cond.methodLink own index y ∈ s_gw) (hin : Cond.instanceMethod y ∈ s_gw) (hse : Cond.selects RJ0 y y ∈ s_gw)
    (hn : As.length = na) (hsz : ls.size = nL) (hcat : (rest.map fun v => v.category).sum ≤ 8) (hdg : decode cc pc = .ok (.invokevirtual index, 3))
    (kk : W p l e R s m args below meth c H locs cells slots Q (F0 m (pc + 3) ls (v.toList ++ rest))) : W p l e R s m args below meth c H locs cells slots Q (F0 m pc ls (As.reverse ++ .ref x :: rest)) := by
  have hgw : ∀ w ∈ j_ws y bytes maxL ret, w ∈ s_gw := by
    intro w hw
    rcases List.mem_cons.mp hw with rfl | h
    · exact hcode
    · exact h
  have hpay : ∀ w ∈ j_ws y bytes maxL ret, ∀ (a' : Array Value) (U : State), s.WarmedH U.vm → w.before a' U = true := fun w hw a' U hW => word_at hW (good_of_word (s_gw_good (hgw w hw)).2) (hts w (hgw w hw))
  have hp : ∀ sig, parseMethodDescriptor y.desc = some sig → na = sig.parameters.length := by
    intro sig hs
    rw [hs] at hpar
    exact (Option.some.inj hpar).symm
  obtain ⟨cell, o1, o2, o3, -⟩ := hSS.1.kept hS.2.1
  refine j_back (a := (Value.ref x :: As).toArray) (va_runV (C := RJ0) (b := x) (As := As) (rest := rest) (n := na) ⟨hx, hb, hml, hown, hts⟩ hM ⟨⟨rfl, rfl, hfr, hlc, hpay, List.mem_cons_self, hts _ hcode, hts _ hini, hmh, hp, hts _ hlink⟩, hts _ hin, hts _ hse⟩ ⟨j_P_blind, ⟨cell, o1, o2, o3⟩, fun U hU hW => ⟨rfl, j_SS_moved hSS hW (fun a h1 h2 => by rw [hU]; exact hS.2.1 a h1 h2)⟩⟩ rfl hn hsz rfl (lv_room hcat) hdg ⟨hc, hs⟩) kk
end JJ
