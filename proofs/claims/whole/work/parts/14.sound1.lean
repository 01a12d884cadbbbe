-- SOUNDNESS of the pure machine, an instruction a case
def s_A (base : Nat) : Nat → Prop := fun q => base ≤ q
def s_tys (cid : Nat → ClassId) : List (ClassId × FieldType) := [(cid 100, .byte), (cid 101, .int), (cid 102, .long), (cid 103, .boolean), (cid 104, .object RX10), (cid 105, .object RX8), (cid 106, .object RX5)]
def s_HR (base : Nat) (ρ : Nat → Nat) (D : va_G) (cid : Nat → ClassId) (xs : Nat → Int32) (Ln : Nat) (h : s_H) (H : Heap) : Prop := va_P D s_cl2 (s_w base ρ cid h) H ∧ (h.2.2.1 = false → h.2.2.2.1 1200 = xs ∧ h.2.2.2.1 1201 0 = Int32.ofNat Ln)
/-- the text constants, and what the JDK's own code reads on the way to their signs -/
def s_SS (base : Nat) (ρ : Nat → Nat) (U : State) : Prop :=
  (∀ i, i < 3 → ∃ t, va_O "java/lang/String" (ρ (1300 + i)) (s_A base) U U.heap ∧ va_OF "java/lang/String" "coder" "B" (.int 0) (ρ (1300 + i)) (s_A base) U U.heap ∧ va_OF "java/lang/String" "value" "[B" (.ref t) (ρ (1300 + i)) (s_A base) U U.heap ∧ va_T .byte t (s_txs.getD i []).length (fun j => .int ((s_txs.getD i []).getD j 0)) (s_A base) U U.heap) ∧
  va_Z "java/lang/String" "COMPACT_STRINGS" "Z" (.int 1) (s_A base) U U.heap ∧ va_Zq "jdk/internal/util/Preconditions" "SIOOBE_FORMATTER" "Ljava/util/function/BiFunction;" (s_A base) U U.heap
def s_SR (base : Nat) (ρ : Nat → Nat) (D : va_G) (cid : Nat → ClassId) (xs : Nat → Int32) (Ln : Nat) (U : State) : Prop :=
  va_K D s_cl2 (s_tys cid) U ∧ (∀ w ∈ s_nws, va_Nw w U) ∧ (va_AO RX10 U ∧ va_AO RX8 U ∧ va_AO RX5 U) ∧
  ((∀ i, i < 29 → va_Z RX10 (s_wn.getD i "") "LCampAshes$Word;" (.ref (ρ (1000 + i))) (s_A base) U U.heap) ∧ va_Z RX10 "ALL" "[LCampAshes$Word;" (.ref (ρ 1100)) (s_A base) U U.heap) ∧
  (∀ i, i < 29 → va_OF RX10 "letters" "J" (.long (s_wl.getD i 0)) (ρ (1000 + i)) (s_A base) U U.heap ∧ va_OF RX10 "kind" "I" (.int (s_wk i)) (ρ (1000 + i)) (s_A base) U U.heap ∧ va_O RX10 (ρ (1000 + i)) (s_A base) U U.heap ∧ va_Any RX10 U U.heap (ρ (1000 + i))) ∧
  va_T (.object RX10) (ρ 1100) 29 (fun j => .ref (ρ (1000 + j))) (s_A base) U U.heap ∧
  (va_X (ρ 1200) Ln xs U U.heap ∧ ¬ s_A base (ρ 1200) ∧ ρ 1200 < U.heap.size ∧ Ln < 2 ^ 31) ∧
  ((∀ (k a : Nat), (k, (.ref a : Value)) ∈ s_cp11.2.2.2.2 → vk_R (s_R 11) k (s_sx.getD (a - 1300) "") (ρ a) U) ∧ s_SS base ρ U) ∧ base ≤ U.heap.size
def s_Cx (p : Program) (s : State) (m : MethodId) (args : Array Value) (meth : Method) (c : Code) (base : Nat) (ρ : Nat → Nat) (D : va_G) (cid : Nat → ClassId) (xs : Nat → Int32) (Ln : Nat) (q : s_M) : Prop :=
  p.tables.exec = Jvm.exec ∧ c.code = q.2.1 ∧ c.maxLocals = q.2.2.1 ∧ s.vm.findClass (s_R q.2.2.2.2.1) = some m.cls ∧ (∀ w ∈ s_gw, w.before args s = true) ∧ (q.2.2.2.2.2.1 = true → meth.name = "<init>") ∧ s_SR base ρ D cid xs Ln s ∧ (∀ a, a < 1000 → ρ a = base + a) ∧ (∀ a b, 1000 ≤ a → a < 1029 → 1000 ≤ b → b < 1029 → ρ a = ρ b → a = b) ∧ s_dec q.2.1 q.2.2.2.2.2.2 ∧ q.2.2.2.2.2.2.all s_ck = true
theorem s_nx_of {pc pc1 : Nat} {L L1 : s_L} {st st1 : List Value} {h h1 : s_H} (e : s_nx pc L st h = some (.inl (pc1, L1, st1, h1))) : pc1 = pc ∧ L1 = L ∧ st1 = st ∧ h1 = h := by
  unfold s_nx at e
  have e2 := Sum.inl.inj (Option.some.inj e)
  have e3 := Prod.mk.inj e2
  have e4 := Prod.mk.inj e3.2
  have e5 := Prod.mk.inj e4.2
  exact ⟨e3.1.symm, e4.1.symm, e5.1.symm, e5.2.symm⟩
theorem s_br_of {c : Prop} [Decidable c] {tg pc pc1 : Nat} {L L1 : s_L} {st st1 : List Value} {h h1 : s_H} (e : s_br c tg pc L st h = some (.inl (pc1, L1, st1, h1))) : ((c ∧ pc1 = tg) ∨ (¬ c ∧ pc1 = pc + 3)) ∧ L1 = L ∧ st1 = st ∧ h1 = h := by
  unfold s_br at e
  by_cases hc : c
  · rw [if_pos hc] at e
    obtain ⟨a, b⟩ := s_nx_of e
    exact ⟨Or.inl ⟨hc, a⟩, b⟩
  · rw [if_neg hc] at e
    obtain ⟨a, b⟩ := s_nx_of e
    exact ⟨Or.inr ⟨hc, a⟩, b⟩
theorem s_i1_of {st : List Value} {k : Int32 → List Value → Option s_O} {y : s_O} (e : s_i1 st k = some y) : ∃ x r, st = .int x :: r ∧ k x r = some y := by
  unfold s_i1 at e
  split at e
  · exact ⟨_, _, rfl, e⟩
  · cases e
theorem s_ii_of {st : List Value} {k : Int32 → Int32 → List Value → Option s_O} {z : s_O} (e : s_ii st k = some z) : ∃ x y r, st = .int y :: .int x :: r ∧ k x y r = some z := by
  unfold s_ii at e
  split at e
  · exact ⟨_, _, _, rfl, e⟩
  · cases e
theorem s_l1_of {st : List Value} {k : Int64 → List Value → Option s_O} {y : s_O} (e : s_l1 st k = some y) : ∃ x r, st = .long x :: r ∧ k x r = some y := by
  unfold s_l1 at e
  split at e
  · exact ⟨_, _, rfl, e⟩
  · cases e
theorem s_ll_of {st : List Value} {k : Int64 → Int64 → List Value → Option s_O} {z : s_O} (e : s_ll st k = some z) : ∃ x y r, st = .long y :: .long x :: r ∧ k x y r = some z := by
  unfold s_ll at e
  split at e
  · exact ⟨_, _, _, rfl, e⟩
  · cases e
theorem s_r1_of {st : List Value} {k : Nat → List Value → Option s_O} {y : s_O} (e : s_r1 st k = some y) : ∃ x r, st = .ref x :: r ∧ k x r = some y := by
  unfold s_r1 at e
  split at e
  · exact ⟨_, _, rfl, e⟩
  · cases e
theorem s_ir_of {st : List Value} {k : Int32 → Nat → List Value → Option s_O} {y : s_O} (e : s_ir st k = some y) : ∃ i a r, st = .int i :: .ref a :: r ∧ k i a r = some y := by
  unfold s_ir at e
  split at e
  · exact ⟨_, _, _, rfl, e⟩
  · cases e
theorem s_c1_cat {v : Value} (h : s_c1 v = true) (ρ : Nat → Nat) : (s_v ρ v).category = 1 := by
  cases v <;> first | rfl | cases h
theorem s_or_of {v : Value} {r : Option Nat} (h : s_or v = some r) (ρ : Nat → Nat) : s_v ρ v = va_rf (r.map ρ) := by
  cases v <;> first | (cases h; rfl) | cases h
theorem s_ow_of {v : Value} {r : Option Nat} (h : s_ow v = some r) : s_or v = some r ∧ ∀ a, r = some a → 1000 ≤ a ∧ a < 1029 := by
  cases v with
  | ref a =>
    unfold s_ow at h
    dsimp only at h
    split at h
    · rename_i hw
      cases h
      exact ⟨rfl, fun b hb => by cases hb; exact hw⟩
    · cases h
  | null =>
    cases h
    exact ⟨rfl, fun b hb => by cases hb⟩
  | _ => cases h
theorem s_w_new {base : Nat} {ρ : Nat → Nat} {cid : Nat → ClassId} {h : s_H} (n : Nat) : s_w base ρ cid (s_new h n) = s_w base ρ cid h ++ [(base + h.1, s_E ρ cid (s_new h n) h.1)] := by
  unfold s_w
  show (List.range (h.1 + 1)).map _ = _
  rw [List.range_succ, List.map_append]
  congr 1
  apply List.map_congr_left
  intro a ha
  have hne : a ≠ h.1 := by
    have := List.mem_range.mp ha
    omega
  congr 1
  exact s_E_congr (s_cl0_n _ _ hne) (s_cl0_n _ _ hne) (s_cl0_n _ _ hne)
section SND
variable {p : Program} {l : Launch} {e : Env} {R : Room} {s : State} {m : MethodId} {args : Array Value} {below : List Frame} {meth : Method} {c : Code} {Q : State → Prop}
variable {base : Nat} {ρ : Nat → Nat} {D : va_G} {cid : Nat → ClassId} {xs : Nat → Int32} {Ln : Nat}
abbrev s_K (p : Program) (l : Launch) (e : Env) (R : Room) (s : State) (m : MethodId) (args : Array Value) (below : List Frame) (meth : Method) (c : Code) (Q : State → Prop) (base : Nat) (ρ : Nat → Nat) (D : va_G) (cid : Nat → ClassId) (xs : Nat → Int32) (Ln : Nat) (q : s_M) (n0 z0 G Gs : Nat) (pc1 : Nat) (L1 : s_L) (st1 : List Value) (h1 : s_H) : Prop :=
  ∀ (H1 : Heap) (locs1 : List Loc) (ls1 : Array Slot), s_HR base ρ D cid xs Ln h1 H1 → va_S (s_A base) s.heap H1 locs1 → lv_has ls1 q.2.2.1 (s_as ρ 0 L1) → L1.length = q.2.2.1 → W p l e R s m args below meth c H1 locs1 (h1.1 - n0 + G) (h1.2.1 - z0 + Gs) Q (F0 m pc1 ls1 (st1.map (s_v ρ)))
theorem s_ild_of {L L1 : s_L} {i pc pc1 : Nat} {st st1 : List Value} {h h1 : s_H} (e : s_ild L i pc st h = some (.inl (pc1, L1, st1, h1))) : ∃ x, L[i]? = some (some (.int x)) ∧ pc1 = pc ∧ L1 = L ∧ st1 = .int x :: st ∧ h1 = h := by
  unfold s_ild at e
  split at e
  · rename_i x hx
    exact ⟨x, hx, s_nx_of e⟩
  · cases e
theorem s_lld_of {L L1 : s_L} {i pc pc1 : Nat} {st st1 : List Value} {h h1 : s_H} (e : s_lld L i pc st h = some (.inl (pc1, L1, st1, h1))) : ∃ x, L[i]? = some (some (.long x)) ∧ pc1 = pc ∧ L1 = L ∧ st1 = .long x :: st ∧ h1 = h := by
  unfold s_lld at e
  split at e
  · rename_i x hx
    exact ⟨x, hx, s_nx_of e⟩
  · cases e
theorem s_ald_of {L L1 : s_L} {i pc pc1 : Nat} {st st1 : List Value} {h h1 : s_H} (e : s_ald L i pc st h = some (.inl (pc1, L1, st1, h1))) : ∃ v, L[i]? = some (some v) ∧ (v = .null ∨ ∃ x, v = .ref x) ∧ pc1 = pc ∧ L1 = L ∧ st1 = v :: st ∧ h1 = h := by
  unfold s_ald at e
  split at e
  · rename_i x hx
    exact ⟨_, hx, Or.inr ⟨x, rfl⟩, s_nx_of e⟩
  · rename_i hx
    exact ⟨_, hx, Or.inl rfl, s_nx_of e⟩
  · cases e
theorem s_blt {a b : Nat} (h : Nat.blt a b = true) : a < b := Nat.lt_of_succ_le (by simpa [Nat.blt] using h)
theorem s_ist_of {L L1 : s_L} {i pc pc1 : Nat} {st st1 : List Value} {h h1 : s_H} (e : s_ist L i pc st h = some (.inl (pc1, L1, st1, h1))) : ∃ x r, i < L.length ∧ st = .int x :: r ∧ pc1 = pc ∧ L1 = s_s1 L i (.int x) ∧ st1 = r ∧ h1 = h := by
  unfold s_ist at e
  split at e
  · rename_i hb
    obtain ⟨x, r, rfl, e⟩ := s_i1_of e
    exact ⟨x, r, s_blt hb, rfl, s_nx_of e⟩
  · cases e
theorem s_lst_of {L L1 : s_L} {i pc pc1 : Nat} {st st1 : List Value} {h h1 : s_H} (e : s_lst L i pc st h = some (.inl (pc1, L1, st1, h1))) : ∃ x r, i + 1 < L.length ∧ st = .long x :: r ∧ pc1 = pc ∧ L1 = s_s2 L i (.long x) ∧ st1 = r ∧ h1 = h := by
  unfold s_lst at e
  split at e
  · rename_i hb
    obtain ⟨x, r, rfl, e⟩ := s_l1_of e
    exact ⟨x, r, s_blt hb, rfl, s_nx_of e⟩
  · cases e
theorem s_ast_of {L L1 : s_L} {i pc pc1 : Nat} {st st1 : List Value} {h h1 : s_H} (e : s_ast L i pc st h = some (.inl (pc1, L1, st1, h1))) : ∃ v r, i < L.length ∧ (v = .null ∨ ∃ x, v = .ref x) ∧ st = v :: r ∧ pc1 = pc ∧ L1 = s_s1 L i v ∧ st1 = r ∧ h1 = h := by
  unfold s_ast at e
  split at e
  · rename_i hb
    split at e
    · exact ⟨_, _, s_blt hb, Or.inr ⟨_, rfl⟩, rfl, s_nx_of e⟩
    · exact ⟨_, _, s_blt hb, Or.inl rfl, rfl, s_nx_of e⟩
    · cases e
  · cases e
def s_hd (i : Instr) : Bool := match i with
  | .aconst_null => true
  | .iconst _ => true
  | .bipush _ => true
  | .sipush _ => true
  | .lconst _ => true
  | .iload_n _ => true
  | .iload _ => true
  | .lload_n _ => true
  | .lload _ => true
  | .aload_n _ => true
  | .aload _ => true
  | .istore_n _ => true
  | .istore _ => true
  | .lstore_n _ => true
  | .lstore _ => true
  | .astore_n _ => true
  | .astore _ => true
  | .iinc _ _ => true
  | .iadd => true
  | .isub => true
  | .imul => true
  | .iand => true
  | .ior => true
  | .ixor => true
  | .ishl => true
  | .ishr => true
  | .idiv => true
  | .irem => true
  | .ineg => true
  | .iushr => true
  | .ladd => true
  | .lsub => true
  | .lmul => true
  | .land => true
  | .ldiv => true
  | .lrem => true
  | .lshr => true
  | .lcmp => true
  | .i2l => true
  | .l2i => true
  | .i2b => true
  | .dup => true
  | .dup2 => true
  | .pop => true
  | .ifCond _ _ => true
  | .if_icmp _ _ => true
  | .if_acmp _ _ => true
  | .ifnull _ => true
  | .ifnonnull _ => true
  | .goto _ => true
  | _ => false
set_option maxHeartbeats 4000000 in
/-- loads, stores, numbers, branches: whatever touches no cell -/
theorem s_step1 {cp0 : s_C} {q : s_M} {n0 z0 G Gs pc pc1 len tg : Nat} {L L1 : s_L} {st st1 : List Value} {h h1 : s_H} {H : Heap} {locs : List Loc} {ls : Array Slot}
    (cx : s_Cx p s m args meth c base ρ D cid xs Ln q) (hH : s_HR base ρ D cid xs Ln h H) (hS : va_S (s_A base) s.heap H locs) (hl : lv_has ls q.2.2.1 (s_as ρ 0 L)) (hL : L.length = q.2.2.1) {i : Instr} (hex : s_ex cp0 q.2.2.2.2.1 q.2.2.2.2.2.1 q.2.2.2.1 pc i tg L st h = some (.inl (pc1, L1, st1, h1))) (hlk : s_lk i len = true) (htk : s_tk pc i tg = true) (hdg : decode q.2.1 pc = .ok (i, len))
    (kk : s_K p l e R s m args below meth c Q base ρ D cid xs Ln q n0 z0 G Gs pc1 L1 st1 h1)
    (rest : s_hd i = false → W p l e R s m args below meth c H locs (h.1 - n0 + G) (h.2.1 - z0 + Gs) Q (F0 m pc ls (st.map (s_v ρ)))) : W p l e R s m args below meth c H locs (h.1 - n0 + G) (h.2.1 - z0 + Gs) Q (F0 m pc ls (st.map (s_v ρ))) := by
  obtain ⟨hx, hb, hml, hown, hts, hin, hSR, hρ, hinj, hdc, hck⟩ := cx
  cases i with
  | aconst_null =>
    obtain rfl : 1 = len := Nat.eq_of_beq_eq_true hlk
    obtain ⟨rfl, rfl, rfl, rfl⟩ := s_nx_of hex
    exact lv_null hx hb hdg (kk H locs ls hH hS hl hL)
  | iconst n =>
    obtain rfl : 1 = len := Nat.eq_of_beq_eq_true hlk
    obtain ⟨rfl, rfl, rfl, rfl⟩ := s_nx_of hex
    exact lv_iconst hx hb hdg rfl (kk H locs ls hH hS hl hL)
  | bipush n =>
    obtain rfl : 2 = len := Nat.eq_of_beq_eq_true hlk
    obtain ⟨rfl, rfl, rfl, rfl⟩ := s_nx_of hex
    exact lv_bipush hx hb hdg rfl (kk H locs ls hH hS hl hL)
  | sipush n =>
    obtain rfl : 3 = len := Nat.eq_of_beq_eq_true hlk
    obtain ⟨rfl, rfl, rfl, rfl⟩ := s_nx_of hex
    exact lv_sipush hx hb hdg rfl (kk H locs ls hH hS hl hL)
  | lconst n =>
    obtain rfl : 1 = len := Nat.eq_of_beq_eq_true hlk
    obtain ⟨rfl, rfl, rfl, rfl⟩ := s_nx_of hex
    exact lv_lconst hx hb hdg rfl (kk H locs ls hH hS hl hL)
  | iload_n k =>
    obtain rfl : 1 = len := Nat.eq_of_beq_eq_true hlk
    obtain ⟨x, hx1, rfl, rfl, rfl, rfl⟩ := s_ild_of hex
    exact lv_iload_n hx hb hdg rfl (s_lat hl hx1) (kk H locs ls hH hS hl hL)
  | iload k =>
    obtain rfl : 2 = len := Nat.eq_of_beq_eq_true hlk
    obtain ⟨x, hx1, rfl, rfl, rfl, rfl⟩ := s_ild_of hex
    exact lv_iload hx hb hdg (s_lat hl hx1) (kk H locs ls hH hS hl hL)
  | lload_n k =>
    obtain rfl : 1 = len := Nat.eq_of_beq_eq_true hlk
    obtain ⟨x, hx1, rfl, rfl, rfl, rfl⟩ := s_lld_of hex
    exact lv_lload_n hx hb hdg rfl (s_lat hl hx1) (kk H locs ls hH hS hl hL)
  | lload k =>
    obtain rfl : 2 = len := Nat.eq_of_beq_eq_true hlk
    obtain ⟨x, hx1, rfl, rfl, rfl, rfl⟩ := s_lld_of hex
    exact lv_lload hx hb hdg (s_lat hl hx1) (kk H locs ls hH hS hl hL)
  | aload_n k =>
    obtain rfl : 1 = len := Nat.eq_of_beq_eq_true hlk
    obtain ⟨v, hx1, hv, rfl, rfl, rfl, rfl⟩ := s_ald_of hex
    rcases hv with rfl | ⟨x, rfl⟩
    · exact lv_aload_nN hx hb hdg rfl (s_lat hl hx1) (kk H locs ls hH hS hl hL)
    · exact lv_aload_n hx hb hdg rfl (s_lat hl hx1) (kk H locs ls hH hS hl hL)
  | aload k =>
    obtain rfl : 2 = len := Nat.eq_of_beq_eq_true hlk
    obtain ⟨v, hx1, hv, rfl, rfl, rfl, rfl⟩ := s_ald_of hex
    rcases hv with rfl | ⟨x, rfl⟩
    · exact lv_aloadN hx hb hdg (s_lat hl hx1) (kk H locs ls hH hS hl hL)
    · exact lv_aload hx hb hdg (s_lat hl hx1) (kk H locs ls hH hS hl hL)
  | istore_n k =>
    obtain rfl : 1 = len := Nat.eq_of_beq_eq_true hlk
    obtain ⟨x, r, hi, rfl, rfl, rfl, rfl, rfl⟩ := s_ist_of hex
    exact lv_istore_n hx hb hdg rfl hl (by rw [← hL]; exact hi) rfl (fun ls1 hl1 => kk H locs ls1 hH hS (s_st1 (v := .int x) hl1) (by rw [s_s1_len]; exact hL))
  | istore k =>
    obtain rfl : 2 = len := Nat.eq_of_beq_eq_true hlk
    obtain ⟨x, r, hi, rfl, rfl, rfl, rfl, rfl⟩ := s_ist_of hex
    exact lv_istore hx hb hdg hl (by rw [← hL]; exact hi) rfl (fun ls1 hl1 => kk H locs ls1 hH hS (s_st1 (v := .int x) hl1) (by rw [s_s1_len]; exact hL))
  | lstore_n k =>
    obtain rfl : 1 = len := Nat.eq_of_beq_eq_true hlk
    obtain ⟨x, r, hi, rfl, rfl, rfl, rfl, rfl⟩ := s_lst_of hex
    exact lv_lstore_n hx hb hdg rfl hl (by rw [← hL]; exact hi) rfl (fun ls1 hl1 => kk H locs ls1 hH hS (s_st2 (v := .long x) hl1) (by rw [s_s2_len]; exact hL))
  | lstore k =>
    obtain rfl : 2 = len := Nat.eq_of_beq_eq_true hlk
    obtain ⟨x, r, hi, rfl, rfl, rfl, rfl, rfl⟩ := s_lst_of hex
    exact lv_lstore hx hb hdg hl (by rw [← hL]; exact hi) rfl (fun ls1 hl1 => kk H locs ls1 hH hS (s_st2 (v := .long x) hl1) (by rw [s_s2_len]; exact hL))
  | astore_n k =>
    obtain rfl : 1 = len := Nat.eq_of_beq_eq_true hlk
    obtain ⟨v, r, hi, hv, rfl, rfl, rfl, rfl, rfl⟩ := s_ast_of hex
    rcases hv with rfl | ⟨x, rfl⟩
    · exact lv_astore_nN hx hb hdg rfl hl (by rw [← hL]; exact hi) rfl (fun ls1 hl1 => kk H locs ls1 hH hS (s_st1 (v := .null) hl1) (by rw [s_s1_len]; exact hL))
    · exact lv_astore_n hx hb hdg rfl hl (by rw [← hL]; exact hi) rfl (fun ls1 hl1 => kk H locs ls1 hH hS (s_st1 (v := .ref x) hl1) (by rw [s_s1_len]; exact hL))
  | astore k =>
    obtain rfl : 2 = len := Nat.eq_of_beq_eq_true hlk
    obtain ⟨v, r, hi, hv, rfl, rfl, rfl, rfl, rfl⟩ := s_ast_of hex
    rcases hv with rfl | ⟨x, rfl⟩
    · exact lv_astoreN hx hb hdg hl (by rw [← hL]; exact hi) rfl (fun ls1 hl1 => kk H locs ls1 hH hS (s_st1 (v := .null) hl1) (by rw [s_s1_len]; exact hL))
    · exact lv_astore hx hb hdg hl (by rw [← hL]; exact hi) rfl (fun ls1 hl1 => kk H locs ls1 hH hS (s_st1 (v := .ref x) hl1) (by rw [s_s1_len]; exact hL))
  | iinc k n =>
    obtain rfl : 3 = len := Nat.eq_of_beq_eq_true hlk
    unfold s_ex at hex
    dsimp only at hex
    split at hex
    · rename_i x hx1
      obtain ⟨rfl, rfl, rfl, rfl⟩ := s_nx_of hex
      have hm := s_as_mem (ρ := ρ) L 0 k (.int x) hx1
      rw [Nat.zero_add] at hm
      obtain ⟨j, hj⟩ := List.getElem?_of_mem hm
      have hk : k < L.length := (List.getElem?_eq_some_iff.mp hx1).1
      exact lv_iinc hx hb hdg hl (k := j) hj rfl (by rw [← hL]; exact hk) rfl (fun ls1 hl1 => kk H locs ls1 hH hS (s_st1 (v := .int (x + Int32.ofInt n)) hl1) (by rw [s_s1_len]; exact hL))
    · cases hex
  | iadd =>
    obtain rfl : 1 = len := Nat.eq_of_beq_eq_true hlk
    obtain ⟨x, y, r, rfl, hex⟩ := s_ii_of hex
    obtain ⟨rfl, rfl, rfl, rfl⟩ := s_nx_of hex
    exact lv_iadd hx hb hdg (kk H locs ls hH hS hl hL)
  | isub =>
    obtain rfl : 1 = len := Nat.eq_of_beq_eq_true hlk
    obtain ⟨x, y, r, rfl, hex⟩ := s_ii_of hex
    obtain ⟨rfl, rfl, rfl, rfl⟩ := s_nx_of hex
    exact lv_isub hx hb hdg (kk H locs ls hH hS hl hL)
  | imul =>
    obtain rfl : 1 = len := Nat.eq_of_beq_eq_true hlk
    obtain ⟨x, y, r, rfl, hex⟩ := s_ii_of hex
    obtain ⟨rfl, rfl, rfl, rfl⟩ := s_nx_of hex
    exact lv_imul hx hb hdg (kk H locs ls hH hS hl hL)
  | iand =>
    obtain rfl : 1 = len := Nat.eq_of_beq_eq_true hlk
    obtain ⟨x, y, r, rfl, hex⟩ := s_ii_of hex
    obtain ⟨rfl, rfl, rfl, rfl⟩ := s_nx_of hex
    exact lv_iand hx hb hdg (kk H locs ls hH hS hl hL)
  | ior =>
    obtain rfl : 1 = len := Nat.eq_of_beq_eq_true hlk
    obtain ⟨x, y, r, rfl, hex⟩ := s_ii_of hex
    obtain ⟨rfl, rfl, rfl, rfl⟩ := s_nx_of hex
    exact lv_ior hx hb hdg (kk H locs ls hH hS hl hL)
  | ixor =>
    obtain rfl : 1 = len := Nat.eq_of_beq_eq_true hlk
    obtain ⟨x, y, r, rfl, hex⟩ := s_ii_of hex
    obtain ⟨rfl, rfl, rfl, rfl⟩ := s_nx_of hex
    exact lv_ixor hx hb hdg (kk H locs ls hH hS hl hL)
  | ishl =>
    obtain rfl : 1 = len := Nat.eq_of_beq_eq_true hlk
    obtain ⟨x, y, r, rfl, hex⟩ := s_ii_of hex
    obtain ⟨rfl, rfl, rfl, rfl⟩ := s_nx_of hex
    exact lv_ishl hx hb hdg (kk H locs ls hH hS hl hL)
  | ishr =>
    obtain rfl : 1 = len := Nat.eq_of_beq_eq_true hlk
    obtain ⟨x, y, r, rfl, hex⟩ := s_ii_of hex
    obtain ⟨rfl, rfl, rfl, rfl⟩ := s_nx_of hex
    exact lv_ishr hx hb hdg (kk H locs ls hH hS hl hL)
  | idiv =>
    obtain rfl : 1 = len := Nat.eq_of_beq_eq_true hlk
    obtain ⟨x, y, r, rfl, hex2⟩ := s_ii_of hex
    split at hex2
    · cases hex2
    · rename_i hne
      obtain ⟨rfl, rfl, rfl, rfl⟩ := s_nx_of hex2
      exact lv_idiv hx hb hdg hne (kk H locs ls hH hS hl hL)
  | irem =>
    obtain rfl : 1 = len := Nat.eq_of_beq_eq_true hlk
    obtain ⟨x, y, r, rfl, hex2⟩ := s_ii_of hex
    split at hex2
    · cases hex2
    · rename_i hne
      obtain ⟨rfl, rfl, rfl, rfl⟩ := s_nx_of hex2
      exact lv_irem hx hb hdg hne (kk H locs ls hH hS hl hL)
  | ineg =>
    obtain rfl : 1 = len := Nat.eq_of_beq_eq_true hlk
    obtain ⟨x, r, rfl, hex⟩ := s_i1_of hex
    obtain ⟨rfl, rfl, rfl, rfl⟩ := s_nx_of hex
    exact lv_ineg hx hb hdg (kk H locs ls hH hS hl hL)
  | iushr =>
    obtain rfl : 1 = len := Nat.eq_of_beq_eq_true hlk
    obtain ⟨x, y, r, rfl, hex⟩ := s_ii_of hex
    obtain ⟨rfl, rfl, rfl, rfl⟩ := s_nx_of hex
    exact lv_iushr hx hb hdg rfl (kk H locs ls hH hS hl hL)
  | ladd =>
    obtain rfl : 1 = len := Nat.eq_of_beq_eq_true hlk
    obtain ⟨x, y, r, rfl, hex⟩ := s_ll_of hex
    obtain ⟨rfl, rfl, rfl, rfl⟩ := s_nx_of hex
    exact lv_ladd hx hb hdg (kk H locs ls hH hS hl hL)
  | lsub =>
    obtain rfl : 1 = len := Nat.eq_of_beq_eq_true hlk
    obtain ⟨x, y, r, rfl, hex⟩ := s_ll_of hex
    obtain ⟨rfl, rfl, rfl, rfl⟩ := s_nx_of hex
    exact lv_lsub hx hb hdg (kk H locs ls hH hS hl hL)
  | lmul =>
    obtain rfl : 1 = len := Nat.eq_of_beq_eq_true hlk
    obtain ⟨x, y, r, rfl, hex⟩ := s_ll_of hex
    obtain ⟨rfl, rfl, rfl, rfl⟩ := s_nx_of hex
    exact lv_lmul hx hb hdg (kk H locs ls hH hS hl hL)
  | land =>
    obtain rfl : 1 = len := Nat.eq_of_beq_eq_true hlk
    obtain ⟨x, y, r, rfl, hex⟩ := s_ll_of hex
    obtain ⟨rfl, rfl, rfl, rfl⟩ := s_nx_of hex
    exact lv_land hx hb hdg (kk H locs ls hH hS hl hL)
  | ldiv =>
    obtain rfl : 1 = len := Nat.eq_of_beq_eq_true hlk
    obtain ⟨x, y, r, rfl, hex2⟩ := s_ll_of hex
    split at hex2
    · cases hex2
    · rename_i hne
      obtain ⟨rfl, rfl, rfl, rfl⟩ := s_nx_of hex2
      exact lv_ldiv hx hb hdg hne (kk H locs ls hH hS hl hL)
  | lrem =>
    obtain rfl : 1 = len := Nat.eq_of_beq_eq_true hlk
    obtain ⟨x, y, r, rfl, hex2⟩ := s_ll_of hex
    split at hex2
    · cases hex2
    · rename_i hne
      obtain ⟨rfl, rfl, rfl, rfl⟩ := s_nx_of hex2
      exact lv_lrem hx hb hdg hne (kk H locs ls hH hS hl hL)
  | lshr =>
    obtain rfl : 1 = len := Nat.eq_of_beq_eq_true hlk
    obtain ⟨y, r1, rfl, hex⟩ := s_i1_of hex
    obtain ⟨x, r, rfl, hex⟩ := s_l1_of hex
    obtain ⟨rfl, rfl, rfl, rfl⟩ := s_nx_of hex
    exact lv_lshr hx hb hdg rfl (kk H locs ls hH hS hl hL)
  | lcmp =>
    obtain rfl : 1 = len := Nat.eq_of_beq_eq_true hlk
    obtain ⟨x, y, r, rfl, hex⟩ := s_ll_of hex
    obtain ⟨rfl, rfl, rfl, rfl⟩ := s_nx_of hex
    exact W.lcmp hx hb hdg (kk H locs ls hH hS hl hL)
  | i2l =>
    obtain rfl : 1 = len := Nat.eq_of_beq_eq_true hlk
    obtain ⟨x, r, rfl, hex⟩ := s_i1_of hex
    obtain ⟨rfl, rfl, rfl, rfl⟩ := s_nx_of hex
    exact lv_i2l hx hb hdg rfl (kk H locs ls hH hS hl hL)
  | l2i =>
    obtain rfl : 1 = len := Nat.eq_of_beq_eq_true hlk
    obtain ⟨x, r, rfl, hex⟩ := s_l1_of hex
    obtain ⟨rfl, rfl, rfl, rfl⟩ := s_nx_of hex
    exact lv_l2i hx hb hdg rfl (kk H locs ls hH hS hl hL)
  | i2b =>
    obtain rfl : 1 = len := Nat.eq_of_beq_eq_true hlk
    obtain ⟨x, r, rfl, hex⟩ := s_i1_of hex
    obtain ⟨rfl, rfl, rfl, rfl⟩ := s_nx_of hex
    exact lv_i2b hx hb hdg rfl (kk H locs ls hH hS hl hL)
  | dup =>
    obtain rfl : 1 = len := Nat.eq_of_beq_eq_true hlk
    unfold s_ex at hex
    dsimp only at hex
    split at hex
    · split at hex
      · rename_i hc
        obtain ⟨rfl, rfl, rfl, rfl⟩ := s_nx_of hex
        exact lv_dup hx hb hdg (s_c1_cat hc ρ) (kk H locs ls hH hS hl hL)
      · cases hex
    · cases hex
  | dup2 =>
    obtain rfl : 1 = len := Nat.eq_of_beq_eq_true hlk
    unfold s_ex at hex
    dsimp only at hex
    split at hex
    · split at hex
      · rename_i hc
        rw [Bool.and_eq_true] at hc
        obtain ⟨rfl, rfl, rfl, rfl⟩ := s_nx_of hex
        exact lv_dup2_11 hx hb hdg (s_c1_cat hc.1 ρ) (s_c1_cat hc.2 ρ) (kk H locs ls hH hS hl hL)
      · cases hex
    · cases hex
  | pop =>
    obtain rfl : 1 = len := Nat.eq_of_beq_eq_true hlk
    unfold s_ex at hex
    dsimp only at hex
    split at hex
    · split at hex
      · rename_i hc
        obtain ⟨rfl, rfl, rfl, rfl⟩ := s_nx_of hex
        exact lv_pop hx hb hdg (s_c1_cat hc ρ) (kk H locs ls hH hS hl hL)
      · cases hex
    · cases hex
  | ifCond o1 o2 =>
    obtain rfl : 3 = len := Nat.eq_of_beq_eq_true hlk
    have ht : (pc : Int) + o2 = (tg : Int) := of_decide_eq_true htk
    obtain ⟨x, r, rfl, hex⟩ := s_i1_of hex
    cases o1 with
    | eq =>
      obtain ⟨hc, rfl, rfl, rfl⟩ := s_br_of hex
      rcases hc with ⟨hc, rfl⟩ | ⟨hc, rfl⟩
      · exact lv_if_eq hx hb hdg ht (fun _ => kk H locs ls hH hS hl hL) (fun hn => absurd hc hn)
      · exact lv_if_eq hx hb hdg ht (fun hn => absurd hn hc) (fun _ => kk H locs ls hH hS hl hL)
    | ne =>
      obtain ⟨hc, rfl, rfl, rfl⟩ := s_br_of hex
      rcases hc with ⟨hc, rfl⟩ | ⟨hc, rfl⟩
      · exact lv_if_ne hx hb hdg ht (fun _ => kk H locs ls hH hS hl hL) (fun hn => absurd hc (fun q => q hn))
      · exact lv_if_ne hx hb hdg ht (fun hn => absurd hn hc) (fun _ => kk H locs ls hH hS hl hL)
    | lt =>
      obtain ⟨hc, rfl, rfl, rfl⟩ := s_br_of hex
      rcases hc with ⟨hc, rfl⟩ | ⟨hc, rfl⟩
      · exact lv_if_lt hx hb hdg ht (fun _ => kk H locs ls hH hS hl hL) (fun hn => absurd hc hn)
      · exact lv_if_lt hx hb hdg ht (fun hn => absurd hn hc) (fun _ => kk H locs ls hH hS hl hL)
    | ge =>
      obtain ⟨hc, rfl, rfl, rfl⟩ := s_br_of hex
      rcases hc with ⟨hc, rfl⟩ | ⟨hc, rfl⟩
      · exact lv_if_ge hx hb hdg ht (fun _ => kk H locs ls hH hS hl hL) (fun hn => absurd hc hn)
      · exact lv_if_ge hx hb hdg ht (fun hn => absurd hn hc) (fun _ => kk H locs ls hH hS hl hL)
    | gt =>
      obtain ⟨hc, rfl, rfl, rfl⟩ := s_br_of hex
      rcases hc with ⟨hc, rfl⟩ | ⟨hc, rfl⟩
      · exact lv_if_gt hx hb hdg ht (fun _ => kk H locs ls hH hS hl hL) (fun hn => absurd hc hn)
      · exact lv_if_gt hx hb hdg ht (fun hn => absurd hn hc) (fun _ => kk H locs ls hH hS hl hL)
    | le =>
      obtain ⟨hc, rfl, rfl, rfl⟩ := s_br_of hex
      rcases hc with ⟨hc, rfl⟩ | ⟨hc, rfl⟩
      · exact lv_if_le hx hb hdg ht (fun _ => kk H locs ls hH hS hl hL) (fun hn => absurd hc hn)
      · exact lv_if_le hx hb hdg ht (fun hn => absurd hn hc) (fun _ => kk H locs ls hH hS hl hL)
  | if_icmp o1 o2 =>
    obtain rfl : 3 = len := Nat.eq_of_beq_eq_true hlk
    have ht : (pc : Int) + o2 = (tg : Int) := of_decide_eq_true htk
    obtain ⟨x, y, r, rfl, hex⟩ := s_ii_of hex
    cases o1 with
    | eq =>
      obtain ⟨hc, rfl, rfl, rfl⟩ := s_br_of hex
      rcases hc with ⟨hc, rfl⟩ | ⟨hc, rfl⟩
      · exact lv_icmp_eq hx hb hdg ht (fun _ => kk H locs ls hH hS hl hL) (fun hn => absurd hc hn)
      · exact lv_icmp_eq hx hb hdg ht (fun hn => absurd hn hc) (fun _ => kk H locs ls hH hS hl hL)
    | ne =>
      obtain ⟨hc, rfl, rfl, rfl⟩ := s_br_of hex
      rcases hc with ⟨hc, rfl⟩ | ⟨hc, rfl⟩
      · exact lv_icmp_ne hx hb hdg ht (fun _ => kk H locs ls hH hS hl hL) (fun hn => absurd hc (fun q => q hn))
      · exact lv_icmp_ne hx hb hdg ht (fun hn => absurd hn hc) (fun _ => kk H locs ls hH hS hl hL)
    | lt =>
      obtain ⟨hc, rfl, rfl, rfl⟩ := s_br_of hex
      rcases hc with ⟨hc, rfl⟩ | ⟨hc, rfl⟩
      · exact lv_icmp_lt hx hb hdg ht (fun _ => kk H locs ls hH hS hl hL) (fun hn => absurd hc hn)
      · exact lv_icmp_lt hx hb hdg ht (fun hn => absurd hn hc) (fun _ => kk H locs ls hH hS hl hL)
    | ge =>
      obtain ⟨hc, rfl, rfl, rfl⟩ := s_br_of hex
      rcases hc with ⟨hc, rfl⟩ | ⟨hc, rfl⟩
      · exact lv_icmp_ge hx hb hdg ht (fun _ => kk H locs ls hH hS hl hL) (fun hn => absurd hc hn)
      · exact lv_icmp_ge hx hb hdg ht (fun hn => absurd hn hc) (fun _ => kk H locs ls hH hS hl hL)
    | gt =>
      obtain ⟨hc, rfl, rfl, rfl⟩ := s_br_of hex
      rcases hc with ⟨hc, rfl⟩ | ⟨hc, rfl⟩
      · exact lv_icmp_gt hx hb hdg ht (fun _ => kk H locs ls hH hS hl hL) (fun hn => absurd hc hn)
      · exact lv_icmp_gt hx hb hdg ht (fun hn => absurd hn hc) (fun _ => kk H locs ls hH hS hl hL)
    | le =>
      obtain ⟨hc, rfl, rfl, rfl⟩ := s_br_of hex
      rcases hc with ⟨hc, rfl⟩ | ⟨hc, rfl⟩
      · exact lv_icmp_le hx hb hdg ht (fun _ => kk H locs ls hH hS hl hL) (fun hn => absurd hc hn)
      · exact lv_icmp_le hx hb hdg ht (fun hn => absurd hn hc) (fun _ => kk H locs ls hH hS hl hL)
  | if_acmp o1 o2 =>
    obtain rfl : 3 = len := Nat.eq_of_beq_eq_true hlk
    have ht : (pc : Int) + o2 = (tg : Int) := of_decide_eq_true htk
    cases st with
    | nil => cases hex
    | cons v st2 =>
      cases st2 with
      | nil => cases hex
      | cons w r =>
        cases hv0 : s_ow v with
        | none => simp only [s_ex, hv0] at hex; cases hex
        | some ry =>
          cases hw0 : s_ow w with
          | none => simp only [s_ex, hv0, hw0] at hex; cases hex
          | some rx =>
            simp only [s_ex, hv0, hw0] at hex
            obtain ⟨hv, hv2⟩ := s_ow_of hv0
            obtain ⟨hw, hw2⟩ := s_ow_of hw0
            have e1 : (v :: w :: r).map (s_v ρ) = va_rf (ry.map ρ) :: va_rf (rx.map ρ) :: r.map (s_v ρ) := by
              rw [List.map_cons, List.map_cons, s_or_of hv ρ, s_or_of hw ρ]
            rw [e1]
            have inj : rx.map ρ = ry.map ρ → rx = ry := by
              cases rx with
              | none => cases ry with
                | none => intro _; rfl
                | some b => intro q; cases q
              | some a => cases ry with
                | none => intro q; cases q
                | some b => intro q; exact congrArg some (hinj a b (hw2 a rfl).1 (hw2 a rfl).2 (hv2 b rfl).1 (hv2 b rfl).2 (Option.some.inj q))
            cases o1 with
            | eq =>
              obtain ⟨hc, rfl, rfl, rfl⟩ := s_br_of hex
              rcases hc with ⟨hc, rfl⟩ | ⟨hc, rfl⟩
              · exact lv_acmp_eq hx hb hdg ht (fun _ => kk H locs ls hH hS hl hL) (fun hn => absurd (by rw [hc]) hn)
              · exact lv_acmp_eq hx hb hdg ht (fun hn => absurd (inj hn) hc) (fun _ => kk H locs ls hH hS hl hL)
            | ne =>
              obtain ⟨hc, rfl, rfl, rfl⟩ := s_br_of hex
              rcases hc with ⟨hc, rfl⟩ | ⟨hc, rfl⟩
              · exact lv_acmp_ne hx hb hdg ht (fun _ => kk H locs ls hH hS hl hL) (fun hn => absurd (inj hn) hc)
              · exact lv_acmp_ne hx hb hdg ht (fun hn => absurd (by rw [Decidable.not_not.mp hc]) hn) (fun _ => kk H locs ls hH hS hl hL)
  | ifnull o2 =>
    obtain rfl : 3 = len := Nat.eq_of_beq_eq_true hlk
    have ht : (pc : Int) + o2 = (tg : Int) := of_decide_eq_true htk
    unfold s_ex at hex
    dsimp only at hex
    split at hex
    · obtain ⟨rfl, rfl, rfl, rfl⟩ := s_nx_of hex
      exact lv_ifnull hx hb hdg (kk H locs ls hH hS hl hL)
    · obtain ⟨rfl, rfl, rfl, rfl⟩ := s_nx_of hex
      exact lv_ifnullN hx hb hdg ht (kk H locs ls hH hS hl hL)
    · cases hex
  | ifnonnull o2 =>
    obtain rfl : 3 = len := Nat.eq_of_beq_eq_true hlk
    have ht : (pc : Int) + o2 = (tg : Int) := of_decide_eq_true htk
    unfold s_ex at hex
    dsimp only at hex
    split at hex
    · obtain ⟨rfl, rfl, rfl, rfl⟩ := s_nx_of hex
      exact lv_ifnonnull hx hb hdg ht (kk H locs ls hH hS hl hL)
    · obtain ⟨rfl, rfl, rfl, rfl⟩ := s_nx_of hex
      exact lv_ifnonnullN hx hb hdg (kk H locs ls hH hS hl hL)
    · cases hex
  | goto o2 =>
    obtain rfl : 3 = len := Nat.eq_of_beq_eq_true hlk
    have ht : (pc : Int) + o2 = (tg : Int) := of_decide_eq_true htk
    obtain ⟨rfl, rfl, rfl, rfl⟩ := s_nx_of hex
    exact lv_goto hx hb hdg ht (kk H locs ls hH hS hl hL)
  | _ => exact rest rfl
end SND
