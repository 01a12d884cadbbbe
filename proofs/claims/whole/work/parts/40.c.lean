-- BOY in the machine: the class's throw, the law's catch
def b_E : String := "java/util/NoSuchElementException"
def b_iS (C : String) : MethodName := ⟨C, "<init>", "(Ljava/lang/String;)V"⟩
def b_at : List Cond := b_ownS RX11 134 "java/util/NoSuchElementException" "java/lang/RuntimeException" 13 prog_31_method_4_code ["java/lang/Exception"]
theorem b_fb13 : b_fb prog_31_method_4_code 13 := ⟨by decide +kernel, by decide +kernel, by decide +kernel, by decide +kernel⟩
def b_bad : List Cond := [.castable "java/util/NoSuchElementException" "java/util/NoSuchElementException", .declares (b_iS "java/lang/RuntimeException"), .declares (b_iS "java/lang/Exception"), .declares (b_iS "java/lang/Throwable")]
theorem b_at_g : ∀ w ∈ b_at.filter goodWord, w ∈ lw_tbl := by decide +kernel
theorem b_at_b : ∀ w ∈ b_at.filter (fun w => !goodWord w), w ∈ b_bad := by decide +kernel
theorem b_at_o : ∀ w ∈ Cond.classLink RX11 130 "java/util/NoSuchElementException" :: Cond.initialized "java/util/NoSuchElementException" :: b_at, vx_ot w = true := by decide +kernel
theorem b_st {l : Launch} (h : l.flags = flags0) : l.stackTraces = false := by
  unfold Launch.stackTraces
  rw [h]
  decide
/-- what a throw of the class's reads besides -/
def b_X (A : Nat → Prop) (sa sb : Nat) (U : State) : Prop := (vk_R RX11 132 "no such boy" sa U ∧ vk_R RX11 157 "no such what" sb U) ∧ (vx_Zq Bundle.tN "UNASSIGNED_STACK" Bundle.steD A U U.heap ∧ vx_Zq Bundle.tN "SUPPRESSED_SENTINEL" Bundle.listD A U U.heap) ∧
  va_Nw (.castable "java/util/NoSuchElementException" "java/util/NoSuchElementException") U ∧ va_Nw (.declares (b_iS "java/lang/RuntimeException")) U ∧ va_Nw (.declares (b_iS "java/lang/Exception")) U ∧ va_Nw (.declares (b_iS "java/lang/Throwable")) U
theorem b_X_moved {A : Nat → Prop} {sa sb : Nat} {s U : State} (h : b_X A sa sb s) (hW : s.WarmedH U.vm) (hq : ∀ a : Nat, a < s.heap.size → ¬ A a → U.heap[a]? = s.heap[a]?) : b_X A sa sb U := by
  obtain ⟨⟨h1, h2⟩, ⟨h3, h4⟩, h5, h6, h7, h8⟩ := h
  exact ⟨⟨vk_R.warm hW h1, vk_R.warm hW h2⟩, ⟨vx_Zq.moved hW.alike (h3.kept hq), vx_Zq.moved hW.alike (h4.kept hq)⟩, va_Nw.warmC hW h5, va_Nw.warmD hW h6, va_Nw.warmD hW h7, va_Nw.warmD hW h8⟩
theorem b_hat {A : Nat → Prop} {sa sb : Nat} {s : State} {args : Array Value} (hts : ∀ w ∈ s_gw, w.before args s = true) (hX : b_X A sa sb s) : ∀ w ∈ b_at, w.before args s = true :=
  vx_hat (B := b_bad) (fun w hw => hts w (s_gw_mem (b_at_g w hw) (List.mem_filter.mp hw).2)) b_at_b (vx_c (va_Nw.use rfl hX.2.2.1) (vx_c (va_Nw.use rfl hX.2.2.2.1) (vx_c (va_Nw.use rfl hX.2.2.2.2.1) (vx_c (va_Nw.use rfl hX.2.2.2.2.2) vx_n))))
theorem b_w130 : Cond.classLink RX11 130 "java/util/NoSuchElementException" ∈ s_gw := j_gw 1302 (by decide +kernel) rfl
theorem b_wE : Cond.initialized "java/util/NoSuchElementException" ∈ s_gw := j_gw 134 (by decide +kernel) rfl
theorem b_w13 : Cond.classLink RL 13 "java/util/NoSuchElementException" ∈ s_gw := j_gw 1297 (by decide +kernel) rfl
theorem b_w7 : Cond.methodLink RL 7 yX11_boy ∈ s_gw := j_gw 1298 (by decide +kernel) rfl
theorem b_wI : Cond.instanceMethod yX11_boy ∈ s_gw := j_gw 1299 (by decide +kernel) rfl
theorem b_wS : Cond.selects RX11 yX11_boy yX11_boy ∈ s_gw := j_gw 1300 (by decide +kernel) rfl
theorem b_w38 : Cond.methodLink RL 38 yL_boy ∈ s_gw := j_gw 1294 (by decide +kernel) rfl
theorem b_wT : Cond.static yL_boy ∈ s_gw := j_gw 1295 (by decide +kernel) rfl
theorem b_wC : Cond.codeWith yL_boy cL_boy 5 (some .int) [(0, 10, 13, 13)] ∈ s_gw := j_gw 1296 (by decide +kernel) rfl
theorem b_wL : Cond.initialized RL ∈ s_gw := j_gw 113 (by decide +kernel) rfl
theorem b_ok155 : s_okM s_m155 := s_okMs s_m155 (List.mem_of_getElem? (i := 155) rfl)
section BOY
variable {l : Launch} {base : Nat} {ρ : Nat → Nat} {D : va_G} {cid : Nat → ClassId} {xs : Nat → Int32} {Ln : Nat}
def b_PX (base : Nat) (ρ : Nat → Nat) (D : va_G) (cid : Nat → ClassId) (xs : Nat → Int32) (Ln : Nat) (vs : List Value) (g : s_G) (sa sb : Nat) : Array Value → State → Prop := fun a U => s_Pc base ρ D cid xs Ln vs (s_hg g) a U ∧ b_X (s_A base) sa sb U
theorem b_PX_blind {vs : List Value} {g : s_G} {sa sb : Nat} : FrameBlind (b_PX base ρ D cid xs Ln vs g sa sb) := by
  intro a U f mk hp
  exact ⟨s_Pc_blind a U f mk hp.1, b_X_moved (U := U.calling f mk a) hp.2 (State.WarmedH.refl U) (fun _ _ _ => rfl)⟩
def b_XC (base : Nat) (ρ : Nat → Nat) (D : va_G) (cid : Nat → ClassId) (xs : Nat → Int32) (Ln : Nat) (g : s_G) : String → State → State → Prop := fun E st t => E = "java/util/NoSuchElementException" ∧ s_HR base ρ D cid xs Ln (s_hg g) t.heap ∧ va_F (s_A base) st t
set_option maxHeartbeats 2000000 in
set_option maxRecDepth 100000 in
/-- the class's boy, where it throws -/
theorem b_thr (hl : l.stackTraces = false) (hρ : ∀ a, a < 1000 → ρ a = base + a) (hinj : ∀ a b, 1000 ≤ a → a < 1029 → 1000 ≤ b → b < 1029 → ρ a = ρ b → a = b) {x y : Int32} {g : s_G} {sa sb px : Nat} (hpx : px = 11 ∨ px = 133) (ht : s_To 3 s_m155 (0, b_L x y, [], s_hg g) (px, b_L x y, [], s_hg g)) :
    vx_Met l yX11_boy (s_ws s_m155) (s_rm 3 1 6) (b_PX base ρ D cid xs Ln [.ref 0, .int x, .int y] g sa sb) (fun _ _ _ _ => False) (b_XC base ρ D cid xs Ln g) 1 6 (s_A base) := by
  obtain ⟨o1, o2, o3, o4, o5, o6, o7, o8, o9⟩ := b_ok155
  refine vx_ofW (cc := prog_1_method_6_code) (maxL := 3) (ret := some .int) o1 rfl ?_
  intro p e s m args below meth c s₁ B hml hno hv
  obtain ⟨⟨rfl, hH, hSR, -⟩, hX⟩ := hv
  have hts := atoms_spec (ws := s_ws s_m155) B.pre
  have hown : s.vm.findClass RX11 = some m.cls := findClass_of_methodNamed B.named
  have htg : ∀ w ∈ s_gw, w.before (([Value.ref 0, .int x, .int y].map (s_v ρ)).toArray) s = true := fun w hw => hts w (List.mem_cons_of_mem _ hw)
  have cx : s_Cx p s m (([Value.ref 0, .int x, .int y].map (s_v ρ)).toArray) meth c base ρ D cid xs Ln s_m155 := ⟨B.exec, B.bytes, hml, hown, htg, (fun hi => by cases hi), hSR, hρ, hinj, o4, o5⟩
  have hle := lv_entry ([Value.ref 0, .int x, .int y].map (s_v ρ)) (n := 3) (Nat.le_refl _)
  rw [lg_entry_eq]
  generalize (lg_sl ([Value.ref 0, .int x, .int y].map (s_v ρ)) ++ List.replicate (3 - (lg_sl ([Value.ref 0, .int x, .int y].map (s_v ρ))).length) Slot.unset).toArray = ls at hle ⊢
  obtain ⟨f, n, hn⟩ := ht
  refine (s_toW (l := l) (e := e) (R := (headSpec (s_ws s_m155) (s_rm 3 1 6)).room) (below := below) (Q := vx_MQ below (fun _ _ _ _ => False) (b_XC base ρ D cid xs Ln g) (([Value.ref 0, .int x, .int y].map (s_v ρ)).toArray) s 1 6 (s_A base)) (n0 := 153) (z0 := 7386) (G := 0) (Gs := 0) cx (d := 3) (Nat.le_refl _) (Nat.le_refl _) n 0 px (b_L x y) (b_L x y) [] [] (s_hg g) (s_hg g) hn (fun h => by cases h) (Nat.le_refl _) (Nat.le_refl _) (Nat.zero_le _) (Nat.zero_le _)).2.2 ?_ s.heap [] ls hH va_S.rf hle rfl
  intro H locs ls2 hH2 hS2 hl2 hL2
  have hx : ∀ t : State, s.vm.Alike t.vm → H.size ≤ t.heap.size → (∀ q : Nat, q < H.size → t.heap[q]? = H[q]?) → b_XC base ρ D cid xs Ln g "java/util/NoSuchElementException" s t := by
    intro t _ h1 h2
    refine ⟨rfl, ⟨fun k q hq => (hH2.1 k q hq).kept (h2 _ (hH2.1 k q hq).lt), hH2.2⟩, Nat.le_trans hS2.1 h1, fun q h3 h4 => ?_⟩
    rw [h2 q (Nat.lt_of_lt_of_le h3 hS2.1)]
    exact hS2.2.1 q h3 h4
  rcases hpx with rfl | rfl
  · exact b_throw (cc := prog_1_method_6_code) (sup := "java/lang/RuntimeException") (ix := 13) (fb := prog_31_method_4_code) (names := ["java/lang/Exception"]) (ik := 130) (is := 132) (ic := 134) B.exec B.bytes hl hown (by decide +kernel) (by decide +kernel) b_fb13 (by decide +kernel) (htg _ b_w130) (htg _ b_wE) hX.1.1 (b_hat htg hX) b_at_o hX.2.1.1 hX.2.1.2 hS2 (hl2.1.trans hml.symm)
      (by decide +kernel) (by decide +kernel) (by decide +kernel) (by decide +kernel) (by decide +kernel) (fun x hx => (hno x hx).elim) (by decide +kernel) (by show 0 + (13 * (1 + 2) + 43) ≤ 40 * 3 + 240; omega) (by show 1 ≤ 1; omega) (by show 6 ≤ 6; omega) B.notSynchronized hx hS2.2.2 (by show 1 ≤ 1; omega) (by show 6 ≤ 6; omega)
  · exact b_throw (cc := prog_1_method_6_code) (sup := "java/lang/RuntimeException") (ix := 13) (fb := prog_31_method_4_code) (names := ["java/lang/Exception"]) (ik := 130) (is := 157) (ic := 134) B.exec B.bytes hl hown (by decide +kernel) (by decide +kernel) b_fb13 (by decide +kernel) (htg _ b_w130) (htg _ b_wE) hX.1.2 (b_hat htg hX) b_at_o hX.2.1.1 hX.2.1.2 hS2 (hl2.1.trans hml.symm)
      (by decide +kernel) (by decide +kernel) (by decide +kernel) (by decide +kernel) (by decide +kernel) (fun x hx => (hno x hx).elim) (by decide +kernel) (by show 0 + (13 * (1 + 2) + 43) ≤ 40 * 3 + 240; omega) (by show 1 ≤ 1; omega) (by show 6 ≤ 6; omega) B.notSynchronized hx hS2.2.2 (by show 1 ≤ 1; omega) (by show 6 ≤ 6; omega)
end BOY
