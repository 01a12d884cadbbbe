def b_tb : List (Nat × Instr × Nat × Nat) := [(0, .aload_n 3, 1, 0), (1, .iconst 0, 1, 0), (2, .aload_n 0, 1, 0), (3, .iload_n 1, 1, 0), (4, .iload_n 2, 1, 0), (8, .i2l, 1, 0), (9, .lastore, 1, 0), (10, .goto 7, 3, 17), (17, .iconst 0, 1, 0), (18, .ireturn, 1, 0)]
theorem b_dec : s_dec method_3_code b_tb := by unfold s_dec; decide +kernel
theorem b_cks : b_tb.all s_ck = true := by decide +kernel
def b_mb : s_M := (⟨"CampAshesLaw", "boy", "(LCampAshes;II[J)I"⟩, method_3_code, 5, (some .int), 13, false, b_tb)
def b_ws : List Cond := Cond.codeWith yL_boy cL_boy 5 (some .int) [(0, 10, 13, 13)] :: s_gw
def b_LB (x y : Int32) : s_L := [some (.ref 0), some (.int x), some (.int y), some (.ref 152), none]
set_option maxRecDepth 100000 in
theorem b_s1 {x y : Int32} {g : s_G} : s_mny 0 0 b_mb 5 (0, b_LB x y, [], s_hg g) = some (5, b_LB x y, [.int y, .int x, .ref 0, .int 0, .ref 152], s_hg g) := rfl
set_option maxRecDepth 100000 in
theorem b_s2 {x y v : Int32} {g : s_G} : s_mny 0 0 b_mb 4 (8, b_LB x y, [.int v, .int 0, .ref 152], s_hg g) = some (18, b_LB x y, [.int 0], s_hg (s_sl g 152 0 v.toInt64)) := rfl
def b_vs (x y : Int32) : List Value := [.ref 0, .int x, .int y, .ref 152]
section BOY
variable {l : Launch} {base : Nat} {ρ : Nat → Nat} {D : va_G} {cid : Nat → ClassId} {xs : Nat → Int32} {Ln : Nat}
theorem b_recv {s : State} {H : Heap} {g : s_G} (hSR : s_SR base ρ D cid xs Ln s) (hH : s_HR base ρ D cid xs Ln (s_hg g) H) : ∃ cell : Cell, H[base + 0]? = some cell ∧ cell.vm.isStatics = false ∧ s.vm.findClass RX11 = some cell.cls := by
  have hg : s_isG (s_hg g) 0 11 = true := rfl
  obtain ⟨k1, k2, -⟩ := s_okC 11 (by omega) (by omega)
  have he := s_w_at (base := base) (ρ := ρ) (cid := cid) (h := s_hg g) (a := 0) (show 0 < 153 by omega)
  rw [s_E_obj hg (by omega)] at he
  have := va_recv hSR.1 hH.1 k1 he
  exact this
set_option maxHeartbeats 2000000 in
set_option maxRecDepth 100000 in
/-- the law's boy: the answer laid into the box, or the throw caught -/
theorem b_law (hl : l.stackTraces = false) (hρ : ∀ a, a < 1000 → ρ a = base + a) (hinj : ∀ a b, 1000 ≤ a → a < 1029 → 1000 ≤ b → b < 1029 → ρ a = ρ b → a = b) {x y k : Int32} {g g1 : s_G} {sa sb : Nat}
    (hc : (k = 0 ∧ ∃ v, s_Fin 3 s_m155 (0, b_L x y, [], s_hg g) (some (.int v)) (s_hg g) ∧ g1 = s_sl g 152 0 v.toInt64) ∨ (k = 1 ∧ g = g1 ∧ ∃ px, (px = 11 ∨ px = 133) ∧ s_To 3 s_m155 (0, b_L x y, [], s_hg g) (px, b_L x y, [], s_hg g))) :
    vx_Met l yL_boy b_ws (s_rm 5 1 6) (b_PX base ρ D cid xs Ln (b_vs x y) g sa sb) (s_Qc base ρ D cid xs Ln (some (.int k)) (s_hg g1)) (fun _ _ _ => False) 1 6 (s_A base) := by
  refine vx_ofWH (cc := cL_boy) (maxL := 5) (ret := some .int) (hh := [(0, 10, 13, 13)]) (by decide +kernel) rfl ?_
  intro p e s m args below meth c s₁ B hml hv
  obtain ⟨⟨rfl, hH, hSR, -⟩, hX⟩ := hv
  have hts := atoms_spec (ws := b_ws) B.pre
  have hown : s.vm.findClass RL = some m.cls := findClass_of_methodNamed B.named
  have htg : ∀ w ∈ s_gw, w.before (((b_vs x y).map (s_v ρ)).toArray) s = true := fun w hw => hts w (List.mem_cons_of_mem _ hw)
  have htab := vx_table (x := yL_boy) B (htg _ b_wC)
  have cx : s_Cx p s m (((b_vs x y).map (s_v ρ)).toArray) meth c base ρ D cid xs Ln b_mb := ⟨B.exec, B.bytes, hml, hown, htg, (fun hi => by cases hi), hSR, hρ, hinj, b_dec, b_cks⟩
  have hle := lv_entry ((b_vs x y).map (s_v ρ)) (n := 5) (by show 4 ≤ 5; omega)
  rw [lg_entry_eq]
  generalize (lg_sl ((b_vs x y).map (s_v ρ)) ++ List.replicate (5 - (lg_sl ((b_vs x y).map (s_v ρ))).length) Slot.unset).toArray = ls at hle ⊢
  have hls : lv_has ls 5 (s_as ρ 0 (b_LB x y)) := hle
  have hρ0 : ρ 0 = base + 0 := hρ 0 (by omega)
  have hcode : (Cond.code s_m155.1 s_m155.2.1 s_m155.2.2.1 s_m155.2.2.2.1) ∈ s_gw := s_gw_mem b_ok155.2.2.1 rfl
  have hwsg : ∀ w ∈ s_ws s_m155, w ∈ s_gw := s_ws_gw b_ok155
  have hpay : ∀ w ∈ s_ws s_m155, ∀ (a' : Array Value) (U : State), s.WarmedH U.vm → w.before a' U = true := fun w hw a' U hW => word_at hW (good_of_word (s_gw_good (hwsg w hw)).2) (htg w (hwsg w hw))
  have hpar : ∀ sig, parseMethodDescriptor yX11_boy.desc = some sig → 2 = sig.parameters.length := by
    intro sig hs
    have h2 : (parseMethodDescriptor yX11_boy.desc).map (fun d => d.parameters.length) = some 2 := by decide +kernel
    rw [hs] at h2
    exact (Option.some.inj h2).symm
  have hini : Cond.initialized RX11 ∈ s_gw := s_gw_mem b_ok155.2.2.2.2.2.2.1 rfl
  have cw : ∀ mc ms, CallW (headSpec b_ws (s_rm 5 1 6)).room s (((b_vs x y).map (s_v ρ)).toArray) RL RX11 7 yX11_boy prog_1_method_6_code 3 (some .int) (s_ws s_m155) (s_rm 3 mc ms) mc ms 2 := by
    intro mc ms
    exact ⟨⟨rfl, rfl, (by show 3 + 6 + 1 ≤ 5 + 6; omega), (by show 8 + (3 + 11) + (40 * 3 + 240) ≤ 40 * 5 + 240; omega), hpay, List.mem_cons_self, htg _ hcode, htg _ hini, b_ok155.2.2.2.2.2.2.2.1, hpar, htg _ b_w7⟩, htg _ b_wI, htg _ b_wS⟩
  have hpre : ∀ (H : Heap) (locs : List Loc), s_HR base ρ D cid xs Ln (s_hg g) H → va_S (s_A base) s.heap H locs → ∀ U : State, U.heap = H → s.WarmedH U.vm → b_PX base ρ D cid xs Ln [.ref 0, .int x, .int y] g sa sb (Value.ref (base + 0) :: [Value.int x, .int y]).toArray U := by
    intro H locs hH2 hS2 U hU hW
    have hq : ∀ a : Nat, a < s.heap.size → ¬ s_A base a → U.heap[a]? = s.heap[a]? := fun a h1 h2 => by rw [hU]; exact hS2.2.1 a h1 h2
    refine ⟨⟨?_, by rw [hU]; exact hH2, s_SR_moved hSR hW (by rw [hU]; exact hS2.1) hq, fun h => by cases h⟩, b_X_moved hX hW hq⟩
    show _ = [Value.ref (ρ 0), .int x, .int y].toArray
    rw [hρ0]
  have hstk : ∀ st : List Value, ([Value.int y, .int x, .ref 0, .int 0, .ref 152].map (s_v ρ)) = ([Value.int x, .int y] : List Value).reverse ++ .ref (base + 0) :: [.int 0, .ref (ρ 152)] := by
    intro _
    show [Value.int y, .int x, .ref (ρ 0), .int 0, .ref (ρ 152)] = [Value.int y, .int x, .ref (base + 0), .int 0, .ref (ρ 152)]
    rw [hρ0]
  rcases hc with ⟨rfl, v, hfin, rfl⟩ | ⟨rfl, rfl, px, hpx, ht⟩
  · -- it answers
    obtain ⟨f, px, hrun⟩ := s_Ev.fin (vs := [.ref 0, .int x, .int y]) (q := s_m155) hfin
    have hM := s_met (D := D) (cid := cid) (xs := xs) (Ln := Ln) (s_sound l f 3) hρ hinj b_ok155 (vs := [.ref 0, .int x, .int y]) (Nat.le_refl _) hrun
    refine W.widen (k := 153 - 153 + 1) (n := 7386 - 7386 + 6) (by omega) (by omega) ?_
    refine (s_toW (l := l) (e := e) (R := (headSpec b_ws (s_rm 5 1 6)).room) (below := below) (Q := vx_MQ below (s_Qc base ρ D cid xs Ln (some (.int 0)) (s_hg (s_sl g 152 0 v.toInt64))) (fun _ _ _ => False) (((b_vs x y).map (s_v ρ)).toArray) s 1 6 (s_A base)) (n0 := 153) (z0 := 7386) (G := 1) (Gs := 6) cx (d := 0) (by show 0 + 6 ≤ 5 + 6; omega) (by show 40 * 0 + 240 ≤ 40 * 5 + 240; omega) 5 0 5 (b_LB x y) (b_LB x y) [] [.int y, .int x, .ref 0, .int 0, .ref 152] (s_hg g) (s_hg g) b_s1 (fun h => by cases h) (Nat.le_refl _) (Nat.le_refl _) (Nat.le_refl _) (Nat.le_refl _)).2.2 ?_ s.heap [] ls hH va_S.rf hls rfl
    intro H locs ls2 hH2 hS2 hl2 hL2
    have hrec := b_recv hSR hH2
    refine s_callW (v := some (.int v)) (h1 := s_hg g) (mc := 0) (ms := 0) (rest := [.int 0, .ref (ρ 152)]) (a := (Value.ref (base + 0) :: [Value.int x, .int y]).toArray) (va_runV (C := RX11) (b := base + 0) (As := [.int x, .int y]) (rest := [.int 0, .ref (ρ 152)]) (n := 2) ⟨B.exec, B.bytes, hml, hown, htg⟩ hM (cw 0 0) ⟨s_Pc_blind, hrec, fun U hU hW => (hpre H locs hH2 hS2 U hU hW).1⟩ rfl rfl hl2.1 (hstk []) (lv_room (by show 1 + (1 + 0) ≤ 8; omega)) (by show decode cL_boy 5 = .ok (.invokevirtual 7, 3); decide +kernel) ⟨Nat.le_refl _, Nat.le_refl _⟩) hS2 (fun H3 locs3 hH3 hS3 => ?_)
    refine (s_toW (l := l) (e := e) (R := (headSpec b_ws (s_rm 5 1 6)).room) (below := below) (Q := vx_MQ below (s_Qc base ρ D cid xs Ln (some (.int 0)) (s_hg (s_sl g 152 0 v.toInt64))) (fun _ _ _ => False) (((b_vs x y).map (s_v ρ)).toArray) s 1 6 (s_A base)) (n0 := 153) (z0 := 7386) (G := 1) (Gs := 6) cx (d := 0) (by show 0 + 6 ≤ 5 + 6; omega) (by show 40 * 0 + 240 ≤ 40 * 5 + 240; omega) 4 8 18 (b_LB x y) (b_LB x y) [.int v, .int 0, .ref 152] [.int 0] (s_hg g) (s_hg (s_sl g 152 0 v.toInt64)) b_s2 (fun h => by cases h) (Nat.le_refl _) (Nat.le_refl _) (Nat.le_refl _) (Nat.le_refl _)).2.2 ?_ H3 locs3 ls2 hH3 hS3 hl2 rfl
    intro H4 locs4 ls4 hH4 hS4 hl4 hL4
    exact vx_ret (s_exit (cp := s_cp13) (q := b_mb) (n0 := 153) (z0 := 7386) (G := 1) (Gs := 6) (px := 18) (len := 1) (tg := 0) (i := .ireturn) (L' := b_LB x y) (st' := [.int 0]) (h' := s_hg (s_sl g 152 0 v.toInt64)) (v := some (.int 0)) cx B.returns B.notSynchronized rfl rfl rfl H4 locs4 ls4 hH4 hS4 hl4 hL4)
  · -- it throws
    have hM := b_thr (sa := sa) (sb := sb) (D := D) (cid := cid) (xs := xs) (Ln := Ln) hl hρ hinj hpx ht
    refine (s_toW (l := l) (e := e) (R := (headSpec b_ws (s_rm 5 1 6)).room) (below := below) (Q := vx_MQ below (s_Qc base ρ D cid xs Ln (some (.int 1)) (s_hg g)) (fun _ _ _ => False) (((b_vs x y).map (s_v ρ)).toArray) s 1 6 (s_A base)) (n0 := 153) (z0 := 7386) (G := 0) (Gs := 0) cx (d := 0) (by show 0 + 6 ≤ 5 + 6; omega) (by show 40 * 0 + 240 ≤ 40 * 5 + 240; omega) 5 0 5 (b_LB x y) (b_LB x y) [] [.int y, .int x, .ref 0, .int 0, .ref 152] (s_hg g) (s_hg g) b_s1 (fun h => by cases h) (Nat.le_refl _) (Nat.le_refl _) (by show 0 ≤ 1; omega) (by show 0 ≤ 6; omega)).2.2 ?_ s.heap [] ls hH va_S.rf hls rfl
    intro H locs ls2 hH2 hS2 hl2 hL2
    have hrec := b_recv hSR hH2
    have hrun := vx_runV (p := p) (e := e) (below := below) (meth := meth) (locs := locs) (cells := 0) (slots := 0) (C := RX11) (b := base + 0) (As := [.int x, .int y]) (rest := [.int 0, .ref (ρ 152)]) (g := F0 m 5 ls2 ([Value.int y, .int x, .ref 0, .int 0, .ref 152].map (s_v ρ))) (n := 2) ⟨B.exec, B.bytes, hml, hown, htg⟩ hM (cw 1 6) ⟨b_PX_blind, hrec, hpre H locs hH2 hS2⟩ rfl rfl hl2.1 (hstk []) (lv_room (by show 1 + (1 + 0) ≤ 8; omega)) (by show decode cL_boy 5 = .ok (.invokevirtual 7, 3); decide +kernel) ⟨by show 0 + 1 ≤ 1; omega, by show 0 + 6 ≤ 6; omega⟩
    intro T hT X
    rcases hrun T hT X with ⟨v, st₀, t, T', L, h0, X', hL, e1, e2, hq, st⟩ | ⟨q, st₀, t, T', L, E, ce, h0, X', hL, e1, e2, ⟨rfl, hHR, hF⟩, hce, hcv, hcl, st⟩
    · exact hq.elim
    · have hS3 : va_S (s_A base) s.heap T'.heap (locs ++ L) := by
        obtain ⟨f1, f2⟩ := hF
        rw [h0] at f1 f2
        refine ⟨Nat.le_trans hS2.1 (by rw [e1]; exact f1), fun a h1 h2 => by rw [e1, f2 a (Nat.lt_of_lt_of_le h1 hS2.1) h2]; exact hS2.2.1 a h1 h2, fun z hz => ?_⟩
        rcases List.mem_append.mp hz with h | h
        · exact hS2.2.2 z h
        · exact hL z h
      have K : vx_W p l e (headSpec b_ws (s_rm 5 1 6)).room s m (((b_vs x y).map (s_v ρ)).toArray) below meth c T'.heap (locs ++ L) (0 + 1) (0 + 6) (vx_MQ below (s_Qc base ρ D cid xs Ln (some (.int 1)) (s_hg g)) (fun _ _ _ => False) (((b_vs x y).map (s_v ρ)).toArray) s 1 6 (s_A base)) (F0 m 5 ls2 [.int 0, .ref (ρ 152)]) q := by
        refine vx_catch (own := RL) (name := "java/util/NoSuchElementException") (E := "java/util/NoSuchElementException") (ce := ce) hown [] ⟨0, 10, 13, 13⟩ [] htab (fun z hz => by cases hz) (by decide) (by decide) (htg _ b_w13) (va_Nw.use rfl hX.2.2.1) (by rw [e1]; exact hce) hcv hcl ?_
        refine lv_astore (cc := cL_boy) (i := 4) B.exec B.bytes (by decide +kernel) hl2 (by show 4 < 5; omega) rfl (fun ls3 hl3 => ?_)
        refine lv_iconst (cc := cL_boy) (n := 1) (v := 1) B.exec B.bytes (by decide +kernel) (by decide +kernel) ?_
        exact vx_ret (W.iret (cc := cL_boy) B.exec B.bytes B.returns (fun t2 ht2 _ => ⟨rfl, by rw [ht2, e1]; exact hHR, hS3.F ht2⟩) hS3.2.2 (by decide +kernel) B.notSynchronized)
      obtain ⟨t2, a1, b1⟩ := K T' rfl X'
      exact ⟨t2, st.trans a1, b1⟩
end BOY
