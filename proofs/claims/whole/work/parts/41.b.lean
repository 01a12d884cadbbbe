set_option maxRecDepth 100000 in
theorem b_g1 : (Cond.exactly (.string "CampAshes" 132) "java/lang/String" ∈ flatC (Jvm.Cond.and given_1 narrow_1) ∧ Cond.exactly (.string "CampAshes" 157) "java/lang/String" ∈ flatC (Jvm.Cond.and given_1 narrow_1)) ∧ Cond.isRef (.static Bundle.tN "UNASSIGNED_STACK" Bundle.steD) ∈ flatC (Jvm.Cond.and given_1 narrow_1) ∧ Cond.isRef (.static Bundle.tN "SUPPRESSED_SENTINEL" Bundle.listD) ∈ flatC (Jvm.Cond.and given_1 narrow_1) := by decide +kernel
theorem b_g2 : s_wAt 1341 (.stringRef "CampAshes" 132 "no such boy") = true ∧ s_wAt 1369 (.stringRef "CampAshes" 157 "no such what") = true ∧ s_wAt 1329 (.laysStatic Bundle.tN "UNASSIGNED_STACK" Bundle.steD) = true ∧ s_wAt 1331 (.laysStatic Bundle.tN "SUPPRESSED_SENTINEL" Bundle.listD) = true ∧ s_wAt 131 (.initialized Bundle.tN) = true := by decide +kernel
theorem b_g3 : s_wAt 1304 (.castable "java/util/NoSuchElementException" "java/util/NoSuchElementException") = true ∧ s_wAt 1306 (.declares (b_iS "java/lang/RuntimeException")) = true ∧ s_wAt 1308 (.declares (b_iS "java/lang/Exception")) = true ∧ s_wAt 1310 (.declares (b_iS "java/lang/Throwable")) = true := by decide +kernel
theorem b_start {s : State} {b : Nat} (hts : ∀ w ∈ lw_tbl, w.before #[Value.ref b] s = true) (hgv : (Jvm.Cond.and given_1 narrow_1).before #[Value.ref b] s = true) : ∃ sa sb, b_X (s_A s.heap.size) sa sb s := by
  have hs := flat_of_before _ hgv
  have hA : ∀ a : Nat, a < s.heap.size → ¬ s_A s.heap.size a := fun a h => Nat.not_le.mpr h
  obtain ⟨sa, -, -, -, q1, -⟩ := Cond.exactly_spec (hs _ b_g1.1.1)
  obtain ⟨sb, -, -, -, r1, -⟩ := Cond.exactly_spec (hs _ b_g1.1.2)
  have w := fun {x : Cond} {n : Nat} (h : s_wAt n x = true) => hts x (s_wAt_mem h)
  exact ⟨sa, sb, ⟨vk_R.of (w b_g2.1) q1, vk_R.of (w b_g2.2.1) r1⟩, ⟨vx_Zqof (w b_g2.2.2.1) (w b_g2.2.2.2.2) (hs _ b_g1.2.1) hA, vx_Zqof (w b_g2.2.2.2.1) (w b_g2.2.2.2.2) (hs _ b_g1.2.2) hA⟩, va_Nw.of rfl (w b_g3.1), va_Nw.of rfl (w b_g3.2.1), va_Nw.of rfl (w b_g3.2.2.1), va_Nw.of rfl (w b_g3.2.2.2)⟩
theorem q_x2 : ∃ h1 : s_H, s_mny 20000 20 s_m282 13 (0, s_ent [.ref 1200] 7, [], s_hz) = some (23, s_L1 0, [], h1) ∧ h1.1 = 153 ∧ h1.2.1 = 7386 ∧ q_ckI h1 = true ∧ q_ckR h1 = true ∧ q_ckW h1 = true ∧ q_ckE h1 = true := by
  have h := s_x1_eq
  have k := q_ok1
  generalize s_h1 = h1 at h k
  unfold s_x1 at h
  exact ⟨h1, h.1, h.2.1, h.2.2.1, k.1, k.2.1, k.2.2.1, k.2.2.2⟩
set_option maxRecDepth 100000 in
theorem q_ck282 : s_t282.all s_ck = true := by decide +kernel
theorem q_d1256 : decode code 1256 = .ok (.ireturn, 1) := by decide +kernel
set_option maxHeartbeats 2000000 in
set_option maxRecDepth 100000 in
/-- from the entry, for every script of at most 3072 ints, the law comes to its end with true -/
theorem whole_start {p : Program} {e : Env} {s : State} {m : MethodId} {below : List Frame} {meth : Method} {c : Code} (l : Launch) (hflags : l.flags = flags0) {b L : Nat} {xs : Nat → Int32} (hL : L ≤ 3072) (C0 : lw_At p s m meth c b L xs) : W p l e room_1 s m #[Value.ref b] below meth c s.heap [] 0 0 (lw_Z below #[Value.ref b] s) (entryFrame m ([Value.ref b] : List Value).toArray 7) := by
  obtain ⟨hx, hb, hr, hml, hown, hts, hXs, hbl, hlocks, hgv⟩ := C0
  obtain ⟨ρ, D, cid, hSR, hρ, hinj, hρb⟩ := s_start hts hgv hXs hbl hL
  obtain ⟨sa, sb, hX⟩ := b_start hts hgv
  obtain ⟨h1, hn, e153, e7386, cI, cR, cW, cE⟩ := q_x2
  have cx : s_Cx p s m #[Value.ref b] meth c s.heap.size ρ D cid xs L s_m282 := ⟨hx, hb, hml, hown, fun w hw => hts w (s_gw_good hw).1, (fun h => by cases h), hSR, hρ, hinj, s_d282, q_ck282⟩
  have hend : ∀ (G Gs : Nat) (i : Int32) (g : s_G), 153 + G ≤ room_1.cells → 7386 + Gs ≤ room_1.slots → s_K p l e room_1 s m #[Value.ref b] below meth c (lw_Z below #[Value.ref b] s) s.heap.size ρ D cid xs L s_m282 0 0 G Gs 1256 (s_L1 i) [.int 1] (s_hg g) := by
    intro G Gs i g hc1 hc2 H locs ls hH hS hl hLn
    have hc1 : 153 + G ≤ 601024 := hc1
    have hc2 : 7386 + Gs ≤ 7293034 := hc2
    refine va_forget (fun q hq => hS.2.2 q hq) ?_
    exact W.widen (k := 601024) (n := 7293034) (by show 153 - 0 + G ≤ 601024; omega) (by show 7386 - 0 + Gs ≤ 7293034; omega) (lw_ret hx hb hr hlocks q_d1256)
  have loop := q_loop (XC := 1) (XS := 6) (below := below) (l := l) (e := e) (R := room_1) (Q := lw_Z below #[Value.ref b] s) cx (show 206 ≤ 2048 by omega) (show 8240 ≤ 84000 by omega) hL (b_turn (below := below) (l := l) (e := e) (R := room_1) (Q := lw_Z below #[Value.ref b] s) (b_st hflags) cx hX (show 206 ≤ 2048 by omega) (show 8240 ≤ 84000 by omega)) hend 512 0 0 0 (q_g h1 xs L) (q_I cI cW cE) (by omega) (by omega) (show 153 + 0 + 512 * 1 ≤ 601024 by omega) (show 7386 + 0 + 512 * 6 ≤ 7293034 by omega)
  have hle := lv_entry ([Value.ref b]) (n := 7) (by show 1 ≤ 7; omega)
  rw [lg_entry_eq]
  generalize (lg_sl [Value.ref b] ++ List.replicate (7 - (lg_sl [Value.ref b]).length) Slot.unset).toArray = ls at hle ⊢
  have hls : lv_has ls 7 (s_as ρ 0 (s_ent [.ref 1200] 7)) := by
    rw [s_ent_as]
    show lv_has ls 7 (lv_args 0 [Value.ref (ρ 1200)])
    rw [hρb]
    exact hle
  have hz : s_HR s.heap.size ρ D cid xs L s_hz s.heap := ⟨fun k q hq => (by have := (s_w_inv hq).1; exact absurd this (Nat.not_lt_zero _)), fun h => by cases h⟩
  refine (s_toW (l := l) (e := e) (R := room_1) (below := below) (Q := lw_Z below #[Value.ref b] s) (n0 := 0) (z0 := 0) (G := 0) (Gs := 0) cx (d := 20) (show 20 + 6 ≤ 2048 by omega) (show 40 * 20 + 240 ≤ 84000 by omega) 13 0 23 (s_ent [.ref 1200] 7) (s_L1 0) [] [] s_hz h1 hn (fun _ => ⟨rfl, rfl⟩) (Nat.le_refl _) (Nat.le_refl _) (by rw [e153]; show 153 - 0 + 0 ≤ 601024; omega) (by rw [e7386]; show 7386 - 0 + 0 ≤ 7293034; omega)).2.2 ?_ s.heap [] ls hz va_S.rf hls rfl
  intro H locs ls2 hH2 hS2 hl2 hL2
  rw [e153, e7386]
  exact loop H locs ls2 (q_HR e153 cR hH2) hS2 hl2 hL2
