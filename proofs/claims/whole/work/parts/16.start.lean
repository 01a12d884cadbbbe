-- WHAT HOLDS AT THE LAW's ENTRY, in the pure machine's words
def s_lsp : List Nat := [632, 664, 677, 687, 693, 695, 697, 2036, 2037, 2038, 2039, 1141, 1143, 1145, 1121, 1124, 1126, 1240, 1237, 1201, 1206, 1208, 1210, 1212, 1214, 1216, 1218, 1220, 1222]
abbrev s_wT (i : Nat) : Term := .static RX10 (s_wn.getD i "") "LCampAshes$Word;"
abbrev s_sT (i : Nat) : Term := .string "CampAshes" (([292, 300, 302] : List Nat).getD i 0)
abbrev s_aT : Term := .static RX10 "ALL" "[LCampAshes$Word;"
abbrev s_vT (i : Nat) : Term := .field (s_sT i) "java/lang/String" "value" "[B"
set_option maxRecDepth 100000 in
theorem s_a1 : ∀ i, i < 29 → s_wAt (s_lsp.getD i 0) (.laysStatic RX10 (s_wn.getD i "") "LCampAshes$Word;") = true := by decide +kernel
set_option maxRecDepth 100000 in
theorem s_a2 : ∀ i, i < 29 → Cond.exactly (s_wT i) RX10 ∈ flatC (Jvm.Cond.and given_1 narrow_1) := by decide +kernel
set_option maxRecDepth 100000 in
theorem s_a3 : ∀ i, i < 29 → Cond.eq (.field (s_wT i) RX10 "letters" "J") (.long (s_wl.getD i 0)) ∈ flatC (Jvm.Cond.and given_1 narrow_1) := by decide +kernel
set_option maxRecDepth 100000 in
theorem s_a4 : ∀ i, i < 29 → Cond.eq (.field (s_wT i) RX10 "kind" "I") (.int (s_wk i)) ∈ flatC (Jvm.Cond.and given_1 narrow_1) := by decide +kernel
set_option maxRecDepth 100000 in
theorem s_a5 : ∀ i, i < 29 → Cond.eq (.elem s_aT (.int (Int32.ofNat i))) (s_wT i) ∈ flatC (Jvm.Cond.and given_1 narrow_1) := by decide +kernel
set_option maxRecDepth 100000 in
theorem s_a6 : Cond.arrayOf s_aT (.object RX10) ∈ flatC (Jvm.Cond.and given_1 narrow_1) ∧ Cond.eq (.length s_aT) (.int 29) ∈ flatC (Jvm.Cond.and given_1 narrow_1) := by decide +kernel
set_option maxRecDepth 100000 in
theorem s_a7 : ∀ i, i < 3 → Cond.exactly (s_sT i) "java/lang/String" ∈ flatC (Jvm.Cond.and given_1 narrow_1) ∧ Cond.eq (.field (s_sT i) "java/lang/String" "coder" "B") (.int 0) ∈ flatC (Jvm.Cond.and given_1 narrow_1) ∧ Cond.arrayOf (s_vT i) .byte ∈ flatC (Jvm.Cond.and given_1 narrow_1) ∧ Cond.eq (.length (s_vT i)) (.int (Int32.ofNat (s_txs.getD i []).length)) ∈ flatC (Jvm.Cond.and given_1 narrow_1) := by decide +kernel
set_option maxRecDepth 100000 in
theorem s_a8 : ∀ i, i < 3 → ∀ j, j < (s_txs.getD i []).length → Cond.eq (.elem (s_vT i) (.int (Int32.ofNat j))) (.int ((s_txs.getD i []).getD j 0)) ∈ flatC (Jvm.Cond.and given_1 narrow_1) := by decide +kernel
set_option maxRecDepth 100000 in
theorem s_a9 : Cond.eq (.static "java/lang/String" "COMPACT_STRINGS" "Z") (.int 1) ∈ flatC (Jvm.Cond.and given_1 narrow_1) ∧ Cond.isRef (.static "jdk/internal/util/Preconditions" "SIOOBE_FORMATTER" "Ljava/util/function/BiFunction;") ∈ flatC (Jvm.Cond.and given_1 narrow_1) := by decide +kernel
theorem s_a10 : (s_nws.zip [150, 300, 346, 378, 443, 452, 469, 502, 512]).all (fun x => s_wAt x.2 x.1) = true ∧ s_nws.length = 9 := by decide +kernel
theorem s_a11 : s_wAt 351 (.arrayOver (.object RX10)) = true ∧ s_wAt 428 (.arrayOver (.object RX8)) = true ∧ s_wAt 441 (.arrayOver (.object RX5)) = true := by decide +kernel
theorem s_a12 : s_wAt 618 (.laysStatic RX10 "ALL" "[LCampAshes$Word;") = true ∧ s_wAt 129 (.initialized RX10) = true ∧ s_wAt 1030 (.laysStatic "java/lang/String" "COMPACT_STRINGS" "Z") = true ∧ s_wAt 136 (.initialized "java/lang/String") = true ∧ s_wAt 1046 (.laysStatic "jdk/internal/util/Preconditions" "SIOOBE_FORMATTER" "Ljava/util/function/BiFunction;") = true ∧ s_wAt 138 (.initialized "jdk/internal/util/Preconditions") = true := by decide +kernel
theorem s_a13 : ∀ i, i < 3 → s_wAt (([1016, 1073, 1075] : List Nat).getD i 0) (.stringRef "CampAshes" (([292, 300, 302] : List Nat).getD i 0) (s_sx.getD i "")) = true := by decide +kernel
theorem s_a14 : ∀ z ∈ s_cp11.2.2.2.2, (match z.2 with
  | .ref a => decide (1300 ≤ a ∧ a < 1303 ∧ z.1 = (([292, 300, 302] : List Nat).getD (a - 1300) 0))
  | _ => true) = true := by decide +kernel
theorem s_a15 : ∀ i, i < 29 → ∀ j, j < 29 → s_wl.getD i 0 = s_wl.getD j 0 → i = j := by decide +kernel
theorem s_a16 : s_R 11 = "CampAshes" := by decide +kernel
def s_arC : List Cond := [.arrayClass .byte, .arrayClass .int, .arrayClass .long, .arrayClass .boolean]
set_option maxHeartbeats 2000000 in
theorem s_start {s : State} {b L : Nat} {xs : Nat → Int32} (hts : ∀ w ∈ lw_tbl, w.before #[Value.ref b] s = true) (hgv : (Jvm.Cond.and given_1 narrow_1).before #[Value.ref b] s = true) (hX : va_X b L xs s s.heap) (hbl : b < s.heap.size) (hL : L ≤ 3072) :
    ∃ (ρ : Nat → Nat) (D : va_G) (cid : Nat → ClassId), s_SR s.heap.size ρ D cid xs L s ∧ (∀ a, a < 1000 → ρ a = s.heap.size + a) ∧ (∀ a b, 1000 ≤ a → a < 1029 → 1000 ≤ b → b < 1029 → ρ a = ρ b → a = b) ∧ ρ 1200 = b := by
  have hs := flat_of_before _ hgv
  have hA : ∀ a : Nat, a < s.heap.size → ¬ s_A s.heap.size a := fun a h => Nat.not_le.mpr h
  have hini := hts _ (s_wAt_mem s_a12.2.1)
  -- the enum's constants
  have hw : ∀ i : Nat, ∃ t : Nat, i < 29 → (s_wT i).eval #[Value.ref b] s none [] s = some (.ref t) ∧ va_O RX10 t (s_A s.heap.size) s s.heap ∧ va_Any RX10 s s.heap t := by
    intro i
    by_cases hi : i < 29
    · obtain ⟨a, c, cell, k, q1, q2, q3, q4, q5, q6, -⟩ := Cond.exactly_spec (hs _ (s_a2 i hi))
      refine ⟨a, fun _ => ⟨q1, ⟨cell, q3, q5, by rw [q6]; exact q2, hA a (Array.getElem?_eq_some_iff.mp q3).1⟩, ⟨cell, q3, q5, ⟨k, by rw [q6]; exact q4⟩, fun comp hc => ?_⟩⟩⟩
      rw [q6]
      cases q2.symm.trans hc
      exact va_asg _ _
    · exact ⟨0, fun h => absurd h hi⟩
  obtain ⟨ad, had⟩ := Classical.axiomOfChoice hw
  have hle : ∀ i, i < 29 → va_OF RX10 "letters" "J" (.long (s_wl.getD i 0)) (ad i) (s_A s.heap.size) s s.heap := fun i hi => vk_OFof (had i hi).1 (va_eqtl (hs _ (s_a3 i hi))) hA
  have hki : ∀ i, i < 29 → va_OF RX10 "kind" "I" (.int (s_wk i)) (ad i) (s_A s.heap.size) s s.heap := fun i hi => vk_OFof (had i hi).1 (va_eqt (hs _ (s_a4 i hi))) hA
  have hinj : ∀ i j, i < 29 → j < 29 → ad i = ad j → i = j := by
    intro i j hi hj e
    obtain ⟨cf, k, fi, f, cell, e1, e2, e3, e4, e5, e6⟩ := hle i hi
    obtain ⟨cf', k', fi', f', cell', g1, g2, g3, g4, g5, g6⟩ := hle j hj
    cases e1.symm.trans g1
    rw [e] at e3
    cases e3.symm.trans g3
    have := e5.symm.trans g5
    exact s_a15 i hi j hj (by injection this with h1; injection h1)
  -- the row of all of them
  obtain ⟨tA, htA, hTA⟩ := va_Tof (N := 29) (f := fun j => .ref (ad j)) (A := s_A s.heap.size) (by decide) (hs _ s_a6.1) (va_eqt (hs _ s_a6.2)) (fun j hj => va_eqv (hs _ (s_a5 j hj)) (had j hj).1) hA
  -- texts
  have hst : ∀ i : Nat, ∃ q : Nat × Nat, i < 3 → (s_sT i).eval #[Value.ref b] s none [] s = some (.ref q.1) ∧ va_O "java/lang/String" q.1 (s_A s.heap.size) s s.heap ∧ va_OF "java/lang/String" "coder" "B" (.int 0) q.1 (s_A s.heap.size) s s.heap ∧ va_OF "java/lang/String" "value" "[B" (.ref q.2) q.1 (s_A s.heap.size) s s.heap ∧ va_T .byte q.2 (s_txs.getD i []).length (fun j => .int ((s_txs.getD i []).getD j 0)) (s_A s.heap.size) s s.heap := by
    intro i
    by_cases hi : i < 3
    · obtain ⟨m1, m2, m3, m4⟩ := s_a7 i hi
      obtain ⟨a, c, cA, kA, q1, q2, q3, q4, q5, q6, -⟩ := Cond.exactly_spec (hs _ m1)
      have hlen : (s_txs.getD i []).length < 2 ^ 31 := by
        have : ∀ i, i < 3 → (s_txs.getD i []).length < 100 := by decide +kernel
        exact Nat.lt_trans (this i hi) (by decide)
      obtain ⟨t, ht, hT⟩ := va_Tof (N := (s_txs.getD i []).length) (f := fun j => .int ((s_txs.getD i []).getD j 0)) (A := s_A s.heap.size) hlen (hs _ m3) (va_eqt (hs _ m4)) (fun j hj => va_eqt (hs _ (s_a8 i hi j hj))) hA
      exact ⟨(a, t), fun _ => ⟨q1, ⟨cA, q3, q5, by rw [q6]; exact q2, hA a (Array.getElem?_eq_some_iff.mp q3).1⟩, vk_OFof q1 (va_eqt (hs _ m2)) hA, vk_OFof q1 ht hA, hT⟩⟩
    · exact ⟨(0, 0), fun h => absurd h hi⟩
  obtain ⟨sd, hsd⟩ := Classical.axiomOfChoice hst
  -- classes
  have hgw : ∀ w ∈ s_gw, w.before #[Value.ref b] s = true := fun w hw => hts w (s_gw_good hw).1
  have hcl : ∀ c : Nat, ∃ x : ClassId × (Nat → Nat), ∀ q : vw_C, s_cl2[c]? = some q → u_Kn s q.1 q.2.1 q.2.2 x.1 x.2 := by
    intro c
    have one : ∀ k, k < 13 → k ≠ 10 → ∃ x : ClassId × (Nat → Nat), u_Kn s (s_R k) (s_Tx k) (s_nf k) x.1 x.2 := by
      intro k hk h10
      obtain ⟨o1, o2, o3, o4, o5, o6, o7, o8, o9, o10⟩ := s_okC k hk h10
      obtain ⟨cC, iS, hk2⟩ := u_known (ws := s_gw) (N := s_nf k) (n := s_nf k) hgw (fun w hw => s_gw_mem (o3 w hw).1 (o3 w hw).2) (hts _ o9)
      exact ⟨(cC, iS), hk2⟩
    by_cases hc : c < 13
    · by_cases h10 : c = 10
      · subst h10
        obtain ⟨x, hx⟩ := one 0 (by omega) (by omega)
        refine ⟨x, fun q hq => ?_⟩
        cases hq
        exact hx
      · obtain ⟨x, hx⟩ := one c hc h10
        refine ⟨x, fun q hq => ?_⟩
        cases (s_okC c hc h10).1.symm.trans hq
        exact hx
    · refine ⟨(0, fun _ => 0), fun q hq => ?_⟩
      have : c < s_cl2.length := (List.getElem?_eq_some_iff.mp hq).1
      have h13 : s_cl2.length = 13 := rfl
      omega
  obtain ⟨dx, hdx⟩ := Classical.axiomOfChoice hcl
  -- rows' classes
  have prim : ∀ ty : FieldType, Cond.arrayClass ty ∈ lw_tbl → (∀ C, ty ≠ .object C) → ∃ cA, ArrOfT s cA ty ∧ va_RA s cA ty := by
    intro ty hm hno
    obtain ⟨c, k, comp, h1, h2, h3⟩ := Cond.arrayClass_spec (hts _ hm)
    refine ⟨c, fun n z => ⟨fun k h => (by cases h), k, h2, comp, h3⟩, ?_⟩
    cases ty with
    | object C => exact absurd rfl (hno C)
    | _ => exact h1
  have obj : ∀ C : String, Cond.arrayOver (.object C) ∈ lw_tbl → ∃ cA, ArrOfT s cA (.object C) ∧ va_RA s cA (.object C) := by
    intro C hm
    obtain ⟨comp, c, k, h1, h2, h3, h4, h5⟩ := Cond.arrayOver_spec (hts _ hm)
    exact ⟨c, fun n z => ⟨fun k h => (by cases h), k, h3, comp, h4⟩, k, comp, h3, h4, h1, h5⟩
  obtain ⟨c0, p0⟩ := prim .byte s_wa100 (fun C h => by cases h)
  obtain ⟨c1, p1⟩ := prim .int s_wa101 (fun C h => by cases h)
  obtain ⟨c2, p2⟩ := prim .long s_wa102 (fun C h => by cases h)
  obtain ⟨c3, p3⟩ := prim .boolean s_wa103 (fun C h => by cases h)
  obtain ⟨c4, p4⟩ := obj RX10 (s_wAt_mem s_a11.1)
  obtain ⟨c5, p5⟩ := obj RX8 (s_wAt_mem s_a11.2.1)
  obtain ⟨c6, p6⟩ := obj RX5 (s_wAt_mem s_a11.2.2)
  let cid : Nat → ClassId := fun k => ([c0, c1, c2, c3, c4, c5, c6] : List ClassId).getD (k - 100) 0
  let ρ : Nat → Nat := fun a => if a < 1000 then s.heap.size + a else if a < 1029 then ad (a - 1000) else if a = 1100 then tA else if a = 1200 then b else if a < 1300 then 0 else (sd (a - 1300)).1
  have r1 : ∀ i, i < 29 → ρ (1000 + i) = ad i := by
    intro i hi
    show (if 1000 + i < 1000 then _ else if 1000 + i < 1029 then ad (1000 + i - 1000) else _) = _
    rw [if_neg (by omega), if_pos (by omega), Nat.add_sub_cancel_left]
  have r2 : ρ 1100 = tA := rfl
  have r3 : ρ 1200 = b := rfl
  have r4 : ∀ i, i < 3 → ρ (1300 + i) = (sd i).1 := by
    intro i hi
    show (if 1300 + i < 1000 then _ else if 1300 + i < 1029 then _ else if 1300 + i = 1100 then _ else if 1300 + i = 1200 then _ else if 1300 + i < 1300 then _ else (sd (1300 + i - 1300)).1) = _
    rw [if_neg (by omega), if_neg (by omega), if_neg (by omega), if_neg (by omega), if_neg (by omega), Nat.add_sub_cancel_left]
  refine ⟨ρ, (fun c => (dx c).1, fun c => (dx c).2), cid, ⟨⟨fun c q hq => hdx c q hq, ?_⟩, ?_, ⟨hts _ (s_wAt_mem s_a11.1), hts _ (s_wAt_mem s_a11.2.1), hts _ (s_wAt_mem s_a11.2.2)⟩, ⟨fun i hi => ?_, ?_⟩, fun i hi => ?_, ?_, ⟨hX, hA b hbl, hbl, by omega⟩, ⟨?_, ?_, ?_, ?_⟩, Nat.le_refl _⟩, fun a ha => if_pos ha, ?_, rfl⟩
  · intro k q hk
    match k, hk with
    | 0, hk => cases hk; exact p0
    | 1, hk => cases hk; exact p1
    | 2, hk => cases hk; exact p2
    | 3, hk => cases hk; exact p3
    | 4, hk => cases hk; exact p4
    | 5, hk => cases hk; exact p5
    | 6, hk => cases hk; exact p6
    | k + 7, hk => cases hk
  · intro w hw
    obtain ⟨pp, hp⟩ := s_zip (fun w p => s_wAt p w) s_nws [150, 300, 346, 378, 443, 452, 469, 502, 512] s_a10.2 s_a10.1 w hw
    have h1 := hts _ (s_wAt_mem hp)
    have h2 := s_nws_N w hw
    cases w with
    | fieldLinkNest a b c d e f => exact va_Nw.of rfl h1
    | methodLinkNest a b c d => exact va_Nw.of rfl h1
    | _ => cases h2
  · rw [r1 i hi]
    exact va_Zref (hts _ (s_wAt_mem (s_a1 i hi))) hini (had i hi).1 hA
  · rw [r2]
    exact va_Zref (hts _ (s_wAt_mem s_a12.1)) hini htA hA
  · rw [r1 i hi]
    exact ⟨hle i hi, hki i hi, (had i hi).2.1, (had i hi).2.2⟩
  · rw [r2]
    obtain ⟨cell, h1, h2, h3, h4, h5, h6, h7⟩ := hTA
    exact ⟨cell, h1, h2, h3, h4, h5, fun j hj => by show _ = some (Value.ref (ρ (1000 + j))); rw [r1 j hj]; exact h6 j hj, h7⟩
  · intro k a hm
    have h1 := s_a14 _ hm
    dsimp only at h1
    have h2 := of_decide_eq_true h1
    obtain ⟨i, rfl⟩ := Nat.exists_eq_add_of_le h2.1
    have hi : i < 3 := Nat.lt_of_add_lt_add_left (show 1300 + i < 1300 + 3 from h2.2.1)
    rw [Nat.add_sub_cancel_left] at h2
    rw [Nat.add_sub_cancel_left, r4 i hi, h2.2.2, s_a16]
    exact vk_R.of (hts _ (s_wAt_mem (s_a13 i hi))) (hsd i hi).1
  · intro i hi
    rw [r4 i hi]
    exact ⟨(sd i).2, (hsd i hi).2⟩
  · exact va_Zof (hts _ (s_wAt_mem s_a12.2.2.1)) (hts _ (s_wAt_mem s_a12.2.2.2.1)) (va_eqi (hs _ s_a9.1)) hA
  · exact va_Zqof (hts _ (s_wAt_mem s_a12.2.2.2.2.1)) (hts _ (s_wAt_mem s_a12.2.2.2.2.2)) (hs _ s_a9.2) hA
  · intro x y h1 h2 h3 h4 e
    obtain ⟨i, rfl⟩ := Nat.exists_eq_add_of_le h1
    obtain ⟨j, rfl⟩ := Nat.exists_eq_add_of_le h3
    rw [r1 i (by omega), r1 j (by omega)] at e
    rw [hinj i j (by omega) (by omega) e]
