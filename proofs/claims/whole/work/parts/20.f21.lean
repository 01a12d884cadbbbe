-- CampAshes.putName
noncomputable def fC_putName_0_3 (x1 : Int64) (x3 : Int32) (g : s_G) : Option ((Int32 × s_G) ⊕ (s_G)) :=
  if x3 < 0 then (s_in (some g))
  else s_b1 (some (((x1 >>> (x3.toInt64 &&& 63)) &&& (31 : Int64)).toInt32)) fun v1 => if 0 < v1 then (s_b1 (fC_putTagByte_0 ((96 : Int32) + v1) g) fun g2 => some (.inl (x3 + (-5 : Int32), g2)))
  else some (.inl (x3 + (-5 : Int32), g))
theorem fC_putName_0_3_s {x1 : Int64} {x3 : Int32} {g : s_G} {z : (Int32 × s_G) ⊕ (s_G)} (hB : fC_putName_0_3 x1 x3 g = some z) {v : Option Value} {h' : s_H} (hr : (s_sm (fun (x : Int32 × s_G) (v : Option Value) (h' : s_H) => s_Fin 1 s_m114 (3, [some (.ref 0), some (.long x1), none, some (.int x.1), none], [], s_hg x.2) v h') (fun (z : s_G) (v : Option Value) (h' : s_H) => v = none ∧ h' = s_hg z)) z v h') : s_Fin 1 s_m114 (3, [some (.ref 0), some (.long x1), none, some (.int x3), none], [], s_hg g) v h' := by
  unfold fC_putName_0_3 at hB
  refine s_Fin.sg 1 (y := (4, [some (.ref 0), some (.long x1), none, some (.int x3), none], [.int x3], s_hg g)) rfl ?_
  by_cases hc : x3 < 0
  · rw [if_pos hc] at hB
    refine s_Fin.bt (c := x3 < 0) (tg := 37) (p2 := 4) (L1 := [some (.ref 0), some (.long x1), none, some (.int x3), none]) (st1 := []) hc rfl ?_
    obtain ⟨_, hN, hz⟩ := s_in_of hB
    subst hz
    have hB := hN
    have hB := Option.some.inj hB
    subst hB
    obtain ⟨rfl, rfl⟩ := hr
    exact s_Fin.rt rfl rfl
  · rw [if_neg hc] at hB
    refine s_Fin.bf (c := x3 < 0) (tg := 37) (p2 := 4) (L1 := [some (.ref 0), some (.long x1), none, some (.int x3), none]) (st1 := []) hc rfl ?_
    refine s_Fin.sg 6 (y := (15, [some (.ref 0), some (.long x1), none, some (.int x3), none], [.int (((x1 >>> (x3.toInt64 &&& 63)) &&& (31 : Int64)).toInt32)], s_hg g)) rfl ?_
    obtain ⟨v1, hx, hB⟩ := s_bd hB
    have hx := Option.some.inj hx
    rw [hx]
    refine s_Fin.sg 2 (y := (19, [some (.ref 0), some (.long x1), none, some (.int x3), some (.int v1)], [.int v1], s_hg g)) rfl ?_
    by_cases hc : 0 < v1
    · rw [if_pos hc] at hB
      refine s_Fin.bf (c := v1 ≤ 0) (tg := 31) (p2 := 19) (L1 := [some (.ref 0), some (.long x1), none, some (.int x3), some (.int v1)]) (st1 := []) (Int32.not_le.mpr hc) rfl ?_
      refine s_Fin.sg 4 (y := (28, [some (.ref 0), some (.long x1), none, some (.int x3), some (.int v1)], [.int ((96 : Int32) + v1), .ref 0], s_hg g)) rfl ?_
      obtain ⟨g2, hp, hB⟩ := s_bd hB
      refine s_Fin.cl (d := 0) (q1 := s_m115) (md := 115) (vs := [.ref 0, .int ((96 : Int32) + v1)]) (rest := []) (h1 := s_hg g2) (u := none) (s_Ev.up (by omega) (fC_putTagByte_0_s hp)) rfl rfl rfl rfl ?_
      refine s_Fin.sg 2 (y := (3, [some (.ref 0), some (.long x1), none, some (.int (x3 + (-5 : Int32))), some (.int v1)], [], s_hg g2)) rfl ?_
      have hB := Option.some.inj hB
      subst hB
      exact s_Fin.more (L := [some (.ref 0), some (.long x1), none, some (.int (x3 + (-5 : Int32))), none]) ⟨Or.inr rfl, Or.inr rfl, Or.inl rfl, Or.inr rfl, Or.inl rfl, trivial⟩ hr
    · rw [if_neg hc] at hB
      refine s_Fin.bt (c := v1 ≤ 0) (tg := 31) (p2 := 19) (L1 := [some (.ref 0), some (.long x1), none, some (.int x3), some (.int v1)]) (st1 := []) (Int32.not_lt.mp hc) rfl ?_
      refine s_Fin.sg 2 (y := (3, [some (.ref 0), some (.long x1), none, some (.int (x3 + (-5 : Int32))), some (.int v1)], [], s_hg g)) rfl ?_
      have hB := Option.some.inj hB
      subst hB
      exact s_Fin.more (L := [some (.ref 0), some (.long x1), none, some (.int (x3 + (-5 : Int32))), none]) ⟨Or.inr rfl, Or.inr rfl, Or.inl rfl, Or.inr rfl, Or.inl rfl, trivial⟩ hr
noncomputable def fC_putName_0 (x1 : Int64) (g : s_G) : Option (s_G) :=
  s_lp (fun x => fC_putName_0_3 x1 x.1 x.2) ((30 : Int32), g)
theorem fC_putName_0_s {x1 : Int64} {g : s_G} {z : s_G} (hB : fC_putName_0 x1 g = some z) : s_Ev 1 s_m114 [.ref 0, .long x1] (s_hg g) (none) (s_hg z) := by
  unfold fC_putName_0 at hB
  refine s_Ev.fin ((?_ : ∀ (v : Option Value) (h' : s_H), (fun (z : s_G) (v : Option Value) (h' : s_H) => v = none ∧ h' = s_hg z) z v h' → s_Fin 1 s_m114 (0, s_ent [.ref 0, .long x1] (s_m114).2.2.1, [], s_hg g) v h') _ _ ⟨rfl, rfl⟩)
  intro v h' hr
  refine (show s_Fin 1 s_m114 (0, [some (.ref 0), some (.long x1), none, none, none], [], s_hg g) v h' from ?_)
  refine s_Fin.sg 2 (y := (3, [some (.ref 0), some (.long x1), none, some (.int (30 : Int32)), none], [], s_hg g)) rfl ?_
  exact s_Fin.more (L := [some (.ref 0), some (.long x1), none, some (.int (30 : Int32)), none]) ⟨Or.inr rfl, Or.inr rfl, Or.inl rfl, Or.inr rfl, Or.inl rfl, trivial⟩ (s_lp_s (P := (fun (x : Int32 × s_G) (v : Option Value) (h' : s_H) => s_Fin 1 s_m114 (3, [some (.ref 0), some (.long x1), none, some (.int x.1), none], [], s_hg x.2) v h')) (Q := (fun (z : s_G) (v : Option Value) (h' : s_H) => v = none ∧ h' = s_hg z)) (fun x z hB v h' hr => fC_putName_0_3_s hB hr) hB _ _ hr)
-- CampAshes.putText
noncomputable def fC_putText_0_1300_2 (x2 : Int32) (g : s_G) : Option ((Int32 × s_G) ⊕ (s_G)) :=
  if x2 < (7 : Int32) then (s_b1 (s_ix 7 x2) fun k1 => s_b1 (fC_putTagByte_0 ((s_txs.getD 0 []).getD k1 0) g) fun g3 => some (.inl (x2 + (1 : Int32), g3)))
  else s_in (some g)
theorem fC_putText_0_1300_2_s {x2 : Int32} {g : s_G} {z : (Int32 × s_G) ⊕ (s_G)} (hB : fC_putText_0_1300_2 x2 g = some z) {v : Option Value} {h' : s_H} (hr : (s_sm (fun (x : Int32 × s_G) (v : Option Value) (h' : s_H) => s_Fin 1 s_m116 (2, [some (.ref 0), some (.ref 1300), some (.int x.1)], [], s_hg x.2) v h') (fun (z : s_G) (v : Option Value) (h' : s_H) => v = none ∧ h' = s_hg z)) z v h') : s_Fin 1 s_m116 (2, [some (.ref 0), some (.ref 1300), some (.int x2)], [], s_hg g) v h' := by
  unfold fC_putText_0_1300_2 at hB
  refine s_Fin.sg 3 (y := (7, [some (.ref 0), some (.ref 1300), some (.int x2)], [.int (7 : Int32), .int x2], s_hg g)) rfl ?_
  by_cases hc : x2 < (7 : Int32)
  · rw [if_pos hc] at hB
    refine s_Fin.bf (c := (7 : Int32) ≤ x2) (tg := 25) (p2 := 7) (L1 := [some (.ref 0), some (.ref 1300), some (.int x2)]) (st1 := []) (Int32.not_le.mpr hc) rfl ?_
    refine s_Fin.sg 3 (y := (13, [some (.ref 0), some (.ref 1300), some (.int x2)], [.int x2, .ref 1300, .ref 0], s_hg g)) rfl ?_
    obtain ⟨k1, hk, hB⟩ := s_bd hB
    refine s_Fin.ix (n := 7) (i := x2) (pc1 := 16) (L1 := [some (.ref 0), some (.ref 1300), some (.int x2)]) (fun j2 => [.int ((s_txs.getD 0 []).getD j2 0), .ref 0]) (fun j2 => s_hg g) hk rfl rfl ?_
    obtain ⟨g3, hp, hB⟩ := s_bd hB
    refine s_Fin.cl (d := 0) (q1 := s_m115) (md := 115) (vs := [.ref 0, .int ((s_txs.getD 0 []).getD k1 0)]) (rest := []) (h1 := s_hg g3) (u := none) (s_Ev.up (by omega) (fC_putTagByte_0_s hp)) rfl rfl rfl rfl ?_
    refine s_Fin.sg 2 (y := (2, [some (.ref 0), some (.ref 1300), some (.int (x2 + (1 : Int32)))], [], s_hg g3)) rfl ?_
    have hB := Option.some.inj hB
    subst hB
    exact s_Fin.more (L := [some (.ref 0), some (.ref 1300), some (.int (x2 + (1 : Int32)))]) ⟨Or.inr rfl, Or.inr rfl, Or.inr rfl, trivial⟩ hr
  · rw [if_neg hc] at hB
    refine s_Fin.bt (c := (7 : Int32) ≤ x2) (tg := 25) (p2 := 7) (L1 := [some (.ref 0), some (.ref 1300), some (.int x2)]) (st1 := []) (Int32.not_lt.mp hc) rfl ?_
    obtain ⟨_, hN, hz⟩ := s_in_of hB
    subst hz
    have hB := hN
    have hB := Option.some.inj hB
    subst hB
    obtain ⟨rfl, rfl⟩ := hr
    exact s_Fin.rt rfl rfl
noncomputable def fC_putText_0_1300 (g : s_G) : Option (s_G) :=
  s_lp (fun x => fC_putText_0_1300_2 x.1 x.2) ((0 : Int32), g)
theorem fC_putText_0_1300_s {g : s_G} {z : s_G} (hB : fC_putText_0_1300 g = some z) : s_Ev 1 s_m116 [.ref 0, .ref 1300] (s_hg g) (none) (s_hg z) := by
  unfold fC_putText_0_1300 at hB
  refine s_Ev.fin ((?_ : ∀ (v : Option Value) (h' : s_H), (fun (z : s_G) (v : Option Value) (h' : s_H) => v = none ∧ h' = s_hg z) z v h' → s_Fin 1 s_m116 (0, s_ent [.ref 0, .ref 1300] (s_m116).2.2.1, [], s_hg g) v h') _ _ ⟨rfl, rfl⟩)
  intro v h' hr
  refine (show s_Fin 1 s_m116 (0, [some (.ref 0), some (.ref 1300), none], [], s_hg g) v h' from ?_)
  refine s_Fin.sg 2 (y := (2, [some (.ref 0), some (.ref 1300), some (.int (0 : Int32))], [], s_hg g)) rfl ?_
  exact s_Fin.more (L := [some (.ref 0), some (.ref 1300), some (.int (0 : Int32))]) ⟨Or.inr rfl, Or.inr rfl, Or.inr rfl, trivial⟩ (s_lp_s (P := (fun (x : Int32 × s_G) (v : Option Value) (h' : s_H) => s_Fin 1 s_m116 (2, [some (.ref 0), some (.ref 1300), some (.int x.1)], [], s_hg x.2) v h')) (Q := (fun (z : s_G) (v : Option Value) (h' : s_H) => v = none ∧ h' = s_hg z)) (fun x z hB v h' hr => fC_putText_0_1300_2_s hB hr) hB _ _ hr)
-- CampAshes.putDigits
noncomputable def fC_putDigits_0_40 (x1 : Int32) (g : s_G) : Option (s_G) :=
  s_b1 (fC_putTagByte_0 ((48 : Int32) + (x1 - x1 / (10 : Int32) * (10 : Int32))) g) fun g1 => some g1
theorem fC_putDigits_0_40_s {x1 : Int32} {g : s_G} {z : s_G} (hB : fC_putDigits_0_40 x1 g = some z) {v : Option Value} {h' : s_H} (hr : (fun (z : s_G) (v : Option Value) (h' : s_H) => v = none ∧ h' = s_hg z) z v h') : s_Fin 1 s_m117 (40, [some (.ref 0), some (.int x1)], [], s_hg g) v h' := by
  unfold fC_putDigits_0_40 at hB
  refine s_Fin.sg 6 (y := (48, [some (.ref 0), some (.int x1)], [.int ((48 : Int32) + (x1 - x1 / (10 : Int32) * (10 : Int32))), .ref 0], s_hg g)) rfl ?_
  obtain ⟨g1, hp, hB⟩ := s_bd hB
  refine s_Fin.cl (d := 0) (q1 := s_m115) (md := 115) (vs := [.ref 0, .int ((48 : Int32) + (x1 - x1 / (10 : Int32) * (10 : Int32)))]) (rest := []) (h1 := s_hg g1) (u := none) (s_Ev.up (by omega) (fC_putTagByte_0_s hp)) rfl rfl rfl rfl ?_
  have hB := Option.some.inj hB
  subst hB
  obtain ⟨rfl, rfl⟩ := hr
  exact s_Fin.rt rfl rfl
noncomputable def fC_putDigits_0_20 (x1 : Int32) (g : s_G) : Option (s_G) :=
  if x1 < (10 : Int32) then (fC_putDigits_0_40 x1 g)
  else s_b1 (fC_putTagByte_0 ((48 : Int32) + ((x1 / (10 : Int32)) - (x1 / (10 : Int32)) / (10 : Int32) * (10 : Int32))) g) fun g2 => fC_putDigits_0_40 x1 g2
theorem fC_putDigits_0_20_s {x1 : Int32} {g : s_G} {z : s_G} (hB : fC_putDigits_0_20 x1 g = some z) {v : Option Value} {h' : s_H} (hr : (fun (z : s_G) (v : Option Value) (h' : s_H) => v = none ∧ h' = s_hg z) z v h') : s_Fin 1 s_m117 (20, [some (.ref 0), some (.int x1)], [], s_hg g) v h' := by
  unfold fC_putDigits_0_20 at hB
  refine s_Fin.sg 2 (y := (23, [some (.ref 0), some (.int x1)], [.int (10 : Int32), .int x1], s_hg g)) rfl ?_
  by_cases hc : x1 < (10 : Int32)
  · rw [if_pos hc] at hB
    refine s_Fin.bt (c := x1 < (10 : Int32)) (tg := 40) (p2 := 23) (L1 := [some (.ref 0), some (.int x1)]) (st1 := []) hc rfl ?_
    exact s_Fin.more (L := [some (.ref 0), some (.int x1)]) ⟨Or.inr rfl, Or.inr rfl, trivial⟩ (fC_putDigits_0_40_s hB hr)
  · rw [if_neg hc] at hB
    refine s_Fin.bf (c := x1 < (10 : Int32)) (tg := 40) (p2 := 23) (L1 := [some (.ref 0), some (.int x1)]) (st1 := []) hc rfl ?_
    refine s_Fin.sg 8 (y := (37, [some (.ref 0), some (.int x1)], [.int ((48 : Int32) + ((x1 / (10 : Int32)) - (x1 / (10 : Int32)) / (10 : Int32) * (10 : Int32))), .ref 0], s_hg g)) rfl ?_
    obtain ⟨g2, hp, hB⟩ := s_bd hB
    refine s_Fin.cl (d := 0) (q1 := s_m115) (md := 115) (vs := [.ref 0, .int ((48 : Int32) + ((x1 / (10 : Int32)) - (x1 / (10 : Int32)) / (10 : Int32) * (10 : Int32)))]) (rest := []) (h1 := s_hg g2) (u := none) (s_Ev.up (by omega) (fC_putTagByte_0_s hp)) rfl rfl rfl rfl ?_
    exact s_Fin.more (L := [some (.ref 0), some (.int x1)]) ⟨Or.inr rfl, Or.inr rfl, trivial⟩ (fC_putDigits_0_40_s hB hr)
noncomputable def fC_putDigits_0 (x1 : Int32) (g : s_G) : Option (s_G) :=
  if x1 < (100 : Int32) then (fC_putDigits_0_20 x1 g)
  else s_b1 (fC_putTagByte_0 ((48 : Int32) + ((x1 / (100 : Int32)) - (x1 / (100 : Int32)) / (10 : Int32) * (10 : Int32))) g) fun g3 => fC_putDigits_0_20 x1 g3
theorem fC_putDigits_0_s {x1 : Int32} {g : s_G} {z : s_G} (hB : fC_putDigits_0 x1 g = some z) : s_Ev 1 s_m117 [.ref 0, .int x1] (s_hg g) (none) (s_hg z) := by
  unfold fC_putDigits_0 at hB
  refine s_Ev.fin ((?_ : ∀ (v : Option Value) (h' : s_H), (fun (z : s_G) (v : Option Value) (h' : s_H) => v = none ∧ h' = s_hg z) z v h' → s_Fin 1 s_m117 (0, s_ent [.ref 0, .int x1] (s_m117).2.2.1, [], s_hg g) v h') _ _ ⟨rfl, rfl⟩)
  intro v h' hr
  refine (show s_Fin 1 s_m117 (0, [some (.ref 0), some (.int x1)], [], s_hg g) v h' from ?_)
  refine s_Fin.sg 2 (y := (3, [some (.ref 0), some (.int x1)], [.int (100 : Int32), .int x1], s_hg g)) rfl ?_
  by_cases hc : x1 < (100 : Int32)
  · rw [if_pos hc] at hB
    refine s_Fin.bt (c := x1 < (100 : Int32)) (tg := 20) (p2 := 3) (L1 := [some (.ref 0), some (.int x1)]) (st1 := []) hc rfl ?_
    exact s_Fin.more (L := [some (.ref 0), some (.int x1)]) ⟨Or.inr rfl, Or.inr rfl, trivial⟩ (fC_putDigits_0_20_s hB hr)
  · rw [if_neg hc] at hB
    refine s_Fin.bf (c := x1 < (100 : Int32)) (tg := 20) (p2 := 3) (L1 := [some (.ref 0), some (.int x1)]) (st1 := []) hc rfl ?_
    refine s_Fin.sg 8 (y := (17, [some (.ref 0), some (.int x1)], [.int ((48 : Int32) + ((x1 / (100 : Int32)) - (x1 / (100 : Int32)) / (10 : Int32) * (10 : Int32))), .ref 0], s_hg g)) rfl ?_
    obtain ⟨g3, hp, hB⟩ := s_bd hB
    refine s_Fin.cl (d := 0) (q1 := s_m115) (md := 115) (vs := [.ref 0, .int ((48 : Int32) + ((x1 / (100 : Int32)) - (x1 / (100 : Int32)) / (10 : Int32) * (10 : Int32)))]) (rest := []) (h1 := s_hg g3) (u := none) (s_Ev.up (by omega) (fC_putTagByte_0_s hp)) rfl rfl rfl rfl ?_
    exact s_Fin.more (L := [some (.ref 0), some (.int x1)]) ⟨Or.inr rfl, Or.inr rfl, trivial⟩ (fC_putDigits_0_20_s hB hr)
-- CampAshes.putText
noncomputable def fC_putText_0_1301_2 (x2 : Int32) (g : s_G) : Option ((Int32 × s_G) ⊕ (s_G)) :=
  if x2 < (4 : Int32) then (s_b1 (s_ix 4 x2) fun k1 => s_b1 (fC_putTagByte_0 ((s_txs.getD 1 []).getD k1 0) g) fun g3 => some (.inl (x2 + (1 : Int32), g3)))
  else s_in (some g)
theorem fC_putText_0_1301_2_s {x2 : Int32} {g : s_G} {z : (Int32 × s_G) ⊕ (s_G)} (hB : fC_putText_0_1301_2 x2 g = some z) {v : Option Value} {h' : s_H} (hr : (s_sm (fun (x : Int32 × s_G) (v : Option Value) (h' : s_H) => s_Fin 1 s_m116 (2, [some (.ref 0), some (.ref 1301), some (.int x.1)], [], s_hg x.2) v h') (fun (z : s_G) (v : Option Value) (h' : s_H) => v = none ∧ h' = s_hg z)) z v h') : s_Fin 1 s_m116 (2, [some (.ref 0), some (.ref 1301), some (.int x2)], [], s_hg g) v h' := by
  unfold fC_putText_0_1301_2 at hB
  refine s_Fin.sg 3 (y := (7, [some (.ref 0), some (.ref 1301), some (.int x2)], [.int (4 : Int32), .int x2], s_hg g)) rfl ?_
  by_cases hc : x2 < (4 : Int32)
  · rw [if_pos hc] at hB
    refine s_Fin.bf (c := (4 : Int32) ≤ x2) (tg := 25) (p2 := 7) (L1 := [some (.ref 0), some (.ref 1301), some (.int x2)]) (st1 := []) (Int32.not_le.mpr hc) rfl ?_
    refine s_Fin.sg 3 (y := (13, [some (.ref 0), some (.ref 1301), some (.int x2)], [.int x2, .ref 1301, .ref 0], s_hg g)) rfl ?_
    obtain ⟨k1, hk, hB⟩ := s_bd hB
    refine s_Fin.ix (n := 4) (i := x2) (pc1 := 16) (L1 := [some (.ref 0), some (.ref 1301), some (.int x2)]) (fun j2 => [.int ((s_txs.getD 1 []).getD j2 0), .ref 0]) (fun j2 => s_hg g) hk rfl rfl ?_
    obtain ⟨g3, hp, hB⟩ := s_bd hB
    refine s_Fin.cl (d := 0) (q1 := s_m115) (md := 115) (vs := [.ref 0, .int ((s_txs.getD 1 []).getD k1 0)]) (rest := []) (h1 := s_hg g3) (u := none) (s_Ev.up (by omega) (fC_putTagByte_0_s hp)) rfl rfl rfl rfl ?_
    refine s_Fin.sg 2 (y := (2, [some (.ref 0), some (.ref 1301), some (.int (x2 + (1 : Int32)))], [], s_hg g3)) rfl ?_
    have hB := Option.some.inj hB
    subst hB
    exact s_Fin.more (L := [some (.ref 0), some (.ref 1301), some (.int (x2 + (1 : Int32)))]) ⟨Or.inr rfl, Or.inr rfl, Or.inr rfl, trivial⟩ hr
  · rw [if_neg hc] at hB
    refine s_Fin.bt (c := (4 : Int32) ≤ x2) (tg := 25) (p2 := 7) (L1 := [some (.ref 0), some (.ref 1301), some (.int x2)]) (st1 := []) (Int32.not_lt.mp hc) rfl ?_
    obtain ⟨_, hN, hz⟩ := s_in_of hB
    subst hz
    have hB := hN
    have hB := Option.some.inj hB
    subst hB
    obtain ⟨rfl, rfl⟩ := hr
    exact s_Fin.rt rfl rfl
noncomputable def fC_putText_0_1301 (g : s_G) : Option (s_G) :=
  s_lp (fun x => fC_putText_0_1301_2 x.1 x.2) ((0 : Int32), g)
theorem fC_putText_0_1301_s {g : s_G} {z : s_G} (hB : fC_putText_0_1301 g = some z) : s_Ev 1 s_m116 [.ref 0, .ref 1301] (s_hg g) (none) (s_hg z) := by
  unfold fC_putText_0_1301 at hB
  refine s_Ev.fin ((?_ : ∀ (v : Option Value) (h' : s_H), (fun (z : s_G) (v : Option Value) (h' : s_H) => v = none ∧ h' = s_hg z) z v h' → s_Fin 1 s_m116 (0, s_ent [.ref 0, .ref 1301] (s_m116).2.2.1, [], s_hg g) v h') _ _ ⟨rfl, rfl⟩)
  intro v h' hr
  refine (show s_Fin 1 s_m116 (0, [some (.ref 0), some (.ref 1301), none], [], s_hg g) v h' from ?_)
  refine s_Fin.sg 2 (y := (2, [some (.ref 0), some (.ref 1301), some (.int (0 : Int32))], [], s_hg g)) rfl ?_
  exact s_Fin.more (L := [some (.ref 0), some (.ref 1301), some (.int (0 : Int32))]) ⟨Or.inr rfl, Or.inr rfl, Or.inr rfl, trivial⟩ (s_lp_s (P := (fun (x : Int32 × s_G) (v : Option Value) (h' : s_H) => s_Fin 1 s_m116 (2, [some (.ref 0), some (.ref 1301), some (.int x.1)], [], s_hg x.2) v h')) (Q := (fun (z : s_G) (v : Option Value) (h' : s_H) => v = none ∧ h' = s_hg z)) (fun x z hB v h' hr => fC_putText_0_1301_2_s hB hr) hB _ _ hr)
-- CampAshes.putText
noncomputable def fC_putText_0_1302_2 (x2 : Int32) (g : s_G) : Option ((Int32 × s_G) ⊕ (s_G)) :=
  if x2 < (6 : Int32) then (s_b1 (s_ix 6 x2) fun k1 => s_b1 (fC_putTagByte_0 ((s_txs.getD 2 []).getD k1 0) g) fun g3 => some (.inl (x2 + (1 : Int32), g3)))
  else s_in (some g)
theorem fC_putText_0_1302_2_s {x2 : Int32} {g : s_G} {z : (Int32 × s_G) ⊕ (s_G)} (hB : fC_putText_0_1302_2 x2 g = some z) {v : Option Value} {h' : s_H} (hr : (s_sm (fun (x : Int32 × s_G) (v : Option Value) (h' : s_H) => s_Fin 1 s_m116 (2, [some (.ref 0), some (.ref 1302), some (.int x.1)], [], s_hg x.2) v h') (fun (z : s_G) (v : Option Value) (h' : s_H) => v = none ∧ h' = s_hg z)) z v h') : s_Fin 1 s_m116 (2, [some (.ref 0), some (.ref 1302), some (.int x2)], [], s_hg g) v h' := by
  unfold fC_putText_0_1302_2 at hB
  refine s_Fin.sg 3 (y := (7, [some (.ref 0), some (.ref 1302), some (.int x2)], [.int (6 : Int32), .int x2], s_hg g)) rfl ?_
  by_cases hc : x2 < (6 : Int32)
  · rw [if_pos hc] at hB
    refine s_Fin.bf (c := (6 : Int32) ≤ x2) (tg := 25) (p2 := 7) (L1 := [some (.ref 0), some (.ref 1302), some (.int x2)]) (st1 := []) (Int32.not_le.mpr hc) rfl ?_
    refine s_Fin.sg 3 (y := (13, [some (.ref 0), some (.ref 1302), some (.int x2)], [.int x2, .ref 1302, .ref 0], s_hg g)) rfl ?_
    obtain ⟨k1, hk, hB⟩ := s_bd hB
    refine s_Fin.ix (n := 6) (i := x2) (pc1 := 16) (L1 := [some (.ref 0), some (.ref 1302), some (.int x2)]) (fun j2 => [.int ((s_txs.getD 2 []).getD j2 0), .ref 0]) (fun j2 => s_hg g) hk rfl rfl ?_
    obtain ⟨g3, hp, hB⟩ := s_bd hB
    refine s_Fin.cl (d := 0) (q1 := s_m115) (md := 115) (vs := [.ref 0, .int ((s_txs.getD 2 []).getD k1 0)]) (rest := []) (h1 := s_hg g3) (u := none) (s_Ev.up (by omega) (fC_putTagByte_0_s hp)) rfl rfl rfl rfl ?_
    refine s_Fin.sg 2 (y := (2, [some (.ref 0), some (.ref 1302), some (.int (x2 + (1 : Int32)))], [], s_hg g3)) rfl ?_
    have hB := Option.some.inj hB
    subst hB
    exact s_Fin.more (L := [some (.ref 0), some (.ref 1302), some (.int (x2 + (1 : Int32)))]) ⟨Or.inr rfl, Or.inr rfl, Or.inr rfl, trivial⟩ hr
  · rw [if_neg hc] at hB
    refine s_Fin.bt (c := (6 : Int32) ≤ x2) (tg := 25) (p2 := 7) (L1 := [some (.ref 0), some (.ref 1302), some (.int x2)]) (st1 := []) (Int32.not_lt.mp hc) rfl ?_
    obtain ⟨_, hN, hz⟩ := s_in_of hB
    subst hz
    have hB := hN
    have hB := Option.some.inj hB
    subst hB
    obtain ⟨rfl, rfl⟩ := hr
    exact s_Fin.rt rfl rfl
noncomputable def fC_putText_0_1302 (g : s_G) : Option (s_G) :=
  s_lp (fun x => fC_putText_0_1302_2 x.1 x.2) ((0 : Int32), g)
theorem fC_putText_0_1302_s {g : s_G} {z : s_G} (hB : fC_putText_0_1302 g = some z) : s_Ev 1 s_m116 [.ref 0, .ref 1302] (s_hg g) (none) (s_hg z) := by
  unfold fC_putText_0_1302 at hB
  refine s_Ev.fin ((?_ : ∀ (v : Option Value) (h' : s_H), (fun (z : s_G) (v : Option Value) (h' : s_H) => v = none ∧ h' = s_hg z) z v h' → s_Fin 1 s_m116 (0, s_ent [.ref 0, .ref 1302] (s_m116).2.2.1, [], s_hg g) v h') _ _ ⟨rfl, rfl⟩)
  intro v h' hr
  refine (show s_Fin 1 s_m116 (0, [some (.ref 0), some (.ref 1302), none], [], s_hg g) v h' from ?_)
  refine s_Fin.sg 2 (y := (2, [some (.ref 0), some (.ref 1302), some (.int (0 : Int32))], [], s_hg g)) rfl ?_
  exact s_Fin.more (L := [some (.ref 0), some (.ref 1302), some (.int (0 : Int32))]) ⟨Or.inr rfl, Or.inr rfl, Or.inr rfl, trivial⟩ (s_lp_s (P := (fun (x : Int32 × s_G) (v : Option Value) (h' : s_H) => s_Fin 1 s_m116 (2, [some (.ref 0), some (.ref 1302), some (.int x.1)], [], s_hg x.2) v h')) (Q := (fun (z : s_G) (v : Option Value) (h' : s_H) => v = none ∧ h' = s_hg z)) (fun x z hB v h' hr => fC_putText_0_1302_2_s hB hr) hB _ _ hr)
-- CampAshes.tag
noncomputable def fC_tag_0 (x1 : Int32) (g : s_G) : Option (Int32 × s_G) :=
  s_b1 (fP_hasBoy_3 x1 g) fun v1 => if v1 = 0 then (some ((-1 : Int32), g))
  else s_b1 (s_ix 17 x1) fun k3 => s_b1 (fC_putName_0 (g.2.1 4 k3) (s_si g 0 15 (0 : Int32))) fun g4 => s_b1 (fC_putText_0_1300 g4) fun g5 => s_b1 (s_ix 7 x1) fun k7 => s_b1 (fC_putDigits_0 (g5.1 19 k7) g5) fun g8 => s_b1 (fC_putText_0_1301 g8) fun g9 => s_b1 (fC_putDigits_0 (g9.1 5 k7) g9) fun g11 => s_b1 (fT_isOver_17 x1 g11) fun v12 => if v12 = 0 then (some (g11.1 0 15, g11))
  else s_b1 (fC_putText_0_1302 g11) fun g13 => some (g13.1 0 15, g13)
theorem fC_tag_0_s {x1 : Int32} {g : s_G} {z : Int32 × s_G} (hB : fC_tag_0 x1 g = some z) : s_Ev 2 s_m113 [.ref 0, .int x1] (s_hg g) (some (.int z.1)) (s_hg z.2) := by
  unfold fC_tag_0 at hB
  refine s_Ev.fin ((?_ : ∀ (v : Option Value) (h' : s_H), (fun (z : Int32 × s_G) (v : Option Value) (h' : s_H) => v = some (.int z.1) ∧ h' = s_hg z.2) z v h' → s_Fin 2 s_m113 (0, s_ent [.ref 0, .int x1] (s_m113).2.2.1, [], s_hg g) v h') _ _ ⟨rfl, rfl⟩)
  intro v h' hr
  refine (show s_Fin 2 s_m113 (0, [some (.ref 0), some (.int x1)], [], s_hg g) v h' from ?_)
  refine s_Fin.sg 3 (y := (5, [some (.ref 0), some (.int x1)], [.int x1, .ref 3], s_hg g)) rfl ?_
  obtain ⟨v1, hp, hB⟩ := s_bd hB
  refine s_Fin.cl (d := 1) (q1 := s_m49) (md := 49) (vs := [.ref 3, .int x1]) (rest := []) (h1 := s_hg g) (u := some (.int v1)) (s_Ev.up (by omega) (fP_hasBoy_3_s hp)) rfl rfl rfl rfl ?_
  by_cases hc : v1 = 0
  · rw [if_pos hc] at hB
    refine s_Fin.bf (c := ¬ v1 = 0) (tg := 13) (p2 := 8) (L1 := [some (.ref 0), some (.int x1)]) (st1 := []) (fun h => h hc) rfl ?_
    refine s_Fin.sg 1 (y := (12, [some (.ref 0), some (.int x1)], [.int (-1 : Int32)], s_hg g)) rfl ?_
    have hB := Option.some.inj hB
    subst hB
    obtain ⟨rfl, rfl⟩ := hr
    exact s_Fin.rt rfl rfl
  · rw [if_neg hc] at hB
    refine s_Fin.bt (c := ¬ v1 = 0) (tg := 13) (p2 := 8) (L1 := [some (.ref 0), some (.int x1)]) (st1 := []) hc rfl ?_
    refine s_Fin.sg 8 (y := (27, [some (.ref 0), some (.int x1)], [.int x1, .ref 4, .ref 0], s_hg (s_si g 0 15 (0 : Int32)))) rfl ?_
    obtain ⟨k3, hk3, hB⟩ := s_bd hB
    refine s_Fin.ix (n := 17) (i := x1) (pc1 := 28) (L1 := [some (.ref 0), some (.int x1)]) (fun j2 => [.long (g.2.1 4 j2), .ref 0]) (fun j2 => s_hg (s_si g 0 15 (0 : Int32))) hk3 rfl rfl ?_
    obtain ⟨g4, hp, hB⟩ := s_bd hB
    refine s_Fin.cl (d := 1) (q1 := s_m114) (md := 114) (vs := [.ref 0, .long (g.2.1 4 k3)]) (rest := []) (h1 := s_hg g4) (u := none) (s_Ev.up (by omega) (fC_putName_0_s hp)) rfl rfl rfl rfl ?_
    refine s_Fin.sg 2 (y := (35, [some (.ref 0), some (.int x1)], [.ref 1300, .ref 0], s_hg g4)) rfl ?_
    obtain ⟨g5, hp, hB⟩ := s_bd hB
    refine s_Fin.cl (d := 1) (q1 := s_m116) (md := 116) (vs := [.ref 0, .ref 1300]) (rest := []) (h1 := s_hg g5) (u := none) (s_Ev.up (by omega) (fC_putText_0_1300_s hp)) rfl rfl rfl rfl ?_
    refine s_Fin.sg 5 (y := (47, [some (.ref 0), some (.int x1)], [.int x1, .ref 19, .ref 0], s_hg g5)) rfl ?_
    obtain ⟨k7, hk7, hB⟩ := s_bd hB
    refine s_Fin.ix (n := 7) (i := x1) (pc1 := 48) (L1 := [some (.ref 0), some (.int x1)]) (fun j6 => [.int (g5.1 19 j6), .ref 0]) (fun j6 => s_hg g5) hk7 rfl rfl ?_
    obtain ⟨g8, hp, hB⟩ := s_bd hB
    refine s_Fin.cl (d := 1) (q1 := s_m117) (md := 117) (vs := [.ref 0, .int (g5.1 19 k7)]) (rest := []) (h1 := s_hg g8) (u := none) (s_Ev.up (by omega) (fC_putDigits_0_s hp)) rfl rfl rfl rfl ?_
    refine s_Fin.sg 2 (y := (55, [some (.ref 0), some (.int x1)], [.ref 1301, .ref 0], s_hg g8)) rfl ?_
    obtain ⟨g9, hp, hB⟩ := s_bd hB
    refine s_Fin.cl (d := 1) (q1 := s_m116) (md := 116) (vs := [.ref 0, .ref 1301]) (rest := []) (h1 := s_hg g9) (u := none) (s_Ev.up (by omega) (fC_putText_0_1301_s hp)) rfl rfl rfl rfl ?_
    refine s_Fin.sg 5 (y := (67, [some (.ref 0), some (.int x1)], [.int x1, .ref 5, .ref 0], s_hg g9)) rfl ?_
    refine s_Fin.ix (n := 7) (i := x1) (pc1 := 68) (L1 := [some (.ref 0), some (.int x1)]) (fun j10 => [.int (g9.1 5 j10), .ref 0]) (fun j10 => s_hg g9) hk7 rfl rfl ?_
    obtain ⟨g11, hp, hB⟩ := s_bd hB
    refine s_Fin.cl (d := 1) (q1 := s_m117) (md := 117) (vs := [.ref 0, .int (g9.1 5 k7)]) (rest := []) (h1 := s_hg g11) (u := none) (s_Ev.up (by omega) (fC_putDigits_0_s hp)) rfl rfl rfl rfl ?_
    refine s_Fin.sg 3 (y := (76, [some (.ref 0), some (.int x1)], [.int x1, .ref 17], s_hg g11)) rfl ?_
    obtain ⟨v12, hp, hB⟩ := s_bd hB
    refine s_Fin.cl (d := 1) (q1 := s_m59) (md := 59) (vs := [.ref 17, .int x1]) (rest := []) (h1 := s_hg g11) (u := some (.int v12)) (s_Ev.up (by omega) (fT_isOver_17_s hp)) rfl rfl rfl rfl ?_
    by_cases hc : v12 = 0
    · rw [if_pos hc] at hB
      refine s_Fin.bt (c := v12 = 0) (tg := 89) (p2 := 79) (L1 := [some (.ref 0), some (.int x1)]) (st1 := []) hc rfl ?_
      refine s_Fin.sg 2 (y := (93, [some (.ref 0), some (.int x1)], [.int (g11.1 0 15)], s_hg g11)) rfl ?_
      have hB := Option.some.inj hB
      subst hB
      obtain ⟨rfl, rfl⟩ := hr
      exact s_Fin.rt rfl rfl
    · rw [if_neg hc] at hB
      refine s_Fin.bf (c := v12 = 0) (tg := 89) (p2 := 79) (L1 := [some (.ref 0), some (.int x1)]) (st1 := []) hc rfl ?_
      refine s_Fin.sg 2 (y := (86, [some (.ref 0), some (.int x1)], [.ref 1302, .ref 0], s_hg g11)) rfl ?_
      obtain ⟨g13, hp, hB⟩ := s_bd hB
      refine s_Fin.cl (d := 1) (q1 := s_m116) (md := 116) (vs := [.ref 0, .ref 1302]) (rest := []) (h1 := s_hg g13) (u := none) (s_Ev.up (by omega) (fC_putText_0_1302_s hp)) rfl rfl rfl rfl ?_
      refine s_Fin.sg 2 (y := (93, [some (.ref 0), some (.int x1)], [.int (g13.1 0 15)], s_hg g13)) rfl ?_
      have hB := Option.some.inj hB
      subst hB
      obtain ⟨rfl, rfl⟩ := hr
      exact s_Fin.rt rfl rfl
-- CampAshesModel.byteAt
noncomputable def fM_byteAt_130 (x1 : Int32) (g : s_G) : Option (Int32 × s_G) :=
  s_b1 (fM_isIn_s x1 (0 : Int32) ((g.1 130 37) - (1 : Int32)) (s_si g 130 0 (0 : Int32))) fun v1 => if v1 = 0 then (some ((-1 : Int32), (s_si g 130 0 (0 : Int32))))
  else s_b1 (s_ix 64 x1) fun k3 => some (g.1 148 k3, (s_si g 130 0 (0 : Int32)))
theorem fM_byteAt_130_s {x1 : Int32} {g : s_G} {z : Int32 × s_G} (hB : fM_byteAt_130 x1 g = some z) : s_Ev 1 s_m253 [.ref 130, .int x1] (s_hg g) (some (.int z.1)) (s_hg z.2) := by
  unfold fM_byteAt_130 at hB
  refine s_Ev.fin ((?_ : ∀ (v : Option Value) (h' : s_H), (fun (z : Int32 × s_G) (v : Option Value) (h' : s_H) => v = some (.int z.1) ∧ h' = s_hg z.2) z v h' → s_Fin 1 s_m253 (0, s_ent [.ref 130, .int x1] (s_m253).2.2.1, [], s_hg g) v h') _ _ ⟨rfl, rfl⟩)
  intro v h' hr
  refine (show s_Fin 1 s_m253 (0, [some (.ref 130), some (.int x1)], [], s_hg g) v h' from ?_)
  refine s_Fin.sg 9 (y := (13, [some (.ref 130), some (.int x1)], [.int ((g.1 130 37) - (1 : Int32)), .int (0 : Int32), .int x1], s_hg (s_si g 130 0 (0 : Int32)))) rfl ?_
  obtain ⟨v1, hp, hB⟩ := s_bd hB
  refine s_Fin.cl (d := 0) (q1 := s_m181) (md := 181) (vs := [.int x1, .int (0 : Int32), .int ((g.1 130 37) - (1 : Int32))]) (rest := []) (h1 := s_hg (s_si g 130 0 (0 : Int32))) (u := some (.int v1)) (s_Ev.up (by omega) (fM_isIn_s_s hp)) rfl rfl rfl rfl ?_
  by_cases hc : v1 = 0
  · rw [if_pos hc] at hB
    refine s_Fin.bt (c := v1 = 0) (tg := 28) (p2 := 16) (L1 := [some (.ref 130), some (.int x1)]) (st1 := []) hc rfl ?_
    refine s_Fin.sg 1 (y := (29, [some (.ref 130), some (.int x1)], [.int (-1 : Int32)], s_hg (s_si g 130 0 (0 : Int32)))) rfl ?_
    have hB := Option.some.inj hB
    subst hB
    obtain ⟨rfl, rfl⟩ := hr
    exact s_Fin.rt rfl rfl
  · rw [if_neg hc] at hB
    refine s_Fin.bf (c := v1 = 0) (tg := 28) (p2 := 16) (L1 := [some (.ref 130), some (.int x1)]) (st1 := []) hc rfl ?_
    refine s_Fin.sg 3 (y := (24, [some (.ref 130), some (.int x1)], [.int x1, .ref 148], s_hg (s_si g 130 0 (0 : Int32)))) rfl ?_
    obtain ⟨k3, hk3, hB⟩ := s_bd hB
    refine s_Fin.ix (n := 64) (i := x1) (pc1 := 25) (L1 := [some (.ref 130), some (.int x1)]) (fun j2 => [.int (g.1 148 j2)]) (fun j2 => s_hg (s_si g 130 0 (0 : Int32))) hk3 rfl rfl ?_
    refine s_Fin.sg 1 (y := (29, [some (.ref 130), some (.int x1)], [.int (g.1 148 k3)], s_hg (s_si g 130 0 (0 : Int32)))) rfl ?_
    have hB := Option.some.inj hB
    subst hB
    obtain ⟨rfl, rfl⟩ := hr
    exact s_Fin.rt rfl rfl
-- CampAshes.byteAt
noncomputable def fC_byteAt_0 (x1 : Int32) (g : s_G) : Option (Int32) :=
  if x1 < 0 then (some (-1 : Int32))
  else if x1 < (g.1 0 15) then (s_b1 (s_ix 64 x1) fun k2 => some (g.1 129 k2))
  else some (-1 : Int32)
theorem fC_byteAt_0_s {x1 : Int32} {g : s_G} {z : Int32} (hB : fC_byteAt_0 x1 g = some z) : s_Ev 0 s_m118 [.ref 0, .int x1] (s_hg g) (some (.int z)) (s_hg g) := by
  unfold fC_byteAt_0 at hB
  refine s_Ev.fin ((?_ : ∀ (v : Option Value) (h' : s_H), (fun (z : Int32) (v : Option Value) (h' : s_H) => v = some (.int z) ∧ h' = s_hg g) z v h' → s_Fin 0 s_m118 (0, s_ent [.ref 0, .int x1] (s_m118).2.2.1, [], s_hg g) v h') _ _ ⟨rfl, rfl⟩)
  intro v h' hr
  refine (show s_Fin 0 s_m118 (0, [some (.ref 0), some (.int x1)], [], s_hg g) v h' from ?_)
  refine s_Fin.sg 1 (y := (1, [some (.ref 0), some (.int x1)], [.int x1], s_hg g)) rfl ?_
  by_cases hc : x1 < 0
  · rw [if_pos hc] at hB
    refine s_Fin.bt (c := x1 < 0) (tg := 21) (p2 := 1) (L1 := [some (.ref 0), some (.int x1)]) (st1 := []) hc rfl ?_
    refine s_Fin.sg 1 (y := (22, [some (.ref 0), some (.int x1)], [.int (-1 : Int32)], s_hg g)) rfl ?_
    have hB := Option.some.inj hB
    subst hB
    obtain ⟨rfl, rfl⟩ := hr
    exact s_Fin.rt rfl rfl
  · rw [if_neg hc] at hB
    refine s_Fin.bf (c := x1 < 0) (tg := 21) (p2 := 1) (L1 := [some (.ref 0), some (.int x1)]) (st1 := []) hc rfl ?_
    refine s_Fin.sg 3 (y := (9, [some (.ref 0), some (.int x1)], [.int (g.1 0 15), .int x1], s_hg g)) rfl ?_
    by_cases hc : x1 < (g.1 0 15)
    · rw [if_pos hc] at hB
      refine s_Fin.bf (c := (g.1 0 15) ≤ x1) (tg := 21) (p2 := 9) (L1 := [some (.ref 0), some (.int x1)]) (st1 := []) (Int32.not_le.mpr hc) rfl ?_
      refine s_Fin.sg 3 (y := (17, [some (.ref 0), some (.int x1)], [.int x1, .ref 129], s_hg g)) rfl ?_
      obtain ⟨k2, hk2, hB⟩ := s_bd hB
      refine s_Fin.ix (n := 64) (i := x1) (pc1 := 18) (L1 := [some (.ref 0), some (.int x1)]) (fun j1 => [.int (g.1 129 j1)]) (fun j1 => s_hg g) hk2 rfl rfl ?_
      refine s_Fin.sg 1 (y := (22, [some (.ref 0), some (.int x1)], [.int (g.1 129 k2)], s_hg g)) rfl ?_
      have hB := Option.some.inj hB
      subst hB
      obtain ⟨rfl, rfl⟩ := hr
      exact s_Fin.rt rfl rfl
    · rw [if_neg hc] at hB
      refine s_Fin.bt (c := (g.1 0 15) ≤ x1) (tg := 21) (p2 := 9) (L1 := [some (.ref 0), some (.int x1)]) (st1 := []) (Int32.not_lt.mp hc) rfl ?_
      refine s_Fin.sg 1 (y := (22, [some (.ref 0), some (.int x1)], [.int (-1 : Int32)], s_hg g)) rfl ?_
      have hB := Option.some.inj hB
      subst hB
      obtain ⟨rfl, rfl⟩ := hr
      exact s_Fin.rt rfl rfl
-- CampAshesModel.draw
noncomputable def fM_draw_130 (x1 : Int32) (g : s_G) : Option (Int32 × s_G) :=
  if x1 = 0 then none else some ((((((g.1 130 38) * (1103515245 : Int32)) + (12345 : Int32)).toUInt32 >>> ((8 : Int32).toUInt32 &&& Int32.toUInt32 31)).toInt32) - (((((g.1 130 38) * (1103515245 : Int32)) + (12345 : Int32)).toUInt32 >>> ((8 : Int32).toUInt32 &&& Int32.toUInt32 31)).toInt32) / x1 * x1, (s_si g 130 38 (((g.1 130 38) * (1103515245 : Int32)) + (12345 : Int32))))
theorem fM_draw_130_s {x1 : Int32} {g : s_G} {z : Int32 × s_G} (hB : fM_draw_130 x1 g = some z) : s_Ev 0 s_m256 [.ref 130, .int x1] (s_hg g) (some (.int z.1)) (s_hg z.2) := by
  unfold fM_draw_130 at hB
  refine s_Ev.fin ((?_ : ∀ (v : Option Value) (h' : s_H), (fun (z : Int32 × s_G) (v : Option Value) (h' : s_H) => v = some (.int z.1) ∧ h' = s_hg z.2) z v h' → s_Fin 0 s_m256 (0, s_ent [.ref 130, .int x1] (s_m256).2.2.1, [], s_hg g) v h') _ _ ⟨rfl, rfl⟩)
  intro v h' hr
  refine (show s_Fin 0 s_m256 (0, [some (.ref 130), some (.int x1)], [], s_hg g) v h' from ?_)
  refine s_Fin.sg 13 (y := (24, [some (.ref 130), some (.int x1)], [.int x1, .int (((((g.1 130 38) * (1103515245 : Int32)) + (12345 : Int32)).toUInt32 >>> ((8 : Int32).toUInt32 &&& Int32.toUInt32 31)).toInt32)], s_hg (s_si g 130 38 (((g.1 130 38) * (1103515245 : Int32)) + (12345 : Int32))))) rfl ?_
  have hc : ¬ x1 = 0 := fun h => (by rw [if_pos h] at hB; cases hB)
  rw [if_neg hc] at hB
  refine s_Fin.gd (c := x1 = 0) (pc1 := 25) (L1 := [some (.ref 130), some (.int x1)]) (st1 := [.int ((((((g.1 130 38) * (1103515245 : Int32)) + (12345 : Int32)).toUInt32 >>> ((8 : Int32).toUInt32 &&& Int32.toUInt32 31)).toInt32) - (((((g.1 130 38) * (1103515245 : Int32)) + (12345 : Int32)).toUInt32 >>> ((8 : Int32).toUInt32 &&& Int32.toUInt32 31)).toInt32) / x1 * x1)]) (h1 := s_hg (s_si g 130 38 (((g.1 130 38) * (1103515245 : Int32)) + (12345 : Int32)))) hc rfl rfl ?_
  have hB := Option.some.inj hB
  subst hB
  obtain ⟨rfl, rfl⟩ := hr
  exact s_Fin.rt rfl rfl
-- CampAshesModel.drawsFor
noncomputable def fM_drawsFor_130 (x1 : Int32) (g : s_G) : Option (s_G) :=
  s_b2 (fM_draw_130 (4 : Int32) g) fun v2 g1 => if v2 = (3 : Int32) then (some g1)
  else if (g1.1 132 1) = 0 then (some g1)
  else s_b2 (fM_draw_130 (g1.1 132 1) g1) fun v4 g3 => s_b1 (fM_whySay_130 x1 v4 g3) fun v5 => if v5 = 0 then (if v2 = (2 : Int32) then (s_b1 (fM_live_130 (1 : Int32) x1 v4 (0 : Int32) (0 : Int32) g3) fun g6 => some g6)
  else s_b1 (fM_live_130 (0 : Int32) x1 v4 (0 : Int32) (0 : Int32) g3) fun g7 => some g7)
  else some g3
theorem fM_drawsFor_130_s {x1 : Int32} {g : s_G} {z : s_G} (hB : fM_drawsFor_130 x1 g = some z) : s_Ev 3 s_m257 [.ref 130, .int x1] (s_hg g) (none) (s_hg z) := by
  unfold fM_drawsFor_130 at hB
  refine s_Ev.fin ((?_ : ∀ (v : Option Value) (h' : s_H), (fun (z : s_G) (v : Option Value) (h' : s_H) => v = none ∧ h' = s_hg z) z v h' → s_Fin 3 s_m257 (0, s_ent [.ref 130, .int x1] (s_m257).2.2.1, [], s_hg g) v h') _ _ ⟨rfl, rfl⟩)
  intro v h' hr
  refine (show s_Fin 3 s_m257 (0, [some (.ref 130), some (.int x1), none, none], [], s_hg g) v h' from ?_)
  refine s_Fin.sg 2 (y := (2, [some (.ref 130), some (.int x1), none, none], [.int (4 : Int32), .ref 130], s_hg g)) rfl ?_
  obtain ⟨v2, g1, hp, hB⟩ := s_bd2 hB
  refine s_Fin.cl (d := 2) (q1 := s_m256) (md := 256) (vs := [.ref 130, .int (4 : Int32)]) (rest := []) (h1 := s_hg g1) (u := some (.int v2)) (s_Ev.up (by omega) (fM_draw_130_s hp)) rfl rfl rfl rfl ?_
  refine s_Fin.sg 3 (y := (8, [some (.ref 130), some (.int x1), some (.int v2), none], [.int (3 : Int32), .int v2], s_hg g1)) rfl ?_
  by_cases hc : v2 = (3 : Int32)
  · rw [if_pos hc] at hB
    refine s_Fin.bt (c := v2 = (3 : Int32)) (tg := 20) (p2 := 8) (L1 := [some (.ref 130), some (.int x1), some (.int v2), none]) (st1 := []) hc rfl ?_
    have hB := Option.some.inj hB
    subst hB
    obtain ⟨rfl, rfl⟩ := hr
    exact s_Fin.rt rfl rfl
  · rw [if_neg hc] at hB
    refine s_Fin.bf (c := v2 = (3 : Int32)) (tg := 20) (p2 := 8) (L1 := [some (.ref 130), some (.int x1), some (.int v2), none]) (st1 := []) hc rfl ?_
    refine s_Fin.sg 4 (y := (17, [some (.ref 130), some (.int x1), some (.int v2), none], [.int (g1.1 132 1)], s_hg g1)) rfl ?_
    by_cases hc : (g1.1 132 1) = 0
    · rw [if_pos hc] at hB
      refine s_Fin.bf (c := ¬ (g1.1 132 1) = 0) (tg := 21) (p2 := 17) (L1 := [some (.ref 130), some (.int x1), some (.int v2), none]) (st1 := []) (fun h => h hc) rfl ?_
      have hB := Option.some.inj hB
      subst hB
      obtain ⟨rfl, rfl⟩ := hr
      exact s_Fin.rt rfl rfl
    · rw [if_neg hc] at hB
      refine s_Fin.bt (c := ¬ (g1.1 132 1) = 0) (tg := 21) (p2 := 17) (L1 := [some (.ref 130), some (.int x1), some (.int v2), none]) (st1 := []) hc rfl ?_
      refine s_Fin.sg 5 (y := (28, [some (.ref 130), some (.int x1), some (.int v2), none], [.int (g1.1 132 1), .ref 130], s_hg g1)) rfl ?_
      obtain ⟨v4, g3, hp, hB⟩ := s_bd2 hB
      refine s_Fin.cl (d := 2) (q1 := s_m256) (md := 256) (vs := [.ref 130, .int (g1.1 132 1)]) (rest := []) (h1 := s_hg g3) (u := some (.int v4)) (s_Ev.up (by omega) (fM_draw_130_s hp)) rfl rfl rfl rfl ?_
      refine s_Fin.sg 4 (y := (35, [some (.ref 130), some (.int x1), some (.int v2), some (.int v4)], [.int v4, .int x1, .ref 130], s_hg g3)) rfl ?_
      obtain ⟨v5, hp, hB⟩ := s_bd hB
      refine s_Fin.cl (d := 2) (q1 := s_m213) (md := 213) (vs := [.ref 130, .int x1, .int v4]) (rest := []) (h1 := s_hg g3) (u := some (.int v5)) (s_Ev.up (by omega) (fM_whySay_130_s hp)) rfl rfl rfl rfl ?_
      by_cases hc : v5 = 0
      · rw [if_pos hc] at hB
        refine s_Fin.bf (c := ¬ v5 = 0) (tg := 59) (p2 := 38) (L1 := [some (.ref 130), some (.int x1), some (.int v2), some (.int v4)]) (st1 := []) (fun h => h hc) rfl ?_
        refine s_Fin.sg 3 (y := (44, [some (.ref 130), some (.int x1), some (.int v2), some (.int v4)], [.int (2 : Int32), .int v2, .ref 130], s_hg g3)) rfl ?_
        by_cases hc : v2 = (2 : Int32)
        · rw [if_pos hc] at hB
          refine s_Fin.bf (c := ¬ v2 = (2 : Int32)) (tg := 51) (p2 := 44) (L1 := [some (.ref 130), some (.int x1), some (.int v2), some (.int v4)]) (st1 := [.ref 130]) (fun h => h hc) rfl ?_
          refine s_Fin.sg 6 (y := (56, [some (.ref 130), some (.int x1), some (.int v2), some (.int v4)], [.int (0 : Int32), .int (0 : Int32), .int v4, .int x1, .int (1 : Int32), .ref 130], s_hg g3)) rfl ?_
          obtain ⟨g6, hp, hB⟩ := s_bd hB
          refine s_Fin.cl (d := 2) (q1 := s_m215) (md := 215) (vs := [.ref 130, .int (1 : Int32), .int x1, .int v4, .int (0 : Int32), .int (0 : Int32)]) (rest := []) (h1 := s_hg g6) (u := none) (s_Ev.up (by omega) (fM_live_130_s hp)) rfl rfl rfl rfl ?_
          have hB := Option.some.inj hB
          subst hB
          obtain ⟨rfl, rfl⟩ := hr
          exact s_Fin.rt rfl rfl
        · rw [if_neg hc] at hB
          refine s_Fin.bt (c := ¬ v2 = (2 : Int32)) (tg := 51) (p2 := 44) (L1 := [some (.ref 130), some (.int x1), some (.int v2), some (.int v4)]) (st1 := [.ref 130]) hc rfl ?_
          refine s_Fin.sg 5 (y := (56, [some (.ref 130), some (.int x1), some (.int v2), some (.int v4)], [.int (0 : Int32), .int (0 : Int32), .int v4, .int x1, .int (0 : Int32), .ref 130], s_hg g3)) rfl ?_
          obtain ⟨g7, hp, hB⟩ := s_bd hB
          refine s_Fin.cl (d := 2) (q1 := s_m215) (md := 215) (vs := [.ref 130, .int (0 : Int32), .int x1, .int v4, .int (0 : Int32), .int (0 : Int32)]) (rest := []) (h1 := s_hg g7) (u := none) (s_Ev.up (by omega) (fM_live_130_s hp)) rfl rfl rfl rfl ?_
          have hB := Option.some.inj hB
          subst hB
          obtain ⟨rfl, rfl⟩ := hr
          exact s_Fin.rt rfl rfl
      · rw [if_neg hc] at hB
        refine s_Fin.bt (c := ¬ v5 = 0) (tg := 59) (p2 := 38) (L1 := [some (.ref 130), some (.int x1), some (.int v2), some (.int v4)]) (st1 := []) hc rfl ?_
        have hB := Option.some.inj hB
        subst hB
        obtain ⟨rfl, rfl⟩ := hr
        exact s_Fin.rt rfl rfl
-- CampAshesModel.drawDays
noncomputable def fM_drawDays_130_62 (x3 : Int32) (x4 : Int32) (x5 : Int32) (g : s_G) : Option ((Int32 × s_G) ⊕ ((Int32 × s_G) ⊕ (Int32 × s_G))) :=
  if x5 < (g.1 132 0) then (s_b1 (fM_drawsFor_130 x5 g) fun g6 => some (.inl (x5 + (1 : Int32), g6)))
  else s_in (s_b1 (fM_oneDay_130 g) fun g7 => some (.inl (x4 + (1 : Int32), g7)))
theorem fM_drawDays_130_62_s {x3 : Int32} {x4 : Int32} {x5 : Int32} {g : s_G} {z : (Int32 × s_G) ⊕ ((Int32 × s_G) ⊕ (Int32 × s_G))} (hB : fM_drawDays_130_62 x3 x4 x5 g = some z) {v : Option Value} {h' : s_H} (hr : (s_sm (fun (x : Int32 × s_G) (v : Option Value) (h' : s_H) => s_Fin 4 s_m255 (62, [some (.ref 130), none, none, some (.int x3), some (.int x4), some (.int x.1)], [], s_hg x.2) v h') (s_sm (fun (x : Int32 × s_G) (v : Option Value) (h' : s_H) => s_Fin 4 s_m255 (24, [some (.ref 130), none, none, some (.int x3), some (.int x.1), none], [], s_hg x.2) v h') (fun (z : Int32 × s_G) (v : Option Value) (h' : s_H) => v = some (.int z.1) ∧ h' = s_hg z.2))) z v h') : s_Fin 4 s_m255 (62, [some (.ref 130), none, none, some (.int x3), some (.int x4), some (.int x5)], [], s_hg g) v h' := by
  unfold fM_drawDays_130_62 at hB
  refine s_Fin.sg 5 (y := (70, [some (.ref 130), none, none, some (.int x3), some (.int x4), some (.int x5)], [.int (g.1 132 0), .int x5], s_hg g)) rfl ?_
  by_cases hc : x5 < (g.1 132 0)
  · rw [if_pos hc] at hB
    refine s_Fin.bf (c := (g.1 132 0) ≤ x5) (tg := 85) (p2 := 70) (L1 := [some (.ref 130), none, none, some (.int x3), some (.int x4), some (.int x5)]) (st1 := []) (Int32.not_le.mpr hc) rfl ?_
    refine s_Fin.sg 2 (y := (76, [some (.ref 130), none, none, some (.int x3), some (.int x4), some (.int x5)], [.int x5, .ref 130], s_hg g)) rfl ?_
    obtain ⟨g6, hp, hB⟩ := s_bd hB
    refine s_Fin.cl (d := 3) (q1 := s_m257) (md := 257) (vs := [.ref 130, .int x5]) (rest := []) (h1 := s_hg g6) (u := none) (s_Ev.up (by omega) (fM_drawsFor_130_s hp)) rfl rfl rfl rfl ?_
    refine s_Fin.sg 2 (y := (62, [some (.ref 130), none, none, some (.int x3), some (.int x4), some (.int (x5 + (1 : Int32)))], [], s_hg g6)) rfl ?_
    have hB := Option.some.inj hB
    subst hB
    exact s_Fin.more (L := [some (.ref 130), none, none, some (.int x3), some (.int x4), some (.int (x5 + (1 : Int32)))]) ⟨Or.inr rfl, Or.inl rfl, Or.inl rfl, Or.inr rfl, Or.inr rfl, Or.inr rfl, trivial⟩ hr
  · rw [if_neg hc] at hB
    refine s_Fin.bt (c := (g.1 132 0) ≤ x5) (tg := 85) (p2 := 70) (L1 := [some (.ref 130), none, none, some (.int x3), some (.int x4), some (.int x5)]) (st1 := []) (Int32.not_lt.mp hc) rfl ?_
    obtain ⟨_, hN, hz⟩ := s_in_of hB
    subst hz
    have hB := hN
    refine s_Fin.sg 1 (y := (86, [some (.ref 130), none, none, some (.int x3), some (.int x4), some (.int x5)], [.ref 130], s_hg g)) rfl ?_
    obtain ⟨g7, hp, hB⟩ := s_bd hB
    refine s_Fin.cl (d := 3) (q1 := s_m226) (md := 226) (vs := [.ref 130]) (rest := []) (h1 := s_hg g7) (u := none) (s_Ev.up (by omega) (fM_oneDay_130_s hp)) rfl rfl rfl rfl ?_
    refine s_Fin.sg 2 (y := (24, [some (.ref 130), none, none, some (.int x3), some (.int (x4 + (1 : Int32))), some (.int x5)], [], s_hg g7)) rfl ?_
    have hB := Option.some.inj hB
    subst hB
    exact s_Fin.more (L := [some (.ref 130), none, none, some (.int x3), some (.int (x4 + (1 : Int32))), none]) ⟨Or.inr rfl, Or.inl rfl, Or.inl rfl, Or.inr rfl, Or.inr rfl, Or.inl rfl, trivial⟩ hr
noncomputable def fM_drawDays_130_59 (x3 : Int32) (x4 : Int32) (g : s_G) : Option ((Int32 × s_G) ⊕ (Int32 × s_G)) :=
  s_lp (fun x => fM_drawDays_130_62 x3 x4 x.1 x.2) ((0 : Int32), g)
theorem fM_drawDays_130_59_s {x3 : Int32} {x4 : Int32} {g : s_G} {z : (Int32 × s_G) ⊕ (Int32 × s_G)} (hB : fM_drawDays_130_59 x3 x4 g = some z) {v : Option Value} {h' : s_H} (hr : (s_sm (fun (x : Int32 × s_G) (v : Option Value) (h' : s_H) => s_Fin 4 s_m255 (24, [some (.ref 130), none, none, some (.int x3), some (.int x.1), none], [], s_hg x.2) v h') (fun (z : Int32 × s_G) (v : Option Value) (h' : s_H) => v = some (.int z.1) ∧ h' = s_hg z.2)) z v h') : s_Fin 4 s_m255 (59, [some (.ref 130), none, none, some (.int x3), some (.int x4), none], [], s_hg g) v h' := by
  unfold fM_drawDays_130_59 at hB
  refine s_Fin.sg 2 (y := (62, [some (.ref 130), none, none, some (.int x3), some (.int x4), some (.int (0 : Int32))], [], s_hg g)) rfl ?_
  exact s_Fin.more (L := [some (.ref 130), none, none, some (.int x3), some (.int x4), some (.int (0 : Int32))]) ⟨Or.inr rfl, Or.inl rfl, Or.inl rfl, Or.inr rfl, Or.inr rfl, Or.inr rfl, trivial⟩ (s_lp_s (P := (fun (x : Int32 × s_G) (v : Option Value) (h' : s_H) => s_Fin 4 s_m255 (62, [some (.ref 130), none, none, some (.int x3), some (.int x4), some (.int x.1)], [], s_hg x.2) v h')) (Q := (s_sm (fun (x : Int32 × s_G) (v : Option Value) (h' : s_H) => s_Fin 4 s_m255 (24, [some (.ref 130), none, none, some (.int x3), some (.int x.1), none], [], s_hg x.2) v h') (fun (z : Int32 × s_G) (v : Option Value) (h' : s_H) => v = some (.int z.1) ∧ h' = s_hg z.2))) (fun x z hB v h' hr => fM_drawDays_130_62_s hB hr) hB _ _ hr)
noncomputable def fM_drawDays_130_24 (x3 : Int32) (x4 : Int32) (g : s_G) : Option ((Int32 × s_G) ⊕ (Int32 × s_G)) :=
  if x4 < x3 then (s_b2 (fM_draw_130 (4 : Int32) g) fun v3 g2 => if v3 = 0 then (s_b1 (fM_why_130 (3 : Int32) (0 : Int32) (0 : Int32) (0 : Int32) (0 : Int32) g2) fun v4 => if v4 = 0 then (s_b1 (fM_live_130 (3 : Int32) (0 : Int32) (0 : Int32) (0 : Int32) (0 : Int32) g2) fun g5 => fM_drawDays_130_59 x3 x4 g5)
  else fM_drawDays_130_59 x3 x4 g2)
  else fM_drawDays_130_59 x3 x4 g2)
  else s_in (some (x3, g))
theorem fM_drawDays_130_24_s {x3 : Int32} {x4 : Int32} {g : s_G} {z : (Int32 × s_G) ⊕ (Int32 × s_G)} (hB : fM_drawDays_130_24 x3 x4 g = some z) {v : Option Value} {h' : s_H} (hr : (s_sm (fun (x : Int32 × s_G) (v : Option Value) (h' : s_H) => s_Fin 4 s_m255 (24, [some (.ref 130), none, none, some (.int x3), some (.int x.1), none], [], s_hg x.2) v h') (fun (z : Int32 × s_G) (v : Option Value) (h' : s_H) => v = some (.int z.1) ∧ h' = s_hg z.2)) z v h') : s_Fin 4 s_m255 (24, [some (.ref 130), none, none, some (.int x3), some (.int x4), none], [], s_hg g) v h' := by
  unfold fM_drawDays_130_24 at hB
  refine s_Fin.sg 2 (y := (27, [some (.ref 130), none, none, some (.int x3), some (.int x4), none], [.int x3, .int x4], s_hg g)) rfl ?_
  by_cases hc : x4 < x3
  · rw [if_pos hc] at hB
    refine s_Fin.bf (c := x3 ≤ x4) (tg := 95) (p2 := 27) (L1 := [some (.ref 130), none, none, some (.int x3), some (.int x4), none]) (st1 := []) (Int32.not_le.mpr hc) rfl ?_
    refine s_Fin.sg 2 (y := (32, [some (.ref 130), none, none, some (.int x3), some (.int x4), none], [.int (4 : Int32), .ref 130], s_hg g)) rfl ?_
    obtain ⟨v3, g2, hp, hB⟩ := s_bd2 hB
    refine s_Fin.cl (d := 3) (q1 := s_m256) (md := 256) (vs := [.ref 130, .int (4 : Int32)]) (rest := []) (h1 := s_hg g2) (u := some (.int v3)) (s_Ev.up (by omega) (fM_draw_130_s hp)) rfl rfl rfl rfl ?_
    by_cases hc : v3 = 0
    · rw [if_pos hc] at hB
      refine s_Fin.bf (c := ¬ v3 = 0) (tg := 59) (p2 := 35) (L1 := [some (.ref 130), none, none, some (.int x3), some (.int x4), none]) (st1 := []) (fun h => h hc) rfl ?_
      refine s_Fin.sg 6 (y := (44, [some (.ref 130), none, none, some (.int x3), some (.int x4), none], [.int (0 : Int32), .int (0 : Int32), .int (0 : Int32), .int (0 : Int32), .int (3 : Int32), .ref 130], s_hg g2)) rfl ?_
      obtain ⟨v4, hp, hB⟩ := s_bd hB
      refine s_Fin.cl (d := 3) (q1 := s_m212) (md := 212) (vs := [.ref 130, .int (3 : Int32), .int (0 : Int32), .int (0 : Int32), .int (0 : Int32), .int (0 : Int32)]) (rest := []) (h1 := s_hg g2) (u := some (.int v4)) (s_Ev.up (by omega) (fM_why_130_s hp)) rfl rfl rfl rfl ?_
      by_cases hc : v4 = 0
      · rw [if_pos hc] at hB
        refine s_Fin.bf (c := ¬ v4 = 0) (tg := 59) (p2 := 47) (L1 := [some (.ref 130), none, none, some (.int x3), some (.int x4), none]) (st1 := []) (fun h => h hc) rfl ?_
        refine s_Fin.sg 6 (y := (56, [some (.ref 130), none, none, some (.int x3), some (.int x4), none], [.int (0 : Int32), .int (0 : Int32), .int (0 : Int32), .int (0 : Int32), .int (3 : Int32), .ref 130], s_hg g2)) rfl ?_
        obtain ⟨g5, hp, hB⟩ := s_bd hB
        refine s_Fin.cl (d := 3) (q1 := s_m215) (md := 215) (vs := [.ref 130, .int (3 : Int32), .int (0 : Int32), .int (0 : Int32), .int (0 : Int32), .int (0 : Int32)]) (rest := []) (h1 := s_hg g5) (u := none) (s_Ev.up (by omega) (fM_live_130_s hp)) rfl rfl rfl rfl ?_
        exact s_Fin.more (L := [some (.ref 130), none, none, some (.int x3), some (.int x4), none]) ⟨Or.inr rfl, Or.inl rfl, Or.inl rfl, Or.inr rfl, Or.inr rfl, Or.inl rfl, trivial⟩ (fM_drawDays_130_59_s hB hr)
      · rw [if_neg hc] at hB
        refine s_Fin.bt (c := ¬ v4 = 0) (tg := 59) (p2 := 47) (L1 := [some (.ref 130), none, none, some (.int x3), some (.int x4), none]) (st1 := []) hc rfl ?_
        exact s_Fin.more (L := [some (.ref 130), none, none, some (.int x3), some (.int x4), none]) ⟨Or.inr rfl, Or.inl rfl, Or.inl rfl, Or.inr rfl, Or.inr rfl, Or.inl rfl, trivial⟩ (fM_drawDays_130_59_s hB hr)
    · rw [if_neg hc] at hB
      refine s_Fin.bt (c := ¬ v3 = 0) (tg := 59) (p2 := 35) (L1 := [some (.ref 130), none, none, some (.int x3), some (.int x4), none]) (st1 := []) hc rfl ?_
      exact s_Fin.more (L := [some (.ref 130), none, none, some (.int x3), some (.int x4), none]) ⟨Or.inr rfl, Or.inl rfl, Or.inl rfl, Or.inr rfl, Or.inr rfl, Or.inl rfl, trivial⟩ (fM_drawDays_130_59_s hB hr)
  · rw [if_neg hc] at hB
    refine s_Fin.bt (c := x3 ≤ x4) (tg := 95) (p2 := 27) (L1 := [some (.ref 130), none, none, some (.int x3), some (.int x4), none]) (st1 := []) (Int32.not_lt.mp hc) rfl ?_
    obtain ⟨_, hN, hz⟩ := s_in_of hB
    subst hz
    have hB := hN
    refine s_Fin.sg 1 (y := (96, [some (.ref 130), none, none, some (.int x3), some (.int x4), none], [.int x3], s_hg g)) rfl ?_
    have hB := Option.some.inj hB
    subst hB
    obtain ⟨rfl, rfl⟩ := hr
    exact s_Fin.rt rfl rfl
noncomputable def fM_drawDays_130 (x1 : Int32) (x2 : Int32) (g : s_G) : Option (Int32 × s_G) :=
  s_b1 (fM_least_s x1 ((400 : Int32) - (g.1 132 47)) (s_si g 130 38 x2)) fun v1 => s_lp (fun x => fM_drawDays_130_24 v1 x.1 x.2) ((0 : Int32), (s_si g 130 38 x2))
theorem fM_drawDays_130_s {x1 : Int32} {x2 : Int32} {g : s_G} {z : Int32 × s_G} (hB : fM_drawDays_130 x1 x2 g = some z) : s_Ev 4 s_m255 [.ref 130, .int x1, .int x2] (s_hg g) (some (.int z.1)) (s_hg z.2) := by
  unfold fM_drawDays_130 at hB
  refine s_Ev.fin ((?_ : ∀ (v : Option Value) (h' : s_H), (fun (z : Int32 × s_G) (v : Option Value) (h' : s_H) => v = some (.int z.1) ∧ h' = s_hg z.2) z v h' → s_Fin 4 s_m255 (0, s_ent [.ref 130, .int x1, .int x2] (s_m255).2.2.1, [], s_hg g) v h') _ _ ⟨rfl, rfl⟩)
  intro v h' hr
  refine (show s_Fin 4 s_m255 (0, [some (.ref 130), some (.int x1), some (.int x2), none, none, none], [], s_hg g) v h' from ?_)
  refine s_Fin.sg 10 (y := (17, [some (.ref 130), some (.int x1), some (.int x2), none, none, none], [.int ((400 : Int32) - (g.1 132 47)), .int x1], s_hg (s_si g 130 38 x2))) rfl ?_
  obtain ⟨v1, hp, hB⟩ := s_bd hB
  refine s_Fin.cl (d := 3) (q1 := s_m217) (md := 217) (vs := [.int x1, .int ((400 : Int32) - (g.1 132 47))]) (rest := []) (h1 := s_hg (s_si g 130 38 x2)) (u := some (.int v1)) (s_Ev.up (by omega) (fM_least_s_s hp)) rfl rfl rfl rfl ?_
  refine s_Fin.sg 3 (y := (24, [some (.ref 130), some (.int x1), some (.int x2), some (.int v1), some (.int (0 : Int32)), none], [], s_hg (s_si g 130 38 x2))) rfl ?_
  exact s_Fin.more (L := [some (.ref 130), none, none, some (.int v1), some (.int (0 : Int32)), none]) ⟨Or.inr rfl, Or.inl rfl, Or.inl rfl, Or.inr rfl, Or.inr rfl, Or.inl rfl, trivial⟩ (s_lp_s (P := (fun (x : Int32 × s_G) (v : Option Value) (h' : s_H) => s_Fin 4 s_m255 (24, [some (.ref 130), none, none, some (.int v1), some (.int x.1), none], [], s_hg x.2) v h')) (Q := (fun (z : Int32 × s_G) (v : Option Value) (h' : s_H) => v = some (.int z.1) ∧ h' = s_hg z.2)) (fun x z hB v h' hr => fM_drawDays_130_24_s hB hr) hB _ _ hr)
-- CampAshesModel.drawn
noncomputable def fM_drawn_130 (x1 : Int32) (x2 : Int32) (g : s_G) : Option (Int32 × s_G) :=
  s_b1 (fM_isIn_s x1 (1 : Int32) (60 : Int32) (s_si g 130 0 (0 : Int32))) fun v1 => if v1 = 0 then (some ((-1 : Int32), (s_si g 130 0 (0 : Int32))))
  else if (g.1 132 47) = (400 : Int32) then (some ((0 : Int32), (s_si g 130 0 (0 : Int32))))
  else s_b1 (fM_snap_130 (s_si g 130 0 (0 : Int32))) fun g2 => s_b2 (fM_drawDays_130 x1 x2 g2) fun v4 g3 => some (v4, g3)
theorem fM_drawn_130_s {x1 : Int32} {x2 : Int32} {g : s_G} {z : Int32 × s_G} (hB : fM_drawn_130 x1 x2 g = some z) : s_Ev 5 s_m254 [.ref 130, .int x1, .int x2] (s_hg g) (some (.int z.1)) (s_hg z.2) := by
  unfold fM_drawn_130 at hB
  refine s_Ev.fin ((?_ : ∀ (v : Option Value) (h' : s_H), (fun (z : Int32 × s_G) (v : Option Value) (h' : s_H) => v = some (.int z.1) ∧ h' = s_hg z.2) z v h' → s_Fin 5 s_m254 (0, s_ent [.ref 130, .int x1, .int x2] (s_m254).2.2.1, [], s_hg g) v h') _ _ ⟨rfl, rfl⟩)
  intro v h' hr
  refine (show s_Fin 5 s_m254 (0, [some (.ref 130), some (.int x1), some (.int x2)], [], s_hg g) v h' from ?_)
  refine s_Fin.sg 6 (y := (9, [some (.ref 130), some (.int x1), some (.int x2)], [.int (60 : Int32), .int (1 : Int32), .int x1], s_hg (s_si g 130 0 (0 : Int32)))) rfl ?_
  obtain ⟨v1, hp, hB⟩ := s_bd hB
  refine s_Fin.cl (d := 4) (q1 := s_m181) (md := 181) (vs := [.int x1, .int (1 : Int32), .int (60 : Int32)]) (rest := []) (h1 := s_hg (s_si g 130 0 (0 : Int32))) (u := some (.int v1)) (s_Ev.up (by omega) (fM_isIn_s_s hp)) rfl rfl rfl rfl ?_
  by_cases hc : v1 = 0
  · rw [if_pos hc] at hB
    refine s_Fin.bf (c := ¬ v1 = 0) (tg := 17) (p2 := 12) (L1 := [some (.ref 130), some (.int x1), some (.int x2)]) (st1 := []) (fun h => h hc) rfl ?_
    refine s_Fin.sg 1 (y := (16, [some (.ref 130), some (.int x1), some (.int x2)], [.int (-1 : Int32)], s_hg (s_si g 130 0 (0 : Int32)))) rfl ?_
    have hB := Option.some.inj hB
    subst hB
    obtain ⟨rfl, rfl⟩ := hr
    exact s_Fin.rt rfl rfl
  · rw [if_neg hc] at hB
    refine s_Fin.bt (c := ¬ v1 = 0) (tg := 17) (p2 := 12) (L1 := [some (.ref 130), some (.int x1), some (.int x2)]) (st1 := []) hc rfl ?_
    refine s_Fin.sg 5 (y := (27, [some (.ref 130), some (.int x1), some (.int x2)], [.int (400 : Int32), .int (g.1 132 47)], s_hg (s_si g 130 0 (0 : Int32)))) rfl ?_
    by_cases hc : (g.1 132 47) = (400 : Int32)
    · rw [if_pos hc] at hB
      refine s_Fin.bf (c := ¬ (g.1 132 47) = (400 : Int32)) (tg := 32) (p2 := 27) (L1 := [some (.ref 130), some (.int x1), some (.int x2)]) (st1 := []) (fun h => h hc) rfl ?_
      refine s_Fin.sg 1 (y := (31, [some (.ref 130), some (.int x1), some (.int x2)], [.int (0 : Int32)], s_hg (s_si g 130 0 (0 : Int32)))) rfl ?_
      have hB := Option.some.inj hB
      subst hB
      obtain ⟨rfl, rfl⟩ := hr
      exact s_Fin.rt rfl rfl
    · rw [if_neg hc] at hB
      refine s_Fin.bt (c := ¬ (g.1 132 47) = (400 : Int32)) (tg := 32) (p2 := 27) (L1 := [some (.ref 130), some (.int x1), some (.int x2)]) (st1 := []) hc rfl ?_
      refine s_Fin.sg 1 (y := (33, [some (.ref 130), some (.int x1), some (.int x2)], [.ref 130], s_hg (s_si g 130 0 (0 : Int32)))) rfl ?_
      obtain ⟨g2, hp, hB⟩ := s_bd hB
      refine s_Fin.cl (d := 4) (q1 := s_m214) (md := 214) (vs := [.ref 130]) (rest := []) (h1 := s_hg g2) (u := none) (s_Ev.up (by omega) (fM_snap_130_s hp)) rfl rfl rfl rfl ?_
      refine s_Fin.sg 3 (y := (39, [some (.ref 130), some (.int x1), some (.int x2)], [.int x2, .int x1, .ref 130], s_hg g2)) rfl ?_
      obtain ⟨v4, g3, hp, hB⟩ := s_bd2 hB
      refine s_Fin.cl (d := 4) (q1 := s_m255) (md := 255) (vs := [.ref 130, .int x1, .int x2]) (rest := []) (h1 := s_hg g3) (u := some (.int v4)) (s_Ev.up (by omega) (fM_drawDays_130_s hp)) rfl rfl rfl rfl ?_
      have hB := Option.some.inj hB
      subst hB
      obtain ⟨rfl, rfl⟩ := hr
      exact s_Fin.rt rfl rfl
-- CampAshes$Draws.start
noncomputable def fD_start_128 (x1 : Int32) (g : s_G) : Option (s_G) :=
  some (s_si g 128 0 x1)
theorem fD_start_128_s {x1 : Int32} {g : s_G} {z : s_G} (hB : fD_start_128 x1 g = some z) : s_Ev 0 s_m120 [.ref 128, .int x1] (s_hg g) (none) (s_hg z) := by
  unfold fD_start_128 at hB
  refine s_Ev.fin ((?_ : ∀ (v : Option Value) (h' : s_H), (fun (z : s_G) (v : Option Value) (h' : s_H) => v = none ∧ h' = s_hg z) z v h' → s_Fin 0 s_m120 (0, s_ent [.ref 128, .int x1] (s_m120).2.2.1, [], s_hg g) v h') _ _ ⟨rfl, rfl⟩)
  intro v h' hr
  refine (show s_Fin 0 s_m120 (0, [some (.ref 128), some (.int x1)], [], s_hg g) v h' from ?_)
  refine s_Fin.sg 3 (y := (5, [some (.ref 128), some (.int x1)], [], s_hg (s_si g 128 0 x1))) rfl ?_
  have hB := Option.some.inj hB
  subst hB
  obtain ⟨rfl, rfl⟩ := hr
  exact s_Fin.rt rfl rfl
-- CampAshes$Draws.draw
noncomputable def fD_draw_128 (x1 : Int32) (g : s_G) : Option (Int32 × s_G) :=
  if 0 < x1 then (if x1 = 0 then none else some ((((((g.1 128 0) * (1103515245 : Int32)) + (12345 : Int32)).toUInt32 >>> ((8 : Int32).toUInt32 &&& Int32.toUInt32 31)).toInt32) - (((((g.1 128 0) * (1103515245 : Int32)) + (12345 : Int32)).toUInt32 >>> ((8 : Int32).toUInt32 &&& Int32.toUInt32 31)).toInt32) / x1 * x1, (s_si g 128 0 (((g.1 128 0) * (1103515245 : Int32)) + (12345 : Int32)))))
  else some ((0 : Int32), (s_si g 128 0 (((g.1 128 0) * (1103515245 : Int32)) + (12345 : Int32))))
theorem fD_draw_128_s {x1 : Int32} {g : s_G} {z : Int32 × s_G} (hB : fD_draw_128 x1 g = some z) : s_Ev 0 s_m122 [.ref 128, .int x1] (s_hg g) (some (.int z.1)) (s_hg z.2) := by
  unfold fD_draw_128 at hB
  refine s_Ev.fin ((?_ : ∀ (v : Option Value) (h' : s_H), (fun (z : Int32 × s_G) (v : Option Value) (h' : s_H) => v = some (.int z.1) ∧ h' = s_hg z.2) z v h' → s_Fin 0 s_m122 (0, s_ent [.ref 128, .int x1] (s_m122).2.2.1, [], s_hg g) v h') _ _ ⟨rfl, rfl⟩)
  intro v h' hr
  refine (show s_Fin 0 s_m122 (0, [some (.ref 128), some (.int x1)], [], s_hg g) v h' from ?_)
  refine s_Fin.sg 9 (y := (16, [some (.ref 128), some (.int x1)], [.int x1], s_hg (s_si g 128 0 (((g.1 128 0) * (1103515245 : Int32)) + (12345 : Int32))))) rfl ?_
  by_cases hc : 0 < x1
  · rw [if_pos hc] at hB
    refine s_Fin.bf (c := x1 ≤ 0) (tg := 31) (p2 := 16) (L1 := [some (.ref 128), some (.int x1)]) (st1 := []) (Int32.not_le.mpr hc) rfl ?_
    refine s_Fin.sg 5 (y := (27, [some (.ref 128), some (.int x1)], [.int x1, .int (((((g.1 128 0) * (1103515245 : Int32)) + (12345 : Int32)).toUInt32 >>> ((8 : Int32).toUInt32 &&& Int32.toUInt32 31)).toInt32)], s_hg (s_si g 128 0 (((g.1 128 0) * (1103515245 : Int32)) + (12345 : Int32))))) rfl ?_
    have hc : ¬ x1 = 0 := fun h => (by rw [if_pos h] at hB; cases hB)
    rw [if_neg hc] at hB
    refine s_Fin.gd (c := x1 = 0) (pc1 := 28) (L1 := [some (.ref 128), some (.int x1)]) (st1 := [.int ((((((g.1 128 0) * (1103515245 : Int32)) + (12345 : Int32)).toUInt32 >>> ((8 : Int32).toUInt32 &&& Int32.toUInt32 31)).toInt32) - (((((g.1 128 0) * (1103515245 : Int32)) + (12345 : Int32)).toUInt32 >>> ((8 : Int32).toUInt32 &&& Int32.toUInt32 31)).toInt32) / x1 * x1)]) (h1 := s_hg (s_si g 128 0 (((g.1 128 0) * (1103515245 : Int32)) + (12345 : Int32)))) hc rfl rfl ?_
    refine s_Fin.sg 1 (y := (32, [some (.ref 128), some (.int x1)], [.int ((((((g.1 128 0) * (1103515245 : Int32)) + (12345 : Int32)).toUInt32 >>> ((8 : Int32).toUInt32 &&& Int32.toUInt32 31)).toInt32) - (((((g.1 128 0) * (1103515245 : Int32)) + (12345 : Int32)).toUInt32 >>> ((8 : Int32).toUInt32 &&& Int32.toUInt32 31)).toInt32) / x1 * x1)], s_hg (s_si g 128 0 (((g.1 128 0) * (1103515245 : Int32)) + (12345 : Int32))))) rfl ?_
    have hB := Option.some.inj hB
    subst hB
    obtain ⟨rfl, rfl⟩ := hr
    exact s_Fin.rt rfl rfl
  · rw [if_neg hc] at hB
    refine s_Fin.bt (c := x1 ≤ 0) (tg := 31) (p2 := 16) (L1 := [some (.ref 128), some (.int x1)]) (st1 := []) (Int32.not_lt.mp hc) rfl ?_
    refine s_Fin.sg 1 (y := (32, [some (.ref 128), some (.int x1)], [.int (0 : Int32)], s_hg (s_si g 128 0 (((g.1 128 0) * (1103515245 : Int32)) + (12345 : Int32))))) rfl ?_
    have hB := Option.some.inj hB
    subst hB
    obtain ⟨rfl, rfl⟩ := hr
    exact s_Fin.rt rfl rfl
