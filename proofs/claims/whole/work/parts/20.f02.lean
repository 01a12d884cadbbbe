-- CampAshesModel.spelt
noncomputable def fM_spelt_s_78 (x5 : Int32) (x6 : Int64) (g : s_G) : Option (Int64) :=
  if 0 < x5 then (s_b1 (some ((((27 : Int64) * x6) + x5.toInt64) - (96 : Int64))) fun v5 => some v5)
  else some x6
theorem fM_spelt_s_78_s {x5 : Int32} {x6 : Int64} {g : s_G} {z : Int64} (hB : fM_spelt_s_78 x5 x6 g = some z) {v : Option Value} {h' : s_H} (hr : (fun (z : Int64) (v : Option Value) (h' : s_H) => v = some (.long z) ∧ h' = s_hg g) z v h') : s_Fin 0 s_m173 (78, [none, none, none, none, none, some (.int x5), some (.long x6), none], [], s_hg g) v h' := by
  unfold fM_spelt_s_78 at hB
  refine s_Fin.sg 1 (y := (80, [none, none, none, none, none, some (.int x5), some (.long x6), none], [.int x5], s_hg g)) rfl ?_
  by_cases hc : 0 < x5
  · rw [if_pos hc] at hB
    refine s_Fin.bf (c := x5 ≤ 0) (tg := 99) (p2 := 80) (L1 := [none, none, none, none, none, some (.int x5), some (.long x6), none]) (st1 := []) (Int32.not_le.mpr hc) rfl ?_
    refine s_Fin.sg 8 (y := (97, [none, none, none, none, none, some (.int x5), some (.long x6), none], [.long ((((27 : Int64) * x6) + x5.toInt64) - (96 : Int64))], s_hg g)) rfl ?_
    obtain ⟨v5, hx, hB⟩ := s_bd hB
    have hx := Option.some.inj hx
    rw [hx]
    refine s_Fin.sg 2 (y := (101, [none, none, none, none, none, some (.int x5), some (.long v5), none], [.long v5], s_hg g)) rfl ?_
    have hB := Option.some.inj hB
    subst hB
    obtain ⟨rfl, rfl⟩ := hr
    exact s_Fin.rt rfl rfl
  · rw [if_neg hc] at hB
    refine s_Fin.bt (c := x5 ≤ 0) (tg := 99) (p2 := 80) (L1 := [none, none, none, none, none, some (.int x5), some (.long x6), none]) (st1 := []) (Int32.not_lt.mp hc) rfl ?_
    refine s_Fin.sg 1 (y := (101, [none, none, none, none, none, some (.int x5), some (.long x6), none], [.long x6], s_hg g)) rfl ?_
    have hB := Option.some.inj hB
    subst hB
    obtain ⟨rfl, rfl⟩ := hr
    exact s_Fin.rt rfl rfl
noncomputable def fM_spelt_s_57 (x4 : Int32) (x5 : Int32) (x6 : Int64) (g : s_G) : Option (Int64) :=
  if 0 < x4 then (s_b1 (some ((((27 : Int64) * x6) + x4.toInt64) - (96 : Int64))) fun v4 => fM_spelt_s_78 x5 v4 g)
  else fM_spelt_s_78 x5 x6 g
theorem fM_spelt_s_57_s {x4 : Int32} {x5 : Int32} {x6 : Int64} {g : s_G} {z : Int64} (hB : fM_spelt_s_57 x4 x5 x6 g = some z) {v : Option Value} {h' : s_H} (hr : (fun (z : Int64) (v : Option Value) (h' : s_H) => v = some (.long z) ∧ h' = s_hg g) z v h') : s_Fin 0 s_m173 (57, [none, none, none, none, some (.int x4), some (.int x5), some (.long x6), none], [], s_hg g) v h' := by
  unfold fM_spelt_s_57 at hB
  refine s_Fin.sg 1 (y := (59, [none, none, none, none, some (.int x4), some (.int x5), some (.long x6), none], [.int x4], s_hg g)) rfl ?_
  by_cases hc : 0 < x4
  · rw [if_pos hc] at hB
    refine s_Fin.bf (c := x4 ≤ 0) (tg := 78) (p2 := 59) (L1 := [none, none, none, none, some (.int x4), some (.int x5), some (.long x6), none]) (st1 := []) (Int32.not_le.mpr hc) rfl ?_
    refine s_Fin.sg 8 (y := (76, [none, none, none, none, some (.int x4), some (.int x5), some (.long x6), none], [.long ((((27 : Int64) * x6) + x4.toInt64) - (96 : Int64))], s_hg g)) rfl ?_
    obtain ⟨v4, hx, hB⟩ := s_bd hB
    have hx := Option.some.inj hx
    rw [hx]
    refine s_Fin.sg 1 (y := (78, [none, none, none, none, some (.int x4), some (.int x5), some (.long v4), none], [], s_hg g)) rfl ?_
    exact s_Fin.more (L := [none, none, none, none, none, some (.int x5), some (.long v4), none]) ⟨Or.inl rfl, Or.inl rfl, Or.inl rfl, Or.inl rfl, Or.inl rfl, Or.inr rfl, Or.inr rfl, Or.inl rfl, trivial⟩ (fM_spelt_s_78_s hB hr)
  · rw [if_neg hc] at hB
    refine s_Fin.bt (c := x4 ≤ 0) (tg := 78) (p2 := 59) (L1 := [none, none, none, none, some (.int x4), some (.int x5), some (.long x6), none]) (st1 := []) (Int32.not_lt.mp hc) rfl ?_
    exact s_Fin.more (L := [none, none, none, none, none, some (.int x5), some (.long x6), none]) ⟨Or.inl rfl, Or.inl rfl, Or.inl rfl, Or.inl rfl, Or.inl rfl, Or.inr rfl, Or.inr rfl, Or.inl rfl, trivial⟩ (fM_spelt_s_78_s hB hr)
noncomputable def fM_spelt_s_38 (x3 : Int32) (x4 : Int32) (x5 : Int32) (x6 : Int64) (g : s_G) : Option (Int64) :=
  if 0 < x3 then (s_b1 (some ((((27 : Int64) * x6) + x3.toInt64) - (96 : Int64))) fun v3 => fM_spelt_s_57 x4 x5 v3 g)
  else fM_spelt_s_57 x4 x5 x6 g
theorem fM_spelt_s_38_s {x3 : Int32} {x4 : Int32} {x5 : Int32} {x6 : Int64} {g : s_G} {z : Int64} (hB : fM_spelt_s_38 x3 x4 x5 x6 g = some z) {v : Option Value} {h' : s_H} (hr : (fun (z : Int64) (v : Option Value) (h' : s_H) => v = some (.long z) ∧ h' = s_hg g) z v h') : s_Fin 0 s_m173 (38, [none, none, none, some (.int x3), some (.int x4), some (.int x5), some (.long x6), none], [], s_hg g) v h' := by
  unfold fM_spelt_s_38 at hB
  refine s_Fin.sg 1 (y := (39, [none, none, none, some (.int x3), some (.int x4), some (.int x5), some (.long x6), none], [.int x3], s_hg g)) rfl ?_
  by_cases hc : 0 < x3
  · rw [if_pos hc] at hB
    refine s_Fin.bf (c := x3 ≤ 0) (tg := 57) (p2 := 39) (L1 := [none, none, none, some (.int x3), some (.int x4), some (.int x5), some (.long x6), none]) (st1 := []) (Int32.not_le.mpr hc) rfl ?_
    refine s_Fin.sg 8 (y := (55, [none, none, none, some (.int x3), some (.int x4), some (.int x5), some (.long x6), none], [.long ((((27 : Int64) * x6) + x3.toInt64) - (96 : Int64))], s_hg g)) rfl ?_
    obtain ⟨v3, hx, hB⟩ := s_bd hB
    have hx := Option.some.inj hx
    rw [hx]
    refine s_Fin.sg 1 (y := (57, [none, none, none, some (.int x3), some (.int x4), some (.int x5), some (.long v3), none], [], s_hg g)) rfl ?_
    exact s_Fin.more (L := [none, none, none, none, some (.int x4), some (.int x5), some (.long v3), none]) ⟨Or.inl rfl, Or.inl rfl, Or.inl rfl, Or.inl rfl, Or.inr rfl, Or.inr rfl, Or.inr rfl, Or.inl rfl, trivial⟩ (fM_spelt_s_57_s hB hr)
  · rw [if_neg hc] at hB
    refine s_Fin.bt (c := x3 ≤ 0) (tg := 57) (p2 := 39) (L1 := [none, none, none, some (.int x3), some (.int x4), some (.int x5), some (.long x6), none]) (st1 := []) (Int32.not_lt.mp hc) rfl ?_
    exact s_Fin.more (L := [none, none, none, none, some (.int x4), some (.int x5), some (.long x6), none]) ⟨Or.inl rfl, Or.inl rfl, Or.inl rfl, Or.inl rfl, Or.inr rfl, Or.inr rfl, Or.inr rfl, Or.inl rfl, trivial⟩ (fM_spelt_s_57_s hB hr)
noncomputable def fM_spelt_s (x0 : Int32) (x1 : Int32) (x2 : Int32) (x3 : Int32) (x4 : Int32) (x5 : Int32) (g : s_G) : Option (Int64) :=
  s_b1 (some ((((27 : Int64) * (x0.toInt64 - (96 : Int64))) + x1.toInt64) - (96 : Int64))) fun v1 => if 0 < x2 then (s_b1 (some ((((27 : Int64) * v1) + x2.toInt64) - (96 : Int64))) fun v2 => fM_spelt_s_38 x3 x4 x5 v2 g)
  else fM_spelt_s_38 x3 x4 x5 v1 g
theorem fM_spelt_s_s {x0 : Int32} {x1 : Int32} {x2 : Int32} {x3 : Int32} {x4 : Int32} {x5 : Int32} {g : s_G} {z : Int64} (hB : fM_spelt_s x0 x1 x2 x3 x4 x5 g = some z) : s_Ev 0 s_m173 [.int x0, .int x1, .int x2, .int x3, .int x4, .int x5] (s_hg g) (some (.long z)) (s_hg g) := by
  unfold fM_spelt_s at hB
  refine s_Ev.fin ((?_ : ∀ (v : Option Value) (h' : s_H), (fun (z : Int64) (v : Option Value) (h' : s_H) => v = some (.long z) ∧ h' = s_hg g) z v h' → s_Fin 0 s_m173 (0, s_ent [.int x0, .int x1, .int x2, .int x3, .int x4, .int x5] (s_m173).2.2.1, [], s_hg g) v h') _ _ ⟨rfl, rfl⟩)
  intro v h' hr
  refine (show s_Fin 0 s_m173 (0, [some (.int x0), some (.int x1), some (.int x2), some (.int x3), some (.int x4), some (.int x5), none, none], [], s_hg g) v h' from ?_)
  refine s_Fin.sg 11 (y := (17, [some (.int x0), some (.int x1), some (.int x2), some (.int x3), some (.int x4), some (.int x5), none, none], [.long ((((27 : Int64) * (x0.toInt64 - (96 : Int64))) + x1.toInt64) - (96 : Int64))], s_hg g)) rfl ?_
  obtain ⟨v1, hx, hB⟩ := s_bd hB
  have hx := Option.some.inj hx
  rw [hx]
  refine s_Fin.sg 2 (y := (20, [some (.int x0), some (.int x1), some (.int x2), some (.int x3), some (.int x4), some (.int x5), some (.long v1), none], [.int x2], s_hg g)) rfl ?_
  by_cases hc : 0 < x2
  · rw [if_pos hc] at hB
    refine s_Fin.bf (c := x2 ≤ 0) (tg := 38) (p2 := 20) (L1 := [some (.int x0), some (.int x1), some (.int x2), some (.int x3), some (.int x4), some (.int x5), some (.long v1), none]) (st1 := []) (Int32.not_le.mpr hc) rfl ?_
    refine s_Fin.sg 8 (y := (36, [some (.int x0), some (.int x1), some (.int x2), some (.int x3), some (.int x4), some (.int x5), some (.long v1), none], [.long ((((27 : Int64) * v1) + x2.toInt64) - (96 : Int64))], s_hg g)) rfl ?_
    obtain ⟨v2, hx, hB⟩ := s_bd hB
    have hx := Option.some.inj hx
    rw [hx]
    refine s_Fin.sg 1 (y := (38, [some (.int x0), some (.int x1), some (.int x2), some (.int x3), some (.int x4), some (.int x5), some (.long v2), none], [], s_hg g)) rfl ?_
    exact s_Fin.more (L := [none, none, none, some (.int x3), some (.int x4), some (.int x5), some (.long v2), none]) ⟨Or.inl rfl, Or.inl rfl, Or.inl rfl, Or.inr rfl, Or.inr rfl, Or.inr rfl, Or.inr rfl, Or.inl rfl, trivial⟩ (fM_spelt_s_38_s hB hr)
  · rw [if_neg hc] at hB
    refine s_Fin.bt (c := x2 ≤ 0) (tg := 38) (p2 := 20) (L1 := [some (.int x0), some (.int x1), some (.int x2), some (.int x3), some (.int x4), some (.int x5), some (.long v1), none]) (st1 := []) (Int32.not_lt.mp hc) rfl ?_
    exact s_Fin.more (L := [none, none, none, some (.int x3), some (.int x4), some (.int x5), some (.long v1), none]) ⟨Or.inl rfl, Or.inl rfl, Or.inl rfl, Or.inr rfl, Or.inr rfl, Or.inr rfl, Or.inr rfl, Or.inl rfl, trivial⟩ (fM_spelt_s_38_s hB hr)
-- CampAshesModel.wordOf
noncomputable def fM_wordOf_s (x0 : Int32) (g : s_G) : Option (Int64) :=
  if x0 = 0 then (s_b1 (fM_spelt_s (98 : Int32) (111 : Int32) (121 : Int32) (0 : Int32) (0 : Int32) (0 : Int32) g) fun v1 => some v1)
  else if x0 = 1 then (s_b1 (fM_spelt_s (101 : Int32) (118 : Int32) (101 : Int32) (110 : Int32) (116 : Int32) (0 : Int32) g) fun v2 => some v2)
  else if x0 = 2 then (s_b1 (fM_spelt_s (116 : Int32) (97 : Int32) (107 : Int32) (101 : Int32) (115 : Int32) (0 : Int32) g) fun v3 => some v3)
  else if x0 = 3 then (s_b1 (fM_spelt_s (102 : Int32) (105 : Int32) (114 : Int32) (101 : Int32) (0 : Int32) (0 : Int32) g) fun v4 => some v4)
  else if x0 = 4 then (s_b1 (fM_spelt_s (108 : Int32) (111 : Int32) (103 : Int32) (115 : Int32) (0 : Int32) (0 : Int32) g) fun v5 => some v5)
  else if x0 = 5 then (s_b1 (fM_spelt_s (116 : Int32) (117 : Int32) (114 : Int32) (102 : Int32) (0 : Int32) (0 : Int32) g) fun v6 => some v6)
  else if x0 = 6 then (s_b1 (fM_spelt_s (119 : Int32) (101 : Int32) (116 : Int32) (0 : Int32) (0 : Int32) (0 : Int32) g) fun v7 => some v7)
  else if x0 = 7 then (s_b1 (fM_spelt_s (102 : Int32) (101 : Int32) (97 : Int32) (114 : Int32) (0 : Int32) (0 : Int32) g) fun v8 => some v8)
  else if x0 = 8 then (s_b1 (fM_spelt_s (115 : Int32) (104 : Int32) (97 : Int32) (109 : Int32) (101 : Int32) (0 : Int32) g) fun v9 => some v9)
  else if x0 = 9 then (s_b1 (fM_spelt_s (103 : Int32) (114 : Int32) (105 : Int32) (101 : Int32) (102 : Int32) (0 : Int32) g) fun v10 => some v10)
  else if x0 = 10 then (s_b1 (fM_spelt_s (106 : Int32) (111 : Int32) (121 : Int32) (0 : Int32) (0 : Int32) (0 : Int32) g) fun v11 => some v11)
  else if x0 = 11 then (s_b1 (fM_spelt_s (116 : Int32) (101 : Int32) (108 : Int32) (108 : Int32) (115 : Int32) (0 : Int32) g) fun v12 => some v12)
  else if x0 = 12 then (s_b1 (fM_spelt_s (108 : Int32) (105 : Int32) (101 : Int32) (115 : Int32) (0 : Int32) (0 : Int32) g) fun v13 => some v13)
  else if x0 = 13 then (s_b1 (fM_spelt_s (103 : Int32) (105 : Int32) (118 : Int32) (101 : Int32) (115 : Int32) (0 : Int32) g) fun v14 => some v14)
  else if x0 = 14 then (s_b1 (fM_spelt_s (108 : Int32) (111 : Int32) (103 : Int32) (0 : Int32) (0 : Int32) (0 : Int32) g) fun v15 => some v15)
  else if x0 = 15 then (s_b1 (fM_spelt_s (114 : Int32) (97 : Int32) (107 : Int32) (101 : Int32) (0 : Int32) (0 : Int32) g) fun v16 => some v16)
  else if x0 = 16 then (s_b1 (fM_spelt_s (100 : Int32) (97 : Int32) (121 : Int32) (0 : Int32) (0 : Int32) (0 : Int32) g) fun v17 => some v17)
  else if x0 = 17 then (s_b1 (fM_spelt_s (111 : Int32) (114 : Int32) (0 : Int32) (0 : Int32) (0 : Int32) (0 : Int32) g) fun v18 => some v18)
  else if x0 = 18 then (s_b1 (fM_spelt_s (97 : Int32) (110 : Int32) (100 : Int32) (0 : Int32) (0 : Int32) (0 : Int32) g) fun v19 => some v19)
  else if x0 = 19 then (s_b1 (fM_spelt_s (110 : Int32) (111 : Int32) (116 : Int32) (0 : Int32) (0 : Int32) (0 : Int32) g) fun v20 => some v20)
  else if x0 = 20 then (s_b1 (fM_spelt_s (111 : Int32) (118 : Int32) (101 : Int32) (114 : Int32) (0 : Int32) (0 : Int32) g) fun v21 => some v21)
  else if x0 = 21 then (s_b1 (fM_spelt_s (104 : Int32) (117 : Int32) (115 : Int32) (104 : Int32) (101 : Int32) (100 : Int32) g) fun v22 => some v22)
  else if x0 = 22 then (s_b1 (fM_spelt_s (108 : Int32) (105 : Int32) (103 : Int32) (104 : Int32) (116 : Int32) (0 : Int32) g) fun v23 => some v23)
  else if x0 = 23 then (s_b1 (fM_spelt_s (104 : Int32) (97 : Int32) (115 : Int32) (0 : Int32) (0 : Int32) (0 : Int32) g) fun v24 => some v24)
  else if x0 = 24 then (s_b1 (fM_spelt_s (104 : Int32) (105 : Int32) (115 : Int32) (0 : Int32) (0 : Int32) (0 : Int32) g) fun v25 => some v25)
  else if x0 = 25 then (s_b1 (fM_spelt_s (108 : Int32) (111 : Int32) (97 : Int32) (100 : Int32) (0 : Int32) (0 : Int32) g) fun v26 => some v26)
  else if x0 = 26 then (s_b1 (fM_spelt_s (98 : Int32) (101 : Int32) (97 : Int32) (114 : Int32) (115 : Int32) (0 : Int32) g) fun v27 => some v27)
  else if x0 = 27 then (s_b1 (fM_spelt_s (116 : Int32) (101 : Int32) (97 : Int32) (114 : Int32) (115 : Int32) (0 : Int32) g) fun v28 => some v28)
  else s_b1 (fM_spelt_s (110 : Int32) (117 : Int32) (109 : Int32) (98 : Int32) (101 : Int32) (114 : Int32) g) fun v29 => some v29
theorem fM_wordOf_s_s {x0 : Int32} {g : s_G} {z : Int64} (hB : fM_wordOf_s x0 g = some z) : s_Ev 1 s_m172 [.int x0] (s_hg g) (some (.long z)) (s_hg g) := by
  unfold fM_wordOf_s at hB
  refine s_Ev.fin ((?_ : ∀ (v : Option Value) (h' : s_H), (fun (z : Int64) (v : Option Value) (h' : s_H) => v = some (.long z) ∧ h' = s_hg g) z v h' → s_Fin 1 s_m172 (0, s_ent [.int x0] (s_m172).2.2.1, [], s_hg g) v h') _ _ ⟨rfl, rfl⟩)
  intro v h' hr
  refine (show s_Fin 1 s_m172 (0, [some (.int x0)], [], s_hg g) v h' from ?_)
  refine s_Fin.sg 1 (y := (1, [some (.int x0)], [.int x0], s_hg g)) rfl ?_
  by_cases hc0 : x0 = 0
  · rw [if_pos hc0] at hB
    refine s_Fin.nx (pc1 := 128) (L1 := [some (.int x0)]) (st1 := []) (h1 := s_hg g) (by rw [hc0]; exact rfl) rfl ?_
    refine s_Fin.sg 6 (y := (137, [some (.int x0)], [.int (0 : Int32), .int (0 : Int32), .int (0 : Int32), .int (121 : Int32), .int (111 : Int32), .int (98 : Int32)], s_hg g)) rfl ?_
    obtain ⟨v1, hp, hB⟩ := s_bd hB
    refine s_Fin.cl (d := 0) (q1 := s_m173) (md := 173) (vs := [.int (98 : Int32), .int (111 : Int32), .int (121 : Int32), .int (0 : Int32), .int (0 : Int32), .int (0 : Int32)]) (rest := []) (h1 := s_hg g) (u := some (.long v1)) (s_Ev.up (by omega) (fM_spelt_s_s hp)) rfl rfl rfl rfl ?_
    have hB := Option.some.inj hB
    subst hB
    obtain ⟨rfl, rfl⟩ := hr
    exact s_Fin.rt rfl rfl
  rw [if_neg hc0] at hB
  by_cases hc1 : x0 = 1
  · rw [if_pos hc1] at hB
    refine s_Fin.nx (pc1 := 141) (L1 := [some (.int x0)]) (st1 := []) (h1 := s_hg g) (by rw [hc1]; exact rfl) rfl ?_
    refine s_Fin.sg 6 (y := (152, [some (.int x0)], [.int (0 : Int32), .int (116 : Int32), .int (110 : Int32), .int (101 : Int32), .int (118 : Int32), .int (101 : Int32)], s_hg g)) rfl ?_
    obtain ⟨v2, hp, hB⟩ := s_bd hB
    refine s_Fin.cl (d := 0) (q1 := s_m173) (md := 173) (vs := [.int (101 : Int32), .int (118 : Int32), .int (101 : Int32), .int (110 : Int32), .int (116 : Int32), .int (0 : Int32)]) (rest := []) (h1 := s_hg g) (u := some (.long v2)) (s_Ev.up (by omega) (fM_spelt_s_s hp)) rfl rfl rfl rfl ?_
    have hB := Option.some.inj hB
    subst hB
    obtain ⟨rfl, rfl⟩ := hr
    exact s_Fin.rt rfl rfl
  rw [if_neg hc1] at hB
  by_cases hc2 : x0 = 2
  · rw [if_pos hc2] at hB
    refine s_Fin.nx (pc1 := 156) (L1 := [some (.int x0)]) (st1 := []) (h1 := s_hg g) (by rw [hc2]; exact rfl) rfl ?_
    refine s_Fin.sg 6 (y := (167, [some (.int x0)], [.int (0 : Int32), .int (115 : Int32), .int (101 : Int32), .int (107 : Int32), .int (97 : Int32), .int (116 : Int32)], s_hg g)) rfl ?_
    obtain ⟨v3, hp, hB⟩ := s_bd hB
    refine s_Fin.cl (d := 0) (q1 := s_m173) (md := 173) (vs := [.int (116 : Int32), .int (97 : Int32), .int (107 : Int32), .int (101 : Int32), .int (115 : Int32), .int (0 : Int32)]) (rest := []) (h1 := s_hg g) (u := some (.long v3)) (s_Ev.up (by omega) (fM_spelt_s_s hp)) rfl rfl rfl rfl ?_
    have hB := Option.some.inj hB
    subst hB
    obtain ⟨rfl, rfl⟩ := hr
    exact s_Fin.rt rfl rfl
  rw [if_neg hc2] at hB
  by_cases hc3 : x0 = 3
  · rw [if_pos hc3] at hB
    refine s_Fin.nx (pc1 := 171) (L1 := [some (.int x0)]) (st1 := []) (h1 := s_hg g) (by rw [hc3]; exact rfl) rfl ?_
    refine s_Fin.sg 6 (y := (181, [some (.int x0)], [.int (0 : Int32), .int (0 : Int32), .int (101 : Int32), .int (114 : Int32), .int (105 : Int32), .int (102 : Int32)], s_hg g)) rfl ?_
    obtain ⟨v4, hp, hB⟩ := s_bd hB
    refine s_Fin.cl (d := 0) (q1 := s_m173) (md := 173) (vs := [.int (102 : Int32), .int (105 : Int32), .int (114 : Int32), .int (101 : Int32), .int (0 : Int32), .int (0 : Int32)]) (rest := []) (h1 := s_hg g) (u := some (.long v4)) (s_Ev.up (by omega) (fM_spelt_s_s hp)) rfl rfl rfl rfl ?_
    have hB := Option.some.inj hB
    subst hB
    obtain ⟨rfl, rfl⟩ := hr
    exact s_Fin.rt rfl rfl
  rw [if_neg hc3] at hB
  by_cases hc4 : x0 = 4
  · rw [if_pos hc4] at hB
    refine s_Fin.nx (pc1 := 185) (L1 := [some (.int x0)]) (st1 := []) (h1 := s_hg g) (by rw [hc4]; exact rfl) rfl ?_
    refine s_Fin.sg 6 (y := (195, [some (.int x0)], [.int (0 : Int32), .int (0 : Int32), .int (115 : Int32), .int (103 : Int32), .int (111 : Int32), .int (108 : Int32)], s_hg g)) rfl ?_
    obtain ⟨v5, hp, hB⟩ := s_bd hB
    refine s_Fin.cl (d := 0) (q1 := s_m173) (md := 173) (vs := [.int (108 : Int32), .int (111 : Int32), .int (103 : Int32), .int (115 : Int32), .int (0 : Int32), .int (0 : Int32)]) (rest := []) (h1 := s_hg g) (u := some (.long v5)) (s_Ev.up (by omega) (fM_spelt_s_s hp)) rfl rfl rfl rfl ?_
    have hB := Option.some.inj hB
    subst hB
    obtain ⟨rfl, rfl⟩ := hr
    exact s_Fin.rt rfl rfl
  rw [if_neg hc4] at hB
  by_cases hc5 : x0 = 5
  · rw [if_pos hc5] at hB
    refine s_Fin.nx (pc1 := 199) (L1 := [some (.int x0)]) (st1 := []) (h1 := s_hg g) (by rw [hc5]; exact rfl) rfl ?_
    refine s_Fin.sg 6 (y := (209, [some (.int x0)], [.int (0 : Int32), .int (0 : Int32), .int (102 : Int32), .int (114 : Int32), .int (117 : Int32), .int (116 : Int32)], s_hg g)) rfl ?_
    obtain ⟨v6, hp, hB⟩ := s_bd hB
    refine s_Fin.cl (d := 0) (q1 := s_m173) (md := 173) (vs := [.int (116 : Int32), .int (117 : Int32), .int (114 : Int32), .int (102 : Int32), .int (0 : Int32), .int (0 : Int32)]) (rest := []) (h1 := s_hg g) (u := some (.long v6)) (s_Ev.up (by omega) (fM_spelt_s_s hp)) rfl rfl rfl rfl ?_
    have hB := Option.some.inj hB
    subst hB
    obtain ⟨rfl, rfl⟩ := hr
    exact s_Fin.rt rfl rfl
  rw [if_neg hc5] at hB
  by_cases hc6 : x0 = 6
  · rw [if_pos hc6] at hB
    refine s_Fin.nx (pc1 := 213) (L1 := [some (.int x0)]) (st1 := []) (h1 := s_hg g) (by rw [hc6]; exact rfl) rfl ?_
    refine s_Fin.sg 6 (y := (222, [some (.int x0)], [.int (0 : Int32), .int (0 : Int32), .int (0 : Int32), .int (116 : Int32), .int (101 : Int32), .int (119 : Int32)], s_hg g)) rfl ?_
    obtain ⟨v7, hp, hB⟩ := s_bd hB
    refine s_Fin.cl (d := 0) (q1 := s_m173) (md := 173) (vs := [.int (119 : Int32), .int (101 : Int32), .int (116 : Int32), .int (0 : Int32), .int (0 : Int32), .int (0 : Int32)]) (rest := []) (h1 := s_hg g) (u := some (.long v7)) (s_Ev.up (by omega) (fM_spelt_s_s hp)) rfl rfl rfl rfl ?_
    have hB := Option.some.inj hB
    subst hB
    obtain ⟨rfl, rfl⟩ := hr
    exact s_Fin.rt rfl rfl
  rw [if_neg hc6] at hB
  by_cases hc7 : x0 = 7
  · rw [if_pos hc7] at hB
    refine s_Fin.nx (pc1 := 226) (L1 := [some (.int x0)]) (st1 := []) (h1 := s_hg g) (by rw [hc7]; exact rfl) rfl ?_
    refine s_Fin.sg 6 (y := (236, [some (.int x0)], [.int (0 : Int32), .int (0 : Int32), .int (114 : Int32), .int (97 : Int32), .int (101 : Int32), .int (102 : Int32)], s_hg g)) rfl ?_
    obtain ⟨v8, hp, hB⟩ := s_bd hB
    refine s_Fin.cl (d := 0) (q1 := s_m173) (md := 173) (vs := [.int (102 : Int32), .int (101 : Int32), .int (97 : Int32), .int (114 : Int32), .int (0 : Int32), .int (0 : Int32)]) (rest := []) (h1 := s_hg g) (u := some (.long v8)) (s_Ev.up (by omega) (fM_spelt_s_s hp)) rfl rfl rfl rfl ?_
    have hB := Option.some.inj hB
    subst hB
    obtain ⟨rfl, rfl⟩ := hr
    exact s_Fin.rt rfl rfl
  rw [if_neg hc7] at hB
  by_cases hc8 : x0 = 8
  · rw [if_pos hc8] at hB
    refine s_Fin.nx (pc1 := 240) (L1 := [some (.int x0)]) (st1 := []) (h1 := s_hg g) (by rw [hc8]; exact rfl) rfl ?_
    refine s_Fin.sg 6 (y := (251, [some (.int x0)], [.int (0 : Int32), .int (101 : Int32), .int (109 : Int32), .int (97 : Int32), .int (104 : Int32), .int (115 : Int32)], s_hg g)) rfl ?_
    obtain ⟨v9, hp, hB⟩ := s_bd hB
    refine s_Fin.cl (d := 0) (q1 := s_m173) (md := 173) (vs := [.int (115 : Int32), .int (104 : Int32), .int (97 : Int32), .int (109 : Int32), .int (101 : Int32), .int (0 : Int32)]) (rest := []) (h1 := s_hg g) (u := some (.long v9)) (s_Ev.up (by omega) (fM_spelt_s_s hp)) rfl rfl rfl rfl ?_
    have hB := Option.some.inj hB
    subst hB
    obtain ⟨rfl, rfl⟩ := hr
    exact s_Fin.rt rfl rfl
  rw [if_neg hc8] at hB
  by_cases hc9 : x0 = 9
  · rw [if_pos hc9] at hB
    refine s_Fin.nx (pc1 := 255) (L1 := [some (.int x0)]) (st1 := []) (h1 := s_hg g) (by rw [hc9]; exact rfl) rfl ?_
    refine s_Fin.sg 6 (y := (266, [some (.int x0)], [.int (0 : Int32), .int (102 : Int32), .int (101 : Int32), .int (105 : Int32), .int (114 : Int32), .int (103 : Int32)], s_hg g)) rfl ?_
    obtain ⟨v10, hp, hB⟩ := s_bd hB
    refine s_Fin.cl (d := 0) (q1 := s_m173) (md := 173) (vs := [.int (103 : Int32), .int (114 : Int32), .int (105 : Int32), .int (101 : Int32), .int (102 : Int32), .int (0 : Int32)]) (rest := []) (h1 := s_hg g) (u := some (.long v10)) (s_Ev.up (by omega) (fM_spelt_s_s hp)) rfl rfl rfl rfl ?_
    have hB := Option.some.inj hB
    subst hB
    obtain ⟨rfl, rfl⟩ := hr
    exact s_Fin.rt rfl rfl
  rw [if_neg hc9] at hB
  by_cases hc10 : x0 = 10
  · rw [if_pos hc10] at hB
    refine s_Fin.nx (pc1 := 270) (L1 := [some (.int x0)]) (st1 := []) (h1 := s_hg g) (by rw [hc10]; exact rfl) rfl ?_
    refine s_Fin.sg 6 (y := (279, [some (.int x0)], [.int (0 : Int32), .int (0 : Int32), .int (0 : Int32), .int (121 : Int32), .int (111 : Int32), .int (106 : Int32)], s_hg g)) rfl ?_
    obtain ⟨v11, hp, hB⟩ := s_bd hB
    refine s_Fin.cl (d := 0) (q1 := s_m173) (md := 173) (vs := [.int (106 : Int32), .int (111 : Int32), .int (121 : Int32), .int (0 : Int32), .int (0 : Int32), .int (0 : Int32)]) (rest := []) (h1 := s_hg g) (u := some (.long v11)) (s_Ev.up (by omega) (fM_spelt_s_s hp)) rfl rfl rfl rfl ?_
    have hB := Option.some.inj hB
    subst hB
    obtain ⟨rfl, rfl⟩ := hr
    exact s_Fin.rt rfl rfl
  rw [if_neg hc10] at hB
  by_cases hc11 : x0 = 11
  · rw [if_pos hc11] at hB
    refine s_Fin.nx (pc1 := 283) (L1 := [some (.int x0)]) (st1 := []) (h1 := s_hg g) (by rw [hc11]; exact rfl) rfl ?_
    refine s_Fin.sg 6 (y := (294, [some (.int x0)], [.int (0 : Int32), .int (115 : Int32), .int (108 : Int32), .int (108 : Int32), .int (101 : Int32), .int (116 : Int32)], s_hg g)) rfl ?_
    obtain ⟨v12, hp, hB⟩ := s_bd hB
    refine s_Fin.cl (d := 0) (q1 := s_m173) (md := 173) (vs := [.int (116 : Int32), .int (101 : Int32), .int (108 : Int32), .int (108 : Int32), .int (115 : Int32), .int (0 : Int32)]) (rest := []) (h1 := s_hg g) (u := some (.long v12)) (s_Ev.up (by omega) (fM_spelt_s_s hp)) rfl rfl rfl rfl ?_
    have hB := Option.some.inj hB
    subst hB
    obtain ⟨rfl, rfl⟩ := hr
    exact s_Fin.rt rfl rfl
  rw [if_neg hc11] at hB
  by_cases hc12 : x0 = 12
  · rw [if_pos hc12] at hB
    refine s_Fin.nx (pc1 := 298) (L1 := [some (.int x0)]) (st1 := []) (h1 := s_hg g) (by rw [hc12]; exact rfl) rfl ?_
    refine s_Fin.sg 6 (y := (308, [some (.int x0)], [.int (0 : Int32), .int (0 : Int32), .int (115 : Int32), .int (101 : Int32), .int (105 : Int32), .int (108 : Int32)], s_hg g)) rfl ?_
    obtain ⟨v13, hp, hB⟩ := s_bd hB
    refine s_Fin.cl (d := 0) (q1 := s_m173) (md := 173) (vs := [.int (108 : Int32), .int (105 : Int32), .int (101 : Int32), .int (115 : Int32), .int (0 : Int32), .int (0 : Int32)]) (rest := []) (h1 := s_hg g) (u := some (.long v13)) (s_Ev.up (by omega) (fM_spelt_s_s hp)) rfl rfl rfl rfl ?_
    have hB := Option.some.inj hB
    subst hB
    obtain ⟨rfl, rfl⟩ := hr
    exact s_Fin.rt rfl rfl
  rw [if_neg hc12] at hB
  by_cases hc13 : x0 = 13
  · rw [if_pos hc13] at hB
    refine s_Fin.nx (pc1 := 312) (L1 := [some (.int x0)]) (st1 := []) (h1 := s_hg g) (by rw [hc13]; exact rfl) rfl ?_
    refine s_Fin.sg 6 (y := (323, [some (.int x0)], [.int (0 : Int32), .int (115 : Int32), .int (101 : Int32), .int (118 : Int32), .int (105 : Int32), .int (103 : Int32)], s_hg g)) rfl ?_
    obtain ⟨v14, hp, hB⟩ := s_bd hB
    refine s_Fin.cl (d := 0) (q1 := s_m173) (md := 173) (vs := [.int (103 : Int32), .int (105 : Int32), .int (118 : Int32), .int (101 : Int32), .int (115 : Int32), .int (0 : Int32)]) (rest := []) (h1 := s_hg g) (u := some (.long v14)) (s_Ev.up (by omega) (fM_spelt_s_s hp)) rfl rfl rfl rfl ?_
    have hB := Option.some.inj hB
    subst hB
    obtain ⟨rfl, rfl⟩ := hr
    exact s_Fin.rt rfl rfl
  rw [if_neg hc13] at hB
  by_cases hc14 : x0 = 14
  · rw [if_pos hc14] at hB
    refine s_Fin.nx (pc1 := 327) (L1 := [some (.int x0)]) (st1 := []) (h1 := s_hg g) (by rw [hc14]; exact rfl) rfl ?_
    refine s_Fin.sg 6 (y := (336, [some (.int x0)], [.int (0 : Int32), .int (0 : Int32), .int (0 : Int32), .int (103 : Int32), .int (111 : Int32), .int (108 : Int32)], s_hg g)) rfl ?_
    obtain ⟨v15, hp, hB⟩ := s_bd hB
    refine s_Fin.cl (d := 0) (q1 := s_m173) (md := 173) (vs := [.int (108 : Int32), .int (111 : Int32), .int (103 : Int32), .int (0 : Int32), .int (0 : Int32), .int (0 : Int32)]) (rest := []) (h1 := s_hg g) (u := some (.long v15)) (s_Ev.up (by omega) (fM_spelt_s_s hp)) rfl rfl rfl rfl ?_
    have hB := Option.some.inj hB
    subst hB
    obtain ⟨rfl, rfl⟩ := hr
    exact s_Fin.rt rfl rfl
  rw [if_neg hc14] at hB
  by_cases hc15 : x0 = 15
  · rw [if_pos hc15] at hB
    refine s_Fin.nx (pc1 := 340) (L1 := [some (.int x0)]) (st1 := []) (h1 := s_hg g) (by rw [hc15]; exact rfl) rfl ?_
    refine s_Fin.sg 6 (y := (350, [some (.int x0)], [.int (0 : Int32), .int (0 : Int32), .int (101 : Int32), .int (107 : Int32), .int (97 : Int32), .int (114 : Int32)], s_hg g)) rfl ?_
    obtain ⟨v16, hp, hB⟩ := s_bd hB
    refine s_Fin.cl (d := 0) (q1 := s_m173) (md := 173) (vs := [.int (114 : Int32), .int (97 : Int32), .int (107 : Int32), .int (101 : Int32), .int (0 : Int32), .int (0 : Int32)]) (rest := []) (h1 := s_hg g) (u := some (.long v16)) (s_Ev.up (by omega) (fM_spelt_s_s hp)) rfl rfl rfl rfl ?_
    have hB := Option.some.inj hB
    subst hB
    obtain ⟨rfl, rfl⟩ := hr
    exact s_Fin.rt rfl rfl
  rw [if_neg hc15] at hB
  by_cases hc16 : x0 = 16
  · rw [if_pos hc16] at hB
    refine s_Fin.nx (pc1 := 354) (L1 := [some (.int x0)]) (st1 := []) (h1 := s_hg g) (by rw [hc16]; exact rfl) rfl ?_
    refine s_Fin.sg 6 (y := (363, [some (.int x0)], [.int (0 : Int32), .int (0 : Int32), .int (0 : Int32), .int (121 : Int32), .int (97 : Int32), .int (100 : Int32)], s_hg g)) rfl ?_
    obtain ⟨v17, hp, hB⟩ := s_bd hB
    refine s_Fin.cl (d := 0) (q1 := s_m173) (md := 173) (vs := [.int (100 : Int32), .int (97 : Int32), .int (121 : Int32), .int (0 : Int32), .int (0 : Int32), .int (0 : Int32)]) (rest := []) (h1 := s_hg g) (u := some (.long v17)) (s_Ev.up (by omega) (fM_spelt_s_s hp)) rfl rfl rfl rfl ?_
    have hB := Option.some.inj hB
    subst hB
    obtain ⟨rfl, rfl⟩ := hr
    exact s_Fin.rt rfl rfl
  rw [if_neg hc16] at hB
  by_cases hc17 : x0 = 17
  · rw [if_pos hc17] at hB
    refine s_Fin.nx (pc1 := 367) (L1 := [some (.int x0)]) (st1 := []) (h1 := s_hg g) (by rw [hc17]; exact rfl) rfl ?_
    refine s_Fin.sg 6 (y := (375, [some (.int x0)], [.int (0 : Int32), .int (0 : Int32), .int (0 : Int32), .int (0 : Int32), .int (114 : Int32), .int (111 : Int32)], s_hg g)) rfl ?_
    obtain ⟨v18, hp, hB⟩ := s_bd hB
    refine s_Fin.cl (d := 0) (q1 := s_m173) (md := 173) (vs := [.int (111 : Int32), .int (114 : Int32), .int (0 : Int32), .int (0 : Int32), .int (0 : Int32), .int (0 : Int32)]) (rest := []) (h1 := s_hg g) (u := some (.long v18)) (s_Ev.up (by omega) (fM_spelt_s_s hp)) rfl rfl rfl rfl ?_
    have hB := Option.some.inj hB
    subst hB
    obtain ⟨rfl, rfl⟩ := hr
    exact s_Fin.rt rfl rfl
  rw [if_neg hc17] at hB
  by_cases hc18 : x0 = 18
  · rw [if_pos hc18] at hB
    refine s_Fin.nx (pc1 := 379) (L1 := [some (.int x0)]) (st1 := []) (h1 := s_hg g) (by rw [hc18]; exact rfl) rfl ?_
    refine s_Fin.sg 6 (y := (388, [some (.int x0)], [.int (0 : Int32), .int (0 : Int32), .int (0 : Int32), .int (100 : Int32), .int (110 : Int32), .int (97 : Int32)], s_hg g)) rfl ?_
    obtain ⟨v19, hp, hB⟩ := s_bd hB
    refine s_Fin.cl (d := 0) (q1 := s_m173) (md := 173) (vs := [.int (97 : Int32), .int (110 : Int32), .int (100 : Int32), .int (0 : Int32), .int (0 : Int32), .int (0 : Int32)]) (rest := []) (h1 := s_hg g) (u := some (.long v19)) (s_Ev.up (by omega) (fM_spelt_s_s hp)) rfl rfl rfl rfl ?_
    have hB := Option.some.inj hB
    subst hB
    obtain ⟨rfl, rfl⟩ := hr
    exact s_Fin.rt rfl rfl
  rw [if_neg hc18] at hB
  by_cases hc19 : x0 = 19
  · rw [if_pos hc19] at hB
    refine s_Fin.nx (pc1 := 392) (L1 := [some (.int x0)]) (st1 := []) (h1 := s_hg g) (by rw [hc19]; exact rfl) rfl ?_
    refine s_Fin.sg 6 (y := (401, [some (.int x0)], [.int (0 : Int32), .int (0 : Int32), .int (0 : Int32), .int (116 : Int32), .int (111 : Int32), .int (110 : Int32)], s_hg g)) rfl ?_
    obtain ⟨v20, hp, hB⟩ := s_bd hB
    refine s_Fin.cl (d := 0) (q1 := s_m173) (md := 173) (vs := [.int (110 : Int32), .int (111 : Int32), .int (116 : Int32), .int (0 : Int32), .int (0 : Int32), .int (0 : Int32)]) (rest := []) (h1 := s_hg g) (u := some (.long v20)) (s_Ev.up (by omega) (fM_spelt_s_s hp)) rfl rfl rfl rfl ?_
    have hB := Option.some.inj hB
    subst hB
    obtain ⟨rfl, rfl⟩ := hr
    exact s_Fin.rt rfl rfl
  rw [if_neg hc19] at hB
  by_cases hc20 : x0 = 20
  · rw [if_pos hc20] at hB
    refine s_Fin.nx (pc1 := 405) (L1 := [some (.int x0)]) (st1 := []) (h1 := s_hg g) (by rw [hc20]; exact rfl) rfl ?_
    refine s_Fin.sg 6 (y := (415, [some (.int x0)], [.int (0 : Int32), .int (0 : Int32), .int (114 : Int32), .int (101 : Int32), .int (118 : Int32), .int (111 : Int32)], s_hg g)) rfl ?_
    obtain ⟨v21, hp, hB⟩ := s_bd hB
    refine s_Fin.cl (d := 0) (q1 := s_m173) (md := 173) (vs := [.int (111 : Int32), .int (118 : Int32), .int (101 : Int32), .int (114 : Int32), .int (0 : Int32), .int (0 : Int32)]) (rest := []) (h1 := s_hg g) (u := some (.long v21)) (s_Ev.up (by omega) (fM_spelt_s_s hp)) rfl rfl rfl rfl ?_
    have hB := Option.some.inj hB
    subst hB
    obtain ⟨rfl, rfl⟩ := hr
    exact s_Fin.rt rfl rfl
  rw [if_neg hc20] at hB
  by_cases hc21 : x0 = 21
  · rw [if_pos hc21] at hB
    refine s_Fin.nx (pc1 := 419) (L1 := [some (.int x0)]) (st1 := []) (h1 := s_hg g) (by rw [hc21]; exact rfl) rfl ?_
    refine s_Fin.sg 6 (y := (431, [some (.int x0)], [.int (100 : Int32), .int (101 : Int32), .int (104 : Int32), .int (115 : Int32), .int (117 : Int32), .int (104 : Int32)], s_hg g)) rfl ?_
    obtain ⟨v22, hp, hB⟩ := s_bd hB
    refine s_Fin.cl (d := 0) (q1 := s_m173) (md := 173) (vs := [.int (104 : Int32), .int (117 : Int32), .int (115 : Int32), .int (104 : Int32), .int (101 : Int32), .int (100 : Int32)]) (rest := []) (h1 := s_hg g) (u := some (.long v22)) (s_Ev.up (by omega) (fM_spelt_s_s hp)) rfl rfl rfl rfl ?_
    have hB := Option.some.inj hB
    subst hB
    obtain ⟨rfl, rfl⟩ := hr
    exact s_Fin.rt rfl rfl
  rw [if_neg hc21] at hB
  by_cases hc22 : x0 = 22
  · rw [if_pos hc22] at hB
    refine s_Fin.nx (pc1 := 435) (L1 := [some (.int x0)]) (st1 := []) (h1 := s_hg g) (by rw [hc22]; exact rfl) rfl ?_
    refine s_Fin.sg 6 (y := (446, [some (.int x0)], [.int (0 : Int32), .int (116 : Int32), .int (104 : Int32), .int (103 : Int32), .int (105 : Int32), .int (108 : Int32)], s_hg g)) rfl ?_
    obtain ⟨v23, hp, hB⟩ := s_bd hB
    refine s_Fin.cl (d := 0) (q1 := s_m173) (md := 173) (vs := [.int (108 : Int32), .int (105 : Int32), .int (103 : Int32), .int (104 : Int32), .int (116 : Int32), .int (0 : Int32)]) (rest := []) (h1 := s_hg g) (u := some (.long v23)) (s_Ev.up (by omega) (fM_spelt_s_s hp)) rfl rfl rfl rfl ?_
    have hB := Option.some.inj hB
    subst hB
    obtain ⟨rfl, rfl⟩ := hr
    exact s_Fin.rt rfl rfl
  rw [if_neg hc22] at hB
  by_cases hc23 : x0 = 23
  · rw [if_pos hc23] at hB
    refine s_Fin.nx (pc1 := 450) (L1 := [some (.int x0)]) (st1 := []) (h1 := s_hg g) (by rw [hc23]; exact rfl) rfl ?_
    refine s_Fin.sg 6 (y := (459, [some (.int x0)], [.int (0 : Int32), .int (0 : Int32), .int (0 : Int32), .int (115 : Int32), .int (97 : Int32), .int (104 : Int32)], s_hg g)) rfl ?_
    obtain ⟨v24, hp, hB⟩ := s_bd hB
    refine s_Fin.cl (d := 0) (q1 := s_m173) (md := 173) (vs := [.int (104 : Int32), .int (97 : Int32), .int (115 : Int32), .int (0 : Int32), .int (0 : Int32), .int (0 : Int32)]) (rest := []) (h1 := s_hg g) (u := some (.long v24)) (s_Ev.up (by omega) (fM_spelt_s_s hp)) rfl rfl rfl rfl ?_
    have hB := Option.some.inj hB
    subst hB
    obtain ⟨rfl, rfl⟩ := hr
    exact s_Fin.rt rfl rfl
  rw [if_neg hc23] at hB
  by_cases hc24 : x0 = 24
  · rw [if_pos hc24] at hB
    refine s_Fin.nx (pc1 := 463) (L1 := [some (.int x0)]) (st1 := []) (h1 := s_hg g) (by rw [hc24]; exact rfl) rfl ?_
    refine s_Fin.sg 6 (y := (472, [some (.int x0)], [.int (0 : Int32), .int (0 : Int32), .int (0 : Int32), .int (115 : Int32), .int (105 : Int32), .int (104 : Int32)], s_hg g)) rfl ?_
    obtain ⟨v25, hp, hB⟩ := s_bd hB
    refine s_Fin.cl (d := 0) (q1 := s_m173) (md := 173) (vs := [.int (104 : Int32), .int (105 : Int32), .int (115 : Int32), .int (0 : Int32), .int (0 : Int32), .int (0 : Int32)]) (rest := []) (h1 := s_hg g) (u := some (.long v25)) (s_Ev.up (by omega) (fM_spelt_s_s hp)) rfl rfl rfl rfl ?_
    have hB := Option.some.inj hB
    subst hB
    obtain ⟨rfl, rfl⟩ := hr
    exact s_Fin.rt rfl rfl
  rw [if_neg hc24] at hB
  by_cases hc25 : x0 = 25
  · rw [if_pos hc25] at hB
    refine s_Fin.nx (pc1 := 476) (L1 := [some (.int x0)]) (st1 := []) (h1 := s_hg g) (by rw [hc25]; exact rfl) rfl ?_
    refine s_Fin.sg 6 (y := (486, [some (.int x0)], [.int (0 : Int32), .int (0 : Int32), .int (100 : Int32), .int (97 : Int32), .int (111 : Int32), .int (108 : Int32)], s_hg g)) rfl ?_
    obtain ⟨v26, hp, hB⟩ := s_bd hB
    refine s_Fin.cl (d := 0) (q1 := s_m173) (md := 173) (vs := [.int (108 : Int32), .int (111 : Int32), .int (97 : Int32), .int (100 : Int32), .int (0 : Int32), .int (0 : Int32)]) (rest := []) (h1 := s_hg g) (u := some (.long v26)) (s_Ev.up (by omega) (fM_spelt_s_s hp)) rfl rfl rfl rfl ?_
    have hB := Option.some.inj hB
    subst hB
    obtain ⟨rfl, rfl⟩ := hr
    exact s_Fin.rt rfl rfl
  rw [if_neg hc25] at hB
  by_cases hc26 : x0 = 26
  · rw [if_pos hc26] at hB
    refine s_Fin.nx (pc1 := 490) (L1 := [some (.int x0)]) (st1 := []) (h1 := s_hg g) (by rw [hc26]; exact rfl) rfl ?_
    refine s_Fin.sg 6 (y := (501, [some (.int x0)], [.int (0 : Int32), .int (115 : Int32), .int (114 : Int32), .int (97 : Int32), .int (101 : Int32), .int (98 : Int32)], s_hg g)) rfl ?_
    obtain ⟨v27, hp, hB⟩ := s_bd hB
    refine s_Fin.cl (d := 0) (q1 := s_m173) (md := 173) (vs := [.int (98 : Int32), .int (101 : Int32), .int (97 : Int32), .int (114 : Int32), .int (115 : Int32), .int (0 : Int32)]) (rest := []) (h1 := s_hg g) (u := some (.long v27)) (s_Ev.up (by omega) (fM_spelt_s_s hp)) rfl rfl rfl rfl ?_
    have hB := Option.some.inj hB
    subst hB
    obtain ⟨rfl, rfl⟩ := hr
    exact s_Fin.rt rfl rfl
  rw [if_neg hc26] at hB
  by_cases hc27 : x0 = 27
  · rw [if_pos hc27] at hB
    refine s_Fin.nx (pc1 := 505) (L1 := [some (.int x0)]) (st1 := []) (h1 := s_hg g) (by rw [hc27]; exact rfl) rfl ?_
    refine s_Fin.sg 6 (y := (516, [some (.int x0)], [.int (0 : Int32), .int (115 : Int32), .int (114 : Int32), .int (97 : Int32), .int (101 : Int32), .int (116 : Int32)], s_hg g)) rfl ?_
    obtain ⟨v28, hp, hB⟩ := s_bd hB
    refine s_Fin.cl (d := 0) (q1 := s_m173) (md := 173) (vs := [.int (116 : Int32), .int (101 : Int32), .int (97 : Int32), .int (114 : Int32), .int (115 : Int32), .int (0 : Int32)]) (rest := []) (h1 := s_hg g) (u := some (.long v28)) (s_Ev.up (by omega) (fM_spelt_s_s hp)) rfl rfl rfl rfl ?_
    have hB := Option.some.inj hB
    subst hB
    obtain ⟨rfl, rfl⟩ := hr
    exact s_Fin.rt rfl rfl
  rw [if_neg hc27] at hB
  have ht : x0.toInt < 0 ∨ (28 : Int) ≤ x0.toInt := by
    have q0 : ¬ x0.toInt = 0 := s_tne hc0 (by decide)
    have q1 : ¬ x0.toInt = 1 := s_tne hc1 (by decide)
    have q2 : ¬ x0.toInt = 2 := s_tne hc2 (by decide)
    have q3 : ¬ x0.toInt = 3 := s_tne hc3 (by decide)
    have q4 : ¬ x0.toInt = 4 := s_tne hc4 (by decide)
    have q5 : ¬ x0.toInt = 5 := s_tne hc5 (by decide)
    have q6 : ¬ x0.toInt = 6 := s_tne hc6 (by decide)
    have q7 : ¬ x0.toInt = 7 := s_tne hc7 (by decide)
    have q8 : ¬ x0.toInt = 8 := s_tne hc8 (by decide)
    have q9 : ¬ x0.toInt = 9 := s_tne hc9 (by decide)
    have q10 : ¬ x0.toInt = 10 := s_tne hc10 (by decide)
    have q11 : ¬ x0.toInt = 11 := s_tne hc11 (by decide)
    have q12 : ¬ x0.toInt = 12 := s_tne hc12 (by decide)
    have q13 : ¬ x0.toInt = 13 := s_tne hc13 (by decide)
    have q14 : ¬ x0.toInt = 14 := s_tne hc14 (by decide)
    have q15 : ¬ x0.toInt = 15 := s_tne hc15 (by decide)
    have q16 : ¬ x0.toInt = 16 := s_tne hc16 (by decide)
    have q17 : ¬ x0.toInt = 17 := s_tne hc17 (by decide)
    have q18 : ¬ x0.toInt = 18 := s_tne hc18 (by decide)
    have q19 : ¬ x0.toInt = 19 := s_tne hc19 (by decide)
    have q20 : ¬ x0.toInt = 20 := s_tne hc20 (by decide)
    have q21 : ¬ x0.toInt = 21 := s_tne hc21 (by decide)
    have q22 : ¬ x0.toInt = 22 := s_tne hc22 (by decide)
    have q23 : ¬ x0.toInt = 23 := s_tne hc23 (by decide)
    have q24 : ¬ x0.toInt = 24 := s_tne hc24 (by decide)
    have q25 : ¬ x0.toInt = 25 := s_tne hc25 (by decide)
    have q26 : ¬ x0.toInt = 26 := s_tne hc26 (by decide)
    have q27 : ¬ x0.toInt = 27 := s_tne hc27 (by decide)
    omega
  refine s_Fin.nx (pc1 := 520) (L1 := [some (.int x0)]) (st1 := []) (h1 := s_hg g) ((show _ = s_ts x0.toInt 1 [some (.int x0)] [] (s_hg g) 519 0 [127, 140, 155, 170, 184, 198, 212, 225, 239, 254, 269, 282, 297, 311, 326, 339, 353, 366, 378, 391, 404, 418, 434, 449, 462, 475, 489, 504] from rfl).trans (s_ts_ms (n := 28) rfl ht (t := 520) rfl)) rfl ?_
  refine s_Fin.sg 6 (y := (532, [some (.int x0)], [.int (114 : Int32), .int (101 : Int32), .int (98 : Int32), .int (109 : Int32), .int (117 : Int32), .int (110 : Int32)], s_hg g)) rfl ?_
  obtain ⟨v29, hp, hB⟩ := s_bd hB
  refine s_Fin.cl (d := 0) (q1 := s_m173) (md := 173) (vs := [.int (110 : Int32), .int (117 : Int32), .int (109 : Int32), .int (98 : Int32), .int (101 : Int32), .int (114 : Int32)]) (rest := []) (h1 := s_hg g) (u := some (.long v29)) (s_Ev.up (by omega) (fM_spelt_s_s hp)) rfl rfl rfl rfl ?_
  have hB := Option.some.inj hB
  subst hB
  obtain ⟨rfl, rfl⟩ := hr
  exact s_Fin.rt rfl rfl
-- CampAshesModel.isWord
noncomputable def fM_isWord_130 (x1 : Int32) (g : s_G) : Option (Int32) :=
  if (g.1 130 7) = (2 : Int32) then (s_b1 (fM_wordOf_s x1 g) fun v1 => if (lg_cmp (g.2.1 130 12) v1) = 0 then (some (1 : Int32))
  else some (0 : Int32))
  else some (0 : Int32)
theorem fM_isWord_130_s {x1 : Int32} {g : s_G} {z : Int32} (hB : fM_isWord_130 x1 g = some z) : s_Ev 2 s_m171 [.ref 130, .int x1] (s_hg g) (some (.int z)) (s_hg g) := by
  unfold fM_isWord_130 at hB
  refine s_Ev.fin ((?_ : ∀ (v : Option Value) (h' : s_H), (fun (z : Int32) (v : Option Value) (h' : s_H) => v = some (.int z) ∧ h' = s_hg g) z v h' → s_Fin 2 s_m171 (0, s_ent [.ref 130, .int x1] (s_m171).2.2.1, [], s_hg g) v h') _ _ ⟨rfl, rfl⟩)
  intro v h' hr
  refine (show s_Fin 2 s_m171 (0, [some (.ref 130), some (.int x1)], [], s_hg g) v h' from ?_)
  refine s_Fin.sg 3 (y := (5, [some (.ref 130), some (.int x1)], [.int (2 : Int32), .int (g.1 130 7)], s_hg g)) rfl ?_
  by_cases hc : (g.1 130 7) = (2 : Int32)
  · rw [if_pos hc] at hB
    refine s_Fin.bf (c := ¬ (g.1 130 7) = (2 : Int32)) (tg := 24) (p2 := 5) (L1 := [some (.ref 130), some (.int x1)]) (st1 := []) (fun h => h hc) rfl ?_
    refine s_Fin.sg 3 (y := (13, [some (.ref 130), some (.int x1)], [.int x1, .long (g.2.1 130 12)], s_hg g)) rfl ?_
    obtain ⟨v1, hp, hB⟩ := s_bd hB
    refine s_Fin.cl (d := 1) (q1 := s_m172) (md := 172) (vs := [.int x1]) (rest := [.long (g.2.1 130 12)]) (h1 := s_hg g) (u := some (.long v1)) (s_Ev.up (by omega) (fM_wordOf_s_s hp)) rfl rfl rfl rfl ?_
    refine s_Fin.sg 1 (y := (17, [some (.ref 130), some (.int x1)], [.int (lg_cmp (g.2.1 130 12) v1)], s_hg g)) rfl ?_
    by_cases hc : (lg_cmp (g.2.1 130 12) v1) = 0
    · rw [if_pos hc] at hB
      refine s_Fin.bf (c := ¬ (lg_cmp (g.2.1 130 12) v1) = 0) (tg := 24) (p2 := 17) (L1 := [some (.ref 130), some (.int x1)]) (st1 := []) (fun h => h hc) rfl ?_
      refine s_Fin.sg 2 (y := (25, [some (.ref 130), some (.int x1)], [.int (1 : Int32)], s_hg g)) rfl ?_
      have hB := Option.some.inj hB
      subst hB
      obtain ⟨rfl, rfl⟩ := hr
      exact s_Fin.rt rfl rfl
    · rw [if_neg hc] at hB
      refine s_Fin.bt (c := ¬ (lg_cmp (g.2.1 130 12) v1) = 0) (tg := 24) (p2 := 17) (L1 := [some (.ref 130), some (.int x1)]) (st1 := []) hc rfl ?_
      refine s_Fin.sg 1 (y := (25, [some (.ref 130), some (.int x1)], [.int (0 : Int32)], s_hg g)) rfl ?_
      have hB := Option.some.inj hB
      subst hB
      obtain ⟨rfl, rfl⟩ := hr
      exact s_Fin.rt rfl rfl
  · rw [if_neg hc] at hB
    refine s_Fin.bt (c := ¬ (g.1 130 7) = (2 : Int32)) (tg := 24) (p2 := 5) (L1 := [some (.ref 130), some (.int x1)]) (st1 := []) hc rfl ?_
    refine s_Fin.sg 1 (y := (25, [some (.ref 130), some (.int x1)], [.int (0 : Int32)], s_hg g)) rfl ?_
    have hB := Option.some.inj hB
    subst hB
    obtain ⟨rfl, rfl⟩ := hr
    exact s_Fin.rt rfl rfl
-- CampAshesModel.bad
noncomputable def fM_bad_130 (x1 : Int32) (g : s_G) : Option (Int32 × s_G) :=
  if (g.1 130 7) = (1 : Int32) then (some ((0 : Int32), (s_si (s_si g 130 10 (1 : Int32)) 130 11 (g.1 130 6))))
  else some ((0 : Int32), (s_si (s_si g 130 10 x1) 130 11 (g.1 130 6)))
theorem fM_bad_130_s {x1 : Int32} {g : s_G} {z : Int32 × s_G} (hB : fM_bad_130 x1 g = some z) : s_Ev 0 s_m176 [.ref 130, .int x1] (s_hg g) (some (.int z.1)) (s_hg z.2) := by
  unfold fM_bad_130 at hB
  refine s_Ev.fin ((?_ : ∀ (v : Option Value) (h' : s_H), (fun (z : Int32 × s_G) (v : Option Value) (h' : s_H) => v = some (.int z.1) ∧ h' = s_hg z.2) z v h' → s_Fin 0 s_m176 (0, s_ent [.ref 130, .int x1] (s_m176).2.2.1, [], s_hg g) v h') _ _ ⟨rfl, rfl⟩)
  intro v h' hr
  refine (show s_Fin 0 s_m176 (0, [some (.ref 130), some (.int x1)], [], s_hg g) v h' from ?_)
  refine s_Fin.sg 4 (y := (6, [some (.ref 130), some (.int x1)], [.int (1 : Int32), .int (g.1 130 7), .ref 130], s_hg g)) rfl ?_
  by_cases hc : (g.1 130 7) = (1 : Int32)
  · rw [if_pos hc] at hB
    refine s_Fin.bf (c := ¬ (g.1 130 7) = (1 : Int32)) (tg := 13) (p2 := 6) (L1 := [some (.ref 130), some (.int x1)]) (st1 := [.ref 130]) (fun h => h hc) rfl ?_
    refine s_Fin.sg 8 (y := (26, [some (.ref 130), some (.int x1)], [.int (0 : Int32)], s_hg (s_si (s_si g 130 10 (1 : Int32)) 130 11 (g.1 130 6)))) rfl ?_
    have hB := Option.some.inj hB
    subst hB
    obtain ⟨rfl, rfl⟩ := hr
    exact s_Fin.rt rfl rfl
  · rw [if_neg hc] at hB
    refine s_Fin.bt (c := ¬ (g.1 130 7) = (1 : Int32)) (tg := 13) (p2 := 6) (L1 := [some (.ref 130), some (.int x1)]) (st1 := [.ref 130]) hc rfl ?_
    refine s_Fin.sg 7 (y := (26, [some (.ref 130), some (.int x1)], [.int (0 : Int32)], s_hg (s_si (s_si g 130 10 x1) 130 11 (g.1 130 6)))) rfl ?_
    have hB := Option.some.inj hB
    subst hB
    obtain ⟨rfl, rfl⟩ := hr
    exact s_Fin.rt rfl rfl
-- CampAshesModel.isIn
noncomputable def fM_isIn_s (x0 : Int32) (x1 : Int32) (x2 : Int32) (g : s_G) : Option (Int32) :=
  if x0 < x1 then (some (0 : Int32))
  else if x2 < x0 then (some (0 : Int32))
  else some (1 : Int32)
theorem fM_isIn_s_s {x0 : Int32} {x1 : Int32} {x2 : Int32} {g : s_G} {z : Int32} (hB : fM_isIn_s x0 x1 x2 g = some z) : s_Ev 0 s_m181 [.int x0, .int x1, .int x2] (s_hg g) (some (.int z)) (s_hg g) := by
  unfold fM_isIn_s at hB
  refine s_Ev.fin ((?_ : ∀ (v : Option Value) (h' : s_H), (fun (z : Int32) (v : Option Value) (h' : s_H) => v = some (.int z) ∧ h' = s_hg g) z v h' → s_Fin 0 s_m181 (0, s_ent [.int x0, .int x1, .int x2] (s_m181).2.2.1, [], s_hg g) v h') _ _ ⟨rfl, rfl⟩)
  intro v h' hr
  refine (show s_Fin 0 s_m181 (0, [some (.int x0), some (.int x1), some (.int x2)], [], s_hg g) v h' from ?_)
  refine s_Fin.sg 2 (y := (2, [some (.int x0), some (.int x1), some (.int x2)], [.int x1, .int x0], s_hg g)) rfl ?_
  by_cases hc : x0 < x1
  · rw [if_pos hc] at hB
    refine s_Fin.bt (c := x0 < x1) (tg := 14) (p2 := 2) (L1 := [some (.int x0), some (.int x1), some (.int x2)]) (st1 := []) hc rfl ?_
    refine s_Fin.sg 1 (y := (15, [some (.int x0), some (.int x1), some (.int x2)], [.int (0 : Int32)], s_hg g)) rfl ?_
    have hB := Option.some.inj hB
    subst hB
    obtain ⟨rfl, rfl⟩ := hr
    exact s_Fin.rt rfl rfl
  · rw [if_neg hc] at hB
    refine s_Fin.bf (c := x0 < x1) (tg := 14) (p2 := 2) (L1 := [some (.int x0), some (.int x1), some (.int x2)]) (st1 := []) hc rfl ?_
    refine s_Fin.sg 2 (y := (7, [some (.int x0), some (.int x1), some (.int x2)], [.int x2, .int x0], s_hg g)) rfl ?_
    by_cases hc : x2 < x0
    · rw [if_pos hc] at hB
      refine s_Fin.bt (c := x2 < x0) (tg := 14) (p2 := 7) (L1 := [some (.int x0), some (.int x1), some (.int x2)]) (st1 := []) hc rfl ?_
      refine s_Fin.sg 1 (y := (15, [some (.int x0), some (.int x1), some (.int x2)], [.int (0 : Int32)], s_hg g)) rfl ?_
      have hB := Option.some.inj hB
      subst hB
      obtain ⟨rfl, rfl⟩ := hr
      exact s_Fin.rt rfl rfl
    · rw [if_neg hc] at hB
      refine s_Fin.bf (c := x2 < x0) (tg := 14) (p2 := 7) (L1 := [some (.int x0), some (.int x1), some (.int x2)]) (st1 := []) hc rfl ?_
      refine s_Fin.sg 2 (y := (15, [some (.int x0), some (.int x1), some (.int x2)], [.int (1 : Int32)], s_hg g)) rfl ?_
      have hB := Option.some.inj hB
      subst hB
      obtain ⟨rfl, rfl⟩ := hr
      exact s_Fin.rt rfl rfl
-- CampAshesModel.readNumber
noncomputable def fM_readNumber_130 (x1 : Int32) (x2 : Int32) (g : s_G) : Option (Int32 × s_G) :=
  if (g.1 130 7) = (3 : Int32) then (s_b1 (fM_isIn_s (g.1 130 8) x1 x2 g) fun v1 => if v1 = 0 then (s_b2 (fM_bad_130 (2 : Int32) g) fun v3 g2 => if v3 = 0 ∨ v3 = 1 then some (v3, g2)
  else none)
  else s_b1 (fM_go_130 (s_si g 130 13 (g.1 130 8))) fun g4 => some ((1 : Int32), g4))
  else s_b2 (fM_bad_130 (1 : Int32) g) fun v6 g5 => if v6 = 0 ∨ v6 = 1 then some (v6, g5)
  else none
theorem fM_readNumber_130_s {x1 : Int32} {x2 : Int32} {g : s_G} {z : Int32 × s_G} (hB : fM_readNumber_130 x1 x2 g = some z) : s_Ev 2 s_m180 [.ref 130, .int x1, .int x2] (s_hg g) (some (.int z.1)) (s_hg z.2) := by
  unfold fM_readNumber_130 at hB
  refine s_Ev.fin ((?_ : ∀ (v : Option Value) (h' : s_H), (fun (z : Int32 × s_G) (v : Option Value) (h' : s_H) => v = some (.int z.1) ∧ h' = s_hg z.2) z v h' → s_Fin 2 s_m180 (0, s_ent [.ref 130, .int x1, .int x2] (s_m180).2.2.1, [], s_hg g) v h') _ _ ⟨rfl, rfl⟩)
  intro v h' hr
  refine (show s_Fin 2 s_m180 (0, [some (.ref 130), some (.int x1), some (.int x2)], [], s_hg g) v h' from ?_)
  refine s_Fin.sg 3 (y := (5, [some (.ref 130), some (.int x1), some (.int x2)], [.int (3 : Int32), .int (g.1 130 7)], s_hg g)) rfl ?_
  by_cases hc : (g.1 130 7) = (3 : Int32)
  · rw [if_pos hc] at hB
    refine s_Fin.bt (c := (g.1 130 7) = (3 : Int32)) (tg := 14) (p2 := 5) (L1 := [some (.ref 130), some (.int x1), some (.int x2)]) (st1 := []) hc rfl ?_
    refine s_Fin.sg 4 (y := (20, [some (.ref 130), some (.int x1), some (.int x2)], [.int x2, .int x1, .int (g.1 130 8)], s_hg g)) rfl ?_
    obtain ⟨v1, hp, hB⟩ := s_bd hB
    refine s_Fin.cl (d := 1) (q1 := s_m181) (md := 181) (vs := [.int (g.1 130 8), .int x1, .int x2]) (rest := []) (h1 := s_hg g) (u := some (.int v1)) (s_Ev.up (by omega) (fM_isIn_s_s hp)) rfl rfl rfl rfl ?_
    by_cases hc : v1 = 0
    · rw [if_pos hc] at hB
      refine s_Fin.bf (c := ¬ v1 = 0) (tg := 32) (p2 := 23) (L1 := [some (.ref 130), some (.int x1), some (.int x2)]) (st1 := []) (fun h => h hc) rfl ?_
      refine s_Fin.sg 2 (y := (28, [some (.ref 130), some (.int x1), some (.int x2)], [.int (2 : Int32), .ref 130], s_hg g)) rfl ?_
      obtain ⟨v3, g2, hp, hB⟩ := s_bd2 hB
      refine s_Fin.cl (d := 1) (q1 := s_m176) (md := 176) (vs := [.ref 130, .int (2 : Int32)]) (rest := []) (h1 := s_hg g2) (u := some (.int v3)) (s_Ev.up (by omega) (fM_bad_130_s hp)) rfl rfl rfl rfl ?_
      have hc : v3 = 0 ∨ v3 = 1 := Classical.byContradiction fun h => (by rw [if_neg h] at hB; cases hB)
      rw [if_pos hc] at hB
      have hB := Option.some.inj hB
      subst hB
      obtain ⟨rfl, rfl⟩ := hr
      exact s_Fin.rt (by rcases hc with hc | hc <;> rw [hc] <;> exact rfl) rfl
    · rw [if_neg hc] at hB
      refine s_Fin.bt (c := ¬ v1 = 0) (tg := 32) (p2 := 23) (L1 := [some (.ref 130), some (.int x1), some (.int x2)]) (st1 := []) hc rfl ?_
      refine s_Fin.sg 5 (y := (41, [some (.ref 130), some (.int x1), some (.int x2)], [.ref 130], s_hg (s_si g 130 13 (g.1 130 8)))) rfl ?_
      obtain ⟨g4, hp, hB⟩ := s_bd hB
      refine s_Fin.cl (d := 1) (q1 := s_m166) (md := 166) (vs := [.ref 130]) (rest := []) (h1 := s_hg g4) (u := none) (s_Ev.up (by omega) (fM_go_130_s hp)) rfl rfl rfl rfl ?_
      refine s_Fin.sg 1 (y := (45, [some (.ref 130), some (.int x1), some (.int x2)], [.int (1 : Int32)], s_hg g4)) rfl ?_
      have hB := Option.some.inj hB
      subst hB
      obtain ⟨rfl, rfl⟩ := hr
      exact s_Fin.rt rfl rfl
  · rw [if_neg hc] at hB
    refine s_Fin.bf (c := (g.1 130 7) = (3 : Int32)) (tg := 14) (p2 := 5) (L1 := [some (.ref 130), some (.int x1), some (.int x2)]) (st1 := []) hc rfl ?_
    refine s_Fin.sg 2 (y := (10, [some (.ref 130), some (.int x1), some (.int x2)], [.int (1 : Int32), .ref 130], s_hg g)) rfl ?_
    obtain ⟨v6, g5, hp, hB⟩ := s_bd2 hB
    refine s_Fin.cl (d := 1) (q1 := s_m176) (md := 176) (vs := [.ref 130, .int (1 : Int32)]) (rest := []) (h1 := s_hg g5) (u := some (.int v6)) (s_Ev.up (by omega) (fM_bad_130_s hp)) rfl rfl rfl rfl ?_
    have hc : v6 = 0 ∨ v6 = 1 := Classical.byContradiction fun h => (by rw [if_neg h] at hB; cases hB)
    rw [if_pos hc] at hB
    have hB := Option.some.inj hB
    subst hB
    obtain ⟨rfl, rfl⟩ := hr
    exact s_Fin.rt (by rcases hc with hc | hc <;> rw [hc] <;> exact rfl) rfl
-- CampAshesModel.put
noncomputable def fM_put_130 (x1 : Int32) (x2 : Int32) (g : s_G) : Option (Int32 × s_G) :=
  if x2 = 0 then (if x2 = 0 ∨ x2 = 1 then some (x2, g)
  else none)
  else s_b1 (s_ix 47 x1) fun k2 => if x2 = 0 ∨ x2 = 1 then some (x2, (s_si g 133 k2 (g.1 130 13)))
  else none
theorem fM_put_130_s {x1 : Int32} {x2 : Int32} {g : s_G} {z : Int32 × s_G} (hB : fM_put_130 x1 x2 g = some z) : s_Ev 0 s_m182 [.ref 130, .int x1, .int x2] (s_hg g) (some (.int z.1)) (s_hg z.2) := by
  unfold fM_put_130 at hB
  refine s_Ev.fin ((?_ : ∀ (v : Option Value) (h' : s_H), (fun (z : Int32 × s_G) (v : Option Value) (h' : s_H) => v = some (.int z.1) ∧ h' = s_hg z.2) z v h' → s_Fin 0 s_m182 (0, s_ent [.ref 130, .int x1, .int x2] (s_m182).2.2.1, [], s_hg g) v h') _ _ ⟨rfl, rfl⟩)
  intro v h' hr
  refine (show s_Fin 0 s_m182 (0, [some (.ref 130), some (.int x1), some (.int x2)], [], s_hg g) v h' from ?_)
  refine s_Fin.sg 1 (y := (1, [some (.ref 130), some (.int x1), some (.int x2)], [.int x2], s_hg g)) rfl ?_
  by_cases hc : x2 = 0
  · rw [if_pos hc] at hB
    refine s_Fin.bt (c := x2 = 0) (tg := 14) (p2 := 1) (L1 := [some (.ref 130), some (.int x1), some (.int x2)]) (st1 := []) hc rfl ?_
    refine s_Fin.sg 1 (y := (15, [some (.ref 130), some (.int x1), some (.int x2)], [.int x2], s_hg g)) rfl ?_
    have hc : x2 = 0 ∨ x2 = 1 := Classical.byContradiction fun h => (by rw [if_neg h] at hB; cases hB)
    rw [if_pos hc] at hB
    have hB := Option.some.inj hB
    subst hB
    obtain ⟨rfl, rfl⟩ := hr
    exact s_Fin.rt (by rcases hc with hc | hc <;> rw [hc] <;> exact rfl) rfl
  · rw [if_neg hc] at hB
    refine s_Fin.bf (c := x2 = 0) (tg := 14) (p2 := 1) (L1 := [some (.ref 130), some (.int x1), some (.int x2)]) (st1 := []) hc rfl ?_
    refine s_Fin.sg 5 (y := (13, [some (.ref 130), some (.int x1), some (.int x2)], [.int (g.1 130 13), .int x1, .ref 133], s_hg g)) rfl ?_
    obtain ⟨k2, hk2, hB⟩ := s_bd hB
    refine s_Fin.ix (n := 47) (i := x1) (pc1 := 14) (L1 := [some (.ref 130), some (.int x1), some (.int x2)]) (fun j1 => []) (fun j1 => s_hg (s_si g 133 j1 (g.1 130 13))) hk2 rfl rfl ?_
    refine s_Fin.sg 1 (y := (15, [some (.ref 130), some (.int x1), some (.int x2)], [.int x2], s_hg (s_si g 133 k2 (g.1 130 13)))) rfl ?_
    have hc : x2 = 0 ∨ x2 = 1 := Classical.byContradiction fun h => (by rw [if_neg h] at hB; cases hB)
    rw [if_pos hc] at hB
    have hB := Option.some.inj hB
    subst hB
    obtain ⟨rfl, rfl⟩ := hr
    exact s_Fin.rt (by rcases hc with hc | hc <;> rw [hc] <;> exact rfl) rfl
-- CampAshesModel.readOnce
noncomputable def fM_readOnce_130 (x1 : Int32) (x2 : Int32) (x3 : Int32) (x4 : Int32) (g : s_G) : Option (Int32 × s_G) :=
  s_b1 (s_ix 4 x1) fun k2 => if (g.1 141 k2) = 0 then (s_b1 (fM_go_130 (s_si g 141 k2 ((1 : Int32) &&& 1))) fun g4 => s_b2 (fM_readNumber_130 x3 x4 g4) fun v6 g5 => s_b2 (fM_put_130 x2 v6 g5) fun v8 g7 => if v8 = 0 ∨ v8 = 1 then some (v8, g7)
  else none)
  else s_b2 (fM_bad_130 (3 : Int32) g) fun v10 g9 => if v10 = 0 ∨ v10 = 1 then some (v10, g9)
  else none
theorem fM_readOnce_130_s {x1 : Int32} {x2 : Int32} {x3 : Int32} {x4 : Int32} {g : s_G} {z : Int32 × s_G} (hB : fM_readOnce_130 x1 x2 x3 x4 g = some z) : s_Ev 3 s_m187 [.ref 130, .int x1, .int x2, .int x3, .int x4] (s_hg g) (some (.int z.1)) (s_hg z.2) := by
  unfold fM_readOnce_130 at hB
  refine s_Ev.fin ((?_ : ∀ (v : Option Value) (h' : s_H), (fun (z : Int32 × s_G) (v : Option Value) (h' : s_H) => v = some (.int z.1) ∧ h' = s_hg z.2) z v h' → s_Fin 3 s_m187 (0, s_ent [.ref 130, .int x1, .int x2, .int x3, .int x4] (s_m187).2.2.1, [], s_hg g) v h') _ _ ⟨rfl, rfl⟩)
  intro v h' hr
  refine (show s_Fin 3 s_m187 (0, [some (.ref 130), some (.int x1), some (.int x2), some (.int x3), some (.int x4)], [], s_hg g) v h' from ?_)
  refine s_Fin.sg 3 (y := (5, [some (.ref 130), some (.int x1), some (.int x2), some (.int x3), some (.int x4)], [.int x1, .ref 141], s_hg g)) rfl ?_
  obtain ⟨k2, hk2, hB⟩ := s_bd hB
  refine s_Fin.ix (n := 4) (i := x1) (pc1 := 6) (L1 := [some (.ref 130), some (.int x1), some (.int x2), some (.int x3), some (.int x4)]) (fun j1 => [.int (g.1 141 j1)]) (fun j1 => s_hg g) hk2 rfl rfl ?_
  by_cases hc : (g.1 141 k2) = 0
  · rw [if_pos hc] at hB
    refine s_Fin.bt (c := (g.1 141 k2) = 0) (tg := 15) (p2 := 6) (L1 := [some (.ref 130), some (.int x1), some (.int x2), some (.int x3), some (.int x4)]) (st1 := []) hc rfl ?_
    refine s_Fin.sg 4 (y := (21, [some (.ref 130), some (.int x1), some (.int x2), some (.int x3), some (.int x4)], [.int (1 : Int32), .int x1, .ref 141], s_hg g)) rfl ?_
    refine s_Fin.ix (n := 4) (i := x1) (pc1 := 22) (L1 := [some (.ref 130), some (.int x1), some (.int x2), some (.int x3), some (.int x4)]) (fun j3 => []) (fun j3 => s_hg (s_si g 141 j3 ((1 : Int32) &&& 1))) hk2 rfl rfl ?_
    refine s_Fin.sg 1 (y := (23, [some (.ref 130), some (.int x1), some (.int x2), some (.int x3), some (.int x4)], [.ref 130], s_hg (s_si g 141 k2 ((1 : Int32) &&& 1)))) rfl ?_
    obtain ⟨g4, hp, hB⟩ := s_bd hB
    refine s_Fin.cl (d := 2) (q1 := s_m166) (md := 166) (vs := [.ref 130]) (rest := []) (h1 := s_hg g4) (u := none) (s_Ev.up (by omega) (fM_go_130_s hp)) rfl rfl rfl rfl ?_
    refine s_Fin.sg 5 (y := (32, [some (.ref 130), some (.int x1), some (.int x2), some (.int x3), some (.int x4)], [.int x4, .int x3, .ref 130, .int x2, .ref 130], s_hg g4)) rfl ?_
    obtain ⟨v6, g5, hp, hB⟩ := s_bd2 hB
    refine s_Fin.cl (d := 2) (q1 := s_m180) (md := 180) (vs := [.ref 130, .int x3, .int x4]) (rest := [.int x2, .ref 130]) (h1 := s_hg g5) (u := some (.int v6)) (s_Ev.up (by omega) (fM_readNumber_130_s hp)) rfl rfl rfl rfl ?_
    obtain ⟨v8, g7, hp, hB⟩ := s_bd2 hB
    refine s_Fin.cl (d := 2) (q1 := s_m182) (md := 182) (vs := [.ref 130, .int x2, .int v6]) (rest := []) (h1 := s_hg g7) (u := some (.int v8)) (s_Ev.up (by omega) (fM_put_130_s hp)) rfl rfl rfl rfl ?_
    have hc : v8 = 0 ∨ v8 = 1 := Classical.byContradiction fun h => (by rw [if_neg h] at hB; cases hB)
    rw [if_pos hc] at hB
    have hB := Option.some.inj hB
    subst hB
    obtain ⟨rfl, rfl⟩ := hr
    exact s_Fin.rt (by rcases hc with hc | hc <;> rw [hc] <;> exact rfl) rfl
  · rw [if_neg hc] at hB
    refine s_Fin.bf (c := (g.1 141 k2) = 0) (tg := 15) (p2 := 6) (L1 := [some (.ref 130), some (.int x1), some (.int x2), some (.int x3), some (.int x4)]) (st1 := []) hc rfl ?_
    refine s_Fin.sg 2 (y := (11, [some (.ref 130), some (.int x1), some (.int x2), some (.int x3), some (.int x4)], [.int (3 : Int32), .ref 130], s_hg g)) rfl ?_
    obtain ⟨v10, g9, hp, hB⟩ := s_bd2 hB
    refine s_Fin.cl (d := 2) (q1 := s_m176) (md := 176) (vs := [.ref 130, .int (3 : Int32)]) (rest := []) (h1 := s_hg g9) (u := some (.int v10)) (s_Ev.up (by omega) (fM_bad_130_s hp)) rfl rfl rfl rfl ?_
    have hc : v10 = 0 ∨ v10 = 1 := Classical.byContradiction fun h => (by rw [if_neg h] at hB; cases hB)
    rw [if_pos hc] at hB
    have hB := Option.some.inj hB
    subst hB
    obtain ⟨rfl, rfl⟩ := hr
    exact s_Fin.rt (by rcases hc with hc | hc <;> rw [hc] <;> exact rfl) rfl
