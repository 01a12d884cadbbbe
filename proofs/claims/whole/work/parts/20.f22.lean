-- CampAshes$State.drawAct
noncomputable def fT_drawAct_22_128 (x1 : Int32) (g : s_G) : Option (s_G) :=
  s_b2 (fD_draw_128 (4 : Int32) g) fun v2 g1 => if v2 = (3 : Int32) then (some g1)
  else if (g1.1 3 1) = 0 then (some g1)
  else s_b2 (fD_draw_128 (g1.1 3 1) g1) fun v4 g3 => if v2 = (2 : Int32) then (s_b2 (fT_lieAbout_22 x1 v4 g3) fun v6 g5 => some g5)
  else s_b2 (fT_tellEvent_22 x1 v4 g3) fun v8 g7 => some g7
theorem fT_drawAct_22_128_s {x1 : Int32} {g : s_G} {z : s_G} (hB : fT_drawAct_22_128 x1 g = some z) : s_Ev 3 s_m123 [.ref 22, .int x1, .ref 128] (s_hg g) (none) (s_hg z) := by
  unfold fT_drawAct_22_128 at hB
  refine s_Ev.fin ((?_ : ∀ (v : Option Value) (h' : s_H), (fun (z : s_G) (v : Option Value) (h' : s_H) => v = none ∧ h' = s_hg z) z v h' → s_Fin 3 s_m123 (0, s_ent [.ref 22, .int x1, .ref 128] (s_m123).2.2.1, [], s_hg g) v h') _ _ ⟨rfl, rfl⟩)
  intro v h' hr
  refine (show s_Fin 3 s_m123 (0, [some (.ref 22), some (.int x1), some (.ref 128), none, none], [], s_hg g) v h' from ?_)
  refine s_Fin.sg 2 (y := (2, [some (.ref 22), some (.int x1), some (.ref 128), none, none], [.int (4 : Int32), .ref 128], s_hg g)) rfl ?_
  obtain ⟨v2, g1, hp, hB⟩ := s_bd2 hB
  refine s_Fin.cl (d := 2) (q1 := s_m122) (md := 122) (vs := [.ref 128, .int (4 : Int32)]) (rest := []) (h1 := s_hg g1) (u := some (.int v2)) (s_Ev.up (by omega) (fD_draw_128_s hp)) rfl rfl rfl rfl ?_
  refine s_Fin.sg 3 (y := (8, [some (.ref 22), some (.int x1), some (.ref 128), some (.int v2), none], [.int (3 : Int32), .int v2], s_hg g1)) rfl ?_
  by_cases hc : v2 = (3 : Int32)
  · rw [if_pos hc] at hB
    refine s_Fin.bt (c := v2 = (3 : Int32)) (tg := 21) (p2 := 8) (L1 := [some (.ref 22), some (.int x1), some (.ref 128), some (.int v2), none]) (st1 := []) hc rfl ?_
    have hB := Option.some.inj hB
    subst hB
    obtain ⟨rfl, rfl⟩ := hr
    exact s_Fin.rt rfl rfl
  · rw [if_neg hc] at hB
    refine s_Fin.bf (c := v2 = (3 : Int32)) (tg := 21) (p2 := 8) (L1 := [some (.ref 22), some (.int x1), some (.ref 128), some (.int v2), none]) (st1 := []) hc rfl ?_
    refine s_Fin.sg 3 (y := (18, [some (.ref 22), some (.int x1), some (.ref 128), some (.int v2), none], [.int (g1.1 3 1)], s_hg g1)) rfl ?_
    by_cases hc : (g1.1 3 1) = 0
    · rw [if_pos hc] at hB
      refine s_Fin.bf (c := ¬ (g1.1 3 1) = 0) (tg := 22) (p2 := 18) (L1 := [some (.ref 22), some (.int x1), some (.ref 128), some (.int v2), none]) (st1 := []) (fun h => h hc) rfl ?_
      have hB := Option.some.inj hB
      subst hB
      obtain ⟨rfl, rfl⟩ := hr
      exact s_Fin.rt rfl rfl
    · rw [if_neg hc] at hB
      refine s_Fin.bt (c := ¬ (g1.1 3 1) = 0) (tg := 22) (p2 := 18) (L1 := [some (.ref 22), some (.int x1), some (.ref 128), some (.int v2), none]) (st1 := []) hc rfl ?_
      refine s_Fin.sg 4 (y := (30, [some (.ref 22), some (.int x1), some (.ref 128), some (.int v2), none], [.int (g1.1 3 1), .ref 128], s_hg g1)) rfl ?_
      obtain ⟨v4, g3, hp, hB⟩ := s_bd2 hB
      refine s_Fin.cl (d := 2) (q1 := s_m122) (md := 122) (vs := [.ref 128, .int (g1.1 3 1)]) (rest := []) (h1 := s_hg g3) (u := some (.int v4)) (s_Ev.up (by omega) (fD_draw_128_s hp)) rfl rfl rfl rfl ?_
      refine s_Fin.sg 3 (y := (37, [some (.ref 22), some (.int x1), some (.ref 128), some (.int v2), some (.int v4)], [.int (2 : Int32), .int v2], s_hg g3)) rfl ?_
      by_cases hc : v2 = (2 : Int32)
      · rw [if_pos hc] at hB
        refine s_Fin.bf (c := ¬ v2 = (2 : Int32)) (tg := 51) (p2 := 37) (L1 := [some (.ref 22), some (.int x1), some (.ref 128), some (.int v2), some (.int v4)]) (st1 := []) (fun h => h hc) rfl ?_
        refine s_Fin.sg 3 (y := (44, [some (.ref 22), some (.int x1), some (.ref 128), some (.int v2), some (.int v4)], [.int v4, .int x1, .ref 22], s_hg g3)) rfl ?_
        obtain ⟨v6, g5, hp, hB⟩ := s_bd2 hB
        refine s_Fin.cl (d := 2) (q1 := s_m71) (md := 71) (vs := [.ref 22, .int x1, .int v4]) (rest := []) (h1 := s_hg g5) (u := some (.int v6)) (s_Ev.up (by omega) (fT_lieAbout_22_s hp)) rfl rfl rfl rfl ?_
        refine s_Fin.sg 2 (y := (59, [some (.ref 22), some (.int x1), some (.ref 128), some (.int v2), some (.int v4)], [], s_hg g5)) rfl ?_
        have hB := Option.some.inj hB
        subst hB
        obtain ⟨rfl, rfl⟩ := hr
        exact s_Fin.rt rfl rfl
      · rw [if_neg hc] at hB
        refine s_Fin.bt (c := ¬ v2 = (2 : Int32)) (tg := 51) (p2 := 37) (L1 := [some (.ref 22), some (.int x1), some (.ref 128), some (.int v2), some (.int v4)]) (st1 := []) hc rfl ?_
        refine s_Fin.sg 3 (y := (55, [some (.ref 22), some (.int x1), some (.ref 128), some (.int v2), some (.int v4)], [.int v4, .int x1, .ref 22], s_hg g3)) rfl ?_
        obtain ⟨v8, g7, hp, hB⟩ := s_bd2 hB
        refine s_Fin.cl (d := 2) (q1 := s_m63) (md := 63) (vs := [.ref 22, .int x1, .int v4]) (rest := []) (h1 := s_hg g7) (u := some (.int v8)) (s_Ev.up (by omega) (fT_tellEvent_22_s hp)) rfl rfl rfl rfl ?_
        refine s_Fin.sg 1 (y := (59, [some (.ref 22), some (.int x1), some (.ref 128), some (.int v2), some (.int v4)], [], s_hg g7)) rfl ?_
        have hB := Option.some.inj hB
        subst hB
        obtain ⟨rfl, rfl⟩ := hr
        exact s_Fin.rt rfl rfl
-- CampAshes$State.drawDays
noncomputable def fT_drawDays_22_128_34 (x3 : Int32) (x4 : Int32) (x5 : Int32) (g : s_G) : Option ((Int32 × s_G) ⊕ ((Int32 × s_G) ⊕ (Int32 × s_G))) :=
  if x5 < (g.1 3 0) then (s_b1 (fT_drawAct_22_128 x5 g) fun g6 => some (.inl (x5 + (1 : Int32), g6)))
  else s_in (s_b1 (fT_passDay_22 g) fun g7 => some (.inl (x4 + (1 : Int32), g7)))
theorem fT_drawDays_22_128_34_s {x3 : Int32} {x4 : Int32} {x5 : Int32} {g : s_G} {z : (Int32 × s_G) ⊕ ((Int32 × s_G) ⊕ (Int32 × s_G))} (hB : fT_drawDays_22_128_34 x3 x4 x5 g = some z) {v : Option Value} {h' : s_H} (hr : (s_sm (fun (x : Int32 × s_G) (v : Option Value) (h' : s_H) => s_Fin 4 s_m121 (34, [some (.ref 22), none, some (.ref 128), some (.int x3), some (.int x4), some (.int x.1)], [], s_hg x.2) v h') (s_sm (fun (x : Int32 × s_G) (v : Option Value) (h' : s_H) => s_Fin 4 s_m121 (12, [some (.ref 22), none, some (.ref 128), some (.int x3), some (.int x.1), none], [], s_hg x.2) v h') (fun (z : Int32 × s_G) (v : Option Value) (h' : s_H) => v = some (.int z.1) ∧ h' = s_hg z.2))) z v h') : s_Fin 4 s_m121 (34, [some (.ref 22), none, some (.ref 128), some (.int x3), some (.int x4), some (.int x5)], [], s_hg g) v h' := by
  unfold fT_drawDays_22_128_34 at hB
  refine s_Fin.sg 4 (y := (43, [some (.ref 22), none, some (.ref 128), some (.int x3), some (.int x4), some (.int x5)], [.int (g.1 3 0), .int x5], s_hg g)) rfl ?_
  by_cases hc : x5 < (g.1 3 0)
  · rw [if_pos hc] at hB
    refine s_Fin.bf (c := (g.1 3 0) ≤ x5) (tg := 59) (p2 := 43) (L1 := [some (.ref 22), none, some (.ref 128), some (.int x3), some (.int x4), some (.int x5)]) (st1 := []) (Int32.not_le.mpr hc) rfl ?_
    refine s_Fin.sg 3 (y := (50, [some (.ref 22), none, some (.ref 128), some (.int x3), some (.int x4), some (.int x5)], [.ref 128, .int x5, .ref 22], s_hg g)) rfl ?_
    obtain ⟨g6, hp, hB⟩ := s_bd hB
    refine s_Fin.cl (d := 3) (q1 := s_m123) (md := 123) (vs := [.ref 22, .int x5, .ref 128]) (rest := []) (h1 := s_hg g6) (u := none) (s_Ev.up (by omega) (fT_drawAct_22_128_s hp)) rfl rfl rfl rfl ?_
    refine s_Fin.sg 2 (y := (34, [some (.ref 22), none, some (.ref 128), some (.int x3), some (.int x4), some (.int (x5 + (1 : Int32)))], [], s_hg g6)) rfl ?_
    have hB := Option.some.inj hB
    subst hB
    exact s_Fin.more (L := [some (.ref 22), none, some (.ref 128), some (.int x3), some (.int x4), some (.int (x5 + (1 : Int32)))]) ⟨Or.inr rfl, Or.inl rfl, Or.inr rfl, Or.inr rfl, Or.inr rfl, Or.inr rfl, trivial⟩ hr
  · rw [if_neg hc] at hB
    refine s_Fin.bt (c := (g.1 3 0) ≤ x5) (tg := 59) (p2 := 43) (L1 := [some (.ref 22), none, some (.ref 128), some (.int x3), some (.int x4), some (.int x5)]) (st1 := []) (Int32.not_lt.mp hc) rfl ?_
    obtain ⟨_, hN, hz⟩ := s_in_of hB
    subst hz
    have hB := hN
    refine s_Fin.sg 1 (y := (60, [some (.ref 22), none, some (.ref 128), some (.int x3), some (.int x4), some (.int x5)], [.ref 22], s_hg g)) rfl ?_
    obtain ⟨g7, hp, hB⟩ := s_bd hB
    refine s_Fin.cl (d := 3) (q1 := s_m81) (md := 81) (vs := [.ref 22]) (rest := []) (h1 := s_hg g7) (u := none) (s_Ev.up (by omega) (fT_passDay_22_s hp)) rfl rfl rfl rfl ?_
    refine s_Fin.sg 2 (y := (12, [some (.ref 22), none, some (.ref 128), some (.int x3), some (.int (x4 + (1 : Int32))), some (.int x5)], [], s_hg g7)) rfl ?_
    have hB := Option.some.inj hB
    subst hB
    exact s_Fin.more (L := [some (.ref 22), none, some (.ref 128), some (.int x3), some (.int (x4 + (1 : Int32))), none]) ⟨Or.inr rfl, Or.inl rfl, Or.inr rfl, Or.inr rfl, Or.inr rfl, Or.inl rfl, trivial⟩ hr
noncomputable def fT_drawDays_22_128_31 (x3 : Int32) (x4 : Int32) (g : s_G) : Option ((Int32 × s_G) ⊕ (Int32 × s_G)) :=
  s_lp (fun x => fT_drawDays_22_128_34 x3 x4 x.1 x.2) ((0 : Int32), g)
theorem fT_drawDays_22_128_31_s {x3 : Int32} {x4 : Int32} {g : s_G} {z : (Int32 × s_G) ⊕ (Int32 × s_G)} (hB : fT_drawDays_22_128_31 x3 x4 g = some z) {v : Option Value} {h' : s_H} (hr : (s_sm (fun (x : Int32 × s_G) (v : Option Value) (h' : s_H) => s_Fin 4 s_m121 (12, [some (.ref 22), none, some (.ref 128), some (.int x3), some (.int x.1), none], [], s_hg x.2) v h') (fun (z : Int32 × s_G) (v : Option Value) (h' : s_H) => v = some (.int z.1) ∧ h' = s_hg z.2)) z v h') : s_Fin 4 s_m121 (31, [some (.ref 22), none, some (.ref 128), some (.int x3), some (.int x4), none], [], s_hg g) v h' := by
  unfold fT_drawDays_22_128_31 at hB
  refine s_Fin.sg 2 (y := (34, [some (.ref 22), none, some (.ref 128), some (.int x3), some (.int x4), some (.int (0 : Int32))], [], s_hg g)) rfl ?_
  exact s_Fin.more (L := [some (.ref 22), none, some (.ref 128), some (.int x3), some (.int x4), some (.int (0 : Int32))]) ⟨Or.inr rfl, Or.inl rfl, Or.inr rfl, Or.inr rfl, Or.inr rfl, Or.inr rfl, trivial⟩ (s_lp_s (P := (fun (x : Int32 × s_G) (v : Option Value) (h' : s_H) => s_Fin 4 s_m121 (34, [some (.ref 22), none, some (.ref 128), some (.int x3), some (.int x4), some (.int x.1)], [], s_hg x.2) v h')) (Q := (s_sm (fun (x : Int32 × s_G) (v : Option Value) (h' : s_H) => s_Fin 4 s_m121 (12, [some (.ref 22), none, some (.ref 128), some (.int x3), some (.int x.1), none], [], s_hg x.2) v h') (fun (z : Int32 × s_G) (v : Option Value) (h' : s_H) => v = some (.int z.1) ∧ h' = s_hg z.2))) (fun x z hB v h' hr => fT_drawDays_22_128_34_s hB hr) hB _ _ hr)
noncomputable def fT_drawDays_22_128_12 (x3 : Int32) (x4 : Int32) (g : s_G) : Option ((Int32 × s_G) ⊕ (Int32 × s_G)) :=
  if x4 < x3 then (s_b2 (fD_draw_128 (4 : Int32) g) fun v3 g2 => if v3 = 0 then (s_b2 (fT_putLogOn_22 g2) fun v5 g4 => fT_drawDays_22_128_31 x3 x4 g4)
  else fT_drawDays_22_128_31 x3 x4 g2)
  else s_in (some (x3, g))
theorem fT_drawDays_22_128_12_s {x3 : Int32} {x4 : Int32} {g : s_G} {z : (Int32 × s_G) ⊕ (Int32 × s_G)} (hB : fT_drawDays_22_128_12 x3 x4 g = some z) {v : Option Value} {h' : s_H} (hr : (s_sm (fun (x : Int32 × s_G) (v : Option Value) (h' : s_H) => s_Fin 4 s_m121 (12, [some (.ref 22), none, some (.ref 128), some (.int x3), some (.int x.1), none], [], s_hg x.2) v h') (fun (z : Int32 × s_G) (v : Option Value) (h' : s_H) => v = some (.int z.1) ∧ h' = s_hg z.2)) z v h') : s_Fin 4 s_m121 (12, [some (.ref 22), none, some (.ref 128), some (.int x3), some (.int x4), none], [], s_hg g) v h' := by
  unfold fT_drawDays_22_128_12 at hB
  refine s_Fin.sg 2 (y := (15, [some (.ref 22), none, some (.ref 128), some (.int x3), some (.int x4), none], [.int x3, .int x4], s_hg g)) rfl ?_
  by_cases hc : x4 < x3
  · rw [if_pos hc] at hB
    refine s_Fin.bf (c := x3 ≤ x4) (tg := 69) (p2 := 15) (L1 := [some (.ref 22), none, some (.ref 128), some (.int x3), some (.int x4), none]) (st1 := []) (Int32.not_le.mpr hc) rfl ?_
    refine s_Fin.sg 2 (y := (20, [some (.ref 22), none, some (.ref 128), some (.int x3), some (.int x4), none], [.int (4 : Int32), .ref 128], s_hg g)) rfl ?_
    obtain ⟨v3, g2, hp, hB⟩ := s_bd2 hB
    refine s_Fin.cl (d := 3) (q1 := s_m122) (md := 122) (vs := [.ref 128, .int (4 : Int32)]) (rest := []) (h1 := s_hg g2) (u := some (.int v3)) (s_Ev.up (by omega) (fD_draw_128_s hp)) rfl rfl rfl rfl ?_
    by_cases hc : v3 = 0
    · rw [if_pos hc] at hB
      refine s_Fin.bf (c := ¬ v3 = 0) (tg := 31) (p2 := 23) (L1 := [some (.ref 22), none, some (.ref 128), some (.int x3), some (.int x4), none]) (st1 := []) (fun h => h hc) rfl ?_
      refine s_Fin.sg 1 (y := (27, [some (.ref 22), none, some (.ref 128), some (.int x3), some (.int x4), none], [.ref 22], s_hg g2)) rfl ?_
      obtain ⟨v5, g4, hp, hB⟩ := s_bd2 hB
      refine s_Fin.cl (d := 3) (q1 := s_m75) (md := 75) (vs := [.ref 22]) (rest := []) (h1 := s_hg g4) (u := some (.int v5)) (s_Ev.up (by omega) (fT_putLogOn_22_s hp)) rfl rfl rfl rfl ?_
      refine s_Fin.sg 1 (y := (31, [some (.ref 22), none, some (.ref 128), some (.int x3), some (.int x4), none], [], s_hg g4)) rfl ?_
      exact s_Fin.more (L := [some (.ref 22), none, some (.ref 128), some (.int x3), some (.int x4), none]) ⟨Or.inr rfl, Or.inl rfl, Or.inr rfl, Or.inr rfl, Or.inr rfl, Or.inl rfl, trivial⟩ (fT_drawDays_22_128_31_s hB hr)
    · rw [if_neg hc] at hB
      refine s_Fin.bt (c := ¬ v3 = 0) (tg := 31) (p2 := 23) (L1 := [some (.ref 22), none, some (.ref 128), some (.int x3), some (.int x4), none]) (st1 := []) hc rfl ?_
      exact s_Fin.more (L := [some (.ref 22), none, some (.ref 128), some (.int x3), some (.int x4), none]) ⟨Or.inr rfl, Or.inl rfl, Or.inr rfl, Or.inr rfl, Or.inr rfl, Or.inl rfl, trivial⟩ (fT_drawDays_22_128_31_s hB hr)
  · rw [if_neg hc] at hB
    refine s_Fin.bt (c := x3 ≤ x4) (tg := 69) (p2 := 15) (L1 := [some (.ref 22), none, some (.ref 128), some (.int x3), some (.int x4), none]) (st1 := []) (Int32.not_lt.mp hc) rfl ?_
    obtain ⟨_, hN, hz⟩ := s_in_of hB
    subst hz
    have hB := hN
    refine s_Fin.sg 1 (y := (70, [some (.ref 22), none, some (.ref 128), some (.int x3), some (.int x4), none], [.int x3], s_hg g)) rfl ?_
    have hB := Option.some.inj hB
    subst hB
    obtain ⟨rfl, rfl⟩ := hr
    exact s_Fin.rt rfl rfl
noncomputable def fT_drawDays_22_128 (x1 : Int32) (g : s_G) : Option (Int32 × s_G) :=
  s_b1 (fT_daysLeft_22 g) fun v1 => s_lp (fun x => fT_drawDays_22_128_12 (if v1 < x1 then v1 else x1) x.1 x.2) ((0 : Int32), g)
theorem fT_drawDays_22_128_s {x1 : Int32} {g : s_G} {z : Int32 × s_G} (hB : fT_drawDays_22_128 x1 g = some z) : s_Ev 4 s_m121 [.ref 22, .int x1, .ref 128] (s_hg g) (some (.int z.1)) (s_hg z.2) := by
  unfold fT_drawDays_22_128 at hB
  refine s_Ev.fin ((?_ : ∀ (v : Option Value) (h' : s_H), (fun (z : Int32 × s_G) (v : Option Value) (h' : s_H) => v = some (.int z.1) ∧ h' = s_hg z.2) z v h' → s_Fin 4 s_m121 (0, s_ent [.ref 22, .int x1, .ref 128] (s_m121).2.2.1, [], s_hg g) v h') _ _ ⟨rfl, rfl⟩)
  intro v h' hr
  refine (show s_Fin 4 s_m121 (0, [some (.ref 22), some (.int x1), some (.ref 128), none, none, none], [], s_hg g) v h' from ?_)
  refine s_Fin.sg 2 (y := (2, [some (.ref 22), some (.int x1), some (.ref 128), none, none, none], [.ref 22, .int x1], s_hg g)) rfl ?_
  obtain ⟨v1, hp, hB⟩ := s_bd hB
  refine s_Fin.cl (d := 3) (q1 := s_m80) (md := 80) (vs := [.ref 22]) (rest := [.int x1]) (h1 := s_hg g) (u := some (.int v1)) (s_Ev.up (by omega) (fT_daysLeft_22_s hp)) rfl rfl rfl rfl ?_
  refine s_Fin.sg 4 (y := (12, [some (.ref 22), some (.int x1), some (.ref 128), some (.int (if v1 < x1 then v1 else x1)), some (.int (0 : Int32)), none], [], s_hg g)) rfl ?_
  exact s_Fin.more (L := [some (.ref 22), none, some (.ref 128), some (.int (if v1 < x1 then v1 else x1)), some (.int (0 : Int32)), none]) ⟨Or.inr rfl, Or.inl rfl, Or.inr rfl, Or.inr rfl, Or.inr rfl, Or.inl rfl, trivial⟩ (s_lp_s (P := (fun (x : Int32 × s_G) (v : Option Value) (h' : s_H) => s_Fin 4 s_m121 (12, [some (.ref 22), none, some (.ref 128), some (.int (if v1 < x1 then v1 else x1)), some (.int x.1), none], [], s_hg x.2) v h')) (Q := (fun (z : Int32 × s_G) (v : Option Value) (h' : s_H) => v = some (.int z.1) ∧ h' = s_hg z.2)) (fun x z hB v h' hr => fT_drawDays_22_128_12_s hB hr) hB _ _ hr)
-- CampAshes.drawn
noncomputable def fC_drawn_0 (x1 : Int32) (x2 : Int32) (g : s_G) : Option (Int32 × s_G) :=
  if x1 < (1 : Int32) then (some ((-1 : Int32), g))
  else if (60 : Int32) < x1 then (some ((-1 : Int32), g))
  else s_b1 (fT_copyFrom_22_17 g) fun g1 => s_b1 (fD_start_128 x2 g1) fun g2 => s_b2 (fT_drawDays_22_128 x1 g2) fun v4 g3 => if 0 < v4 then (s_b1 (fC_keepTrial_0 g3) fun g5 => some (v4, g5))
  else some (v4, g3)
theorem fC_drawn_0_s {x1 : Int32} {x2 : Int32} {g : s_G} {z : Int32 × s_G} (hB : fC_drawn_0 x1 x2 g = some z) : s_Ev 5 s_m119 [.ref 0, .int x1, .int x2] (s_hg g) (some (.int z.1)) (s_hg z.2) := by
  unfold fC_drawn_0 at hB
  refine s_Ev.fin ((?_ : ∀ (v : Option Value) (h' : s_H), (fun (z : Int32 × s_G) (v : Option Value) (h' : s_H) => v = some (.int z.1) ∧ h' = s_hg z.2) z v h' → s_Fin 5 s_m119 (0, s_ent [.ref 0, .int x1, .int x2] (s_m119).2.2.1, [], s_hg g) v h') _ _ ⟨rfl, rfl⟩)
  intro v h' hr
  refine (show s_Fin 5 s_m119 (0, [some (.ref 0), some (.int x1), some (.int x2), none], [], s_hg g) v h' from ?_)
  refine s_Fin.sg 2 (y := (2, [some (.ref 0), some (.int x1), some (.int x2), none], [.int (1 : Int32), .int x1], s_hg g)) rfl ?_
  by_cases hc : x1 < (1 : Int32)
  · rw [if_pos hc] at hB
    refine s_Fin.bt (c := x1 < (1 : Int32)) (tg := 11) (p2 := 2) (L1 := [some (.ref 0), some (.int x1), some (.int x2), none]) (st1 := []) hc rfl ?_
    refine s_Fin.sg 1 (y := (12, [some (.ref 0), some (.int x1), some (.int x2), none], [.int (-1 : Int32)], s_hg g)) rfl ?_
    have hB := Option.some.inj hB
    subst hB
    obtain ⟨rfl, rfl⟩ := hr
    exact s_Fin.rt rfl rfl
  · rw [if_neg hc] at hB
    refine s_Fin.bf (c := x1 < (1 : Int32)) (tg := 11) (p2 := 2) (L1 := [some (.ref 0), some (.int x1), some (.int x2), none]) (st1 := []) hc rfl ?_
    refine s_Fin.sg 2 (y := (8, [some (.ref 0), some (.int x1), some (.int x2), none], [.int (60 : Int32), .int x1], s_hg g)) rfl ?_
    by_cases hc : (60 : Int32) < x1
    · rw [if_pos hc] at hB
      refine s_Fin.bf (c := x1 ≤ (60 : Int32)) (tg := 13) (p2 := 8) (L1 := [some (.ref 0), some (.int x1), some (.int x2), none]) (st1 := []) (Int32.not_le.mpr hc) rfl ?_
      refine s_Fin.sg 1 (y := (12, [some (.ref 0), some (.int x1), some (.int x2), none], [.int (-1 : Int32)], s_hg g)) rfl ?_
      have hB := Option.some.inj hB
      subst hB
      obtain ⟨rfl, rfl⟩ := hr
      exact s_Fin.rt rfl rfl
    · rw [if_neg hc] at hB
      refine s_Fin.bt (c := x1 ≤ (60 : Int32)) (tg := 13) (p2 := 8) (L1 := [some (.ref 0), some (.int x1), some (.int x2), none]) (st1 := []) (Int32.not_lt.mp hc) rfl ?_
      refine s_Fin.sg 4 (y := (21, [some (.ref 0), some (.int x1), some (.int x2), none], [.ref 17, .ref 22], s_hg g)) rfl ?_
      obtain ⟨g1, hp, hB⟩ := s_bd hB
      refine s_Fin.cl (d := 4) (q1 := s_m62) (md := 62) (vs := [.ref 22, .ref 17]) (rest := []) (h1 := s_hg g1) (u := none) (s_Ev.up (by omega) (fT_copyFrom_22_17_s hp)) rfl rfl rfl rfl ?_
      refine s_Fin.sg 3 (y := (29, [some (.ref 0), some (.int x1), some (.int x2), none], [.int x2, .ref 128], s_hg g1)) rfl ?_
      obtain ⟨g2, hp, hB⟩ := s_bd hB
      refine s_Fin.cl (d := 4) (q1 := s_m120) (md := 120) (vs := [.ref 128, .int x2]) (rest := []) (h1 := s_hg g2) (u := none) (s_Ev.up (by omega) (fD_start_128_s hp)) rfl rfl rfl rfl ?_
      refine s_Fin.sg 5 (y := (41, [some (.ref 0), some (.int x1), some (.int x2), none], [.ref 128, .int x1, .ref 22], s_hg g2)) rfl ?_
      obtain ⟨v4, g3, hp, hB⟩ := s_bd2 hB
      refine s_Fin.cl (d := 4) (q1 := s_m121) (md := 121) (vs := [.ref 22, .int x1, .ref 128]) (rest := []) (h1 := s_hg g3) (u := some (.int v4)) (s_Ev.up (by omega) (fT_drawDays_22_128_s hp)) rfl rfl rfl rfl ?_
      refine s_Fin.sg 2 (y := (46, [some (.ref 0), some (.int x1), some (.int x2), some (.int v4)], [.int v4], s_hg g3)) rfl ?_
      by_cases hc : 0 < v4
      · rw [if_pos hc] at hB
        refine s_Fin.bf (c := v4 ≤ 0) (tg := 53) (p2 := 46) (L1 := [some (.ref 0), some (.int x1), some (.int x2), some (.int v4)]) (st1 := []) (Int32.not_le.mpr hc) rfl ?_
        refine s_Fin.sg 1 (y := (50, [some (.ref 0), some (.int x1), some (.int x2), some (.int v4)], [.ref 0], s_hg g3)) rfl ?_
        obtain ⟨g5, hp, hB⟩ := s_bd hB
        refine s_Fin.cl (d := 4) (q1 := s_m68) (md := 68) (vs := [.ref 0]) (rest := []) (h1 := s_hg g5) (u := none) (s_Ev.up (by omega) (fC_keepTrial_0_s hp)) rfl rfl rfl rfl ?_
        refine s_Fin.sg 1 (y := (54, [some (.ref 0), some (.int x1), some (.int x2), some (.int v4)], [.int v4], s_hg g5)) rfl ?_
        have hB := Option.some.inj hB
        subst hB
        obtain ⟨rfl, rfl⟩ := hr
        exact s_Fin.rt rfl rfl
      · rw [if_neg hc] at hB
        refine s_Fin.bt (c := v4 ≤ 0) (tg := 53) (p2 := 46) (L1 := [some (.ref 0), some (.int x1), some (.int x2), some (.int v4)]) (st1 := []) (Int32.not_lt.mp hc) rfl ?_
        refine s_Fin.sg 1 (y := (54, [some (.ref 0), some (.int x1), some (.int x2), some (.int v4)], [.int v4], s_hg g3)) rfl ?_
        have hB := Option.some.inj hB
        subst hB
        obtain ⟨rfl, rfl⟩ := hr
        exact s_Fin.rt rfl rfl
-- CampAshesModel.odds
noncomputable def fM_odds_130_35 (x1 : Int32) (x2 : Int32) (x3 : Int32) (x4 : Int32) (x5 : Int32) (g : s_G) : Option ((Int32 × Int32 × s_G) ⊕ (Int32 × s_G)) :=
  if x5 < x2 then (s_b2 (fM_drawDays_130 (20 : Int32) (x3 + x5) g) fun v5 g4 => s_b1 (fM_isOver_130 x1 g4) fun v6 => if v6 = 0 then (s_b1 (fM_takeBack_130 g4) fun g7 => some (.inl (x4 + (1 : Int32), x5 + (1 : Int32), g7)))
  else s_b1 (fM_takeBack_130 g4) fun g8 => some (.inl (x4, x5 + (1 : Int32), g8)))
  else s_in (some (x4, g))
theorem fM_odds_130_35_s {x1 : Int32} {x2 : Int32} {x3 : Int32} {x4 : Int32} {x5 : Int32} {g : s_G} {z : (Int32 × Int32 × s_G) ⊕ (Int32 × s_G)} (hB : fM_odds_130_35 x1 x2 x3 x4 x5 g = some z) {v : Option Value} {h' : s_H} (hr : (s_sm (fun (x : Int32 × Int32 × s_G) (v : Option Value) (h' : s_H) => s_Fin 5 s_m258 (35, [some (.ref 130), some (.int x1), some (.int x2), some (.int x3), some (.int x.1), some (.int x.2.1)], [], s_hg x.2.2) v h') (fun (z : Int32 × s_G) (v : Option Value) (h' : s_H) => v = some (.int z.1) ∧ h' = s_hg z.2)) z v h') : s_Fin 5 s_m258 (35, [some (.ref 130), some (.int x1), some (.int x2), some (.int x3), some (.int x4), some (.int x5)], [], s_hg g) v h' := by
  unfold fM_odds_130_35 at hB
  refine s_Fin.sg 2 (y := (38, [some (.ref 130), some (.int x1), some (.int x2), some (.int x3), some (.int x4), some (.int x5)], [.int x2, .int x5], s_hg g)) rfl ?_
  by_cases hc : x5 < x2
  · rw [if_pos hc] at hB
    refine s_Fin.bf (c := x2 ≤ x5) (tg := 73) (p2 := 38) (L1 := [some (.ref 130), some (.int x1), some (.int x2), some (.int x3), some (.int x4), some (.int x5)]) (st1 := []) (Int32.not_le.mpr hc) rfl ?_
    refine s_Fin.sg 5 (y := (48, [some (.ref 130), some (.int x1), some (.int x2), some (.int x3), some (.int x4), some (.int x5)], [.int (x3 + x5), .int (20 : Int32), .ref 130], s_hg g)) rfl ?_
    obtain ⟨v5, g4, hp, hB⟩ := s_bd2 hB
    refine s_Fin.cl (d := 4) (q1 := s_m255) (md := 255) (vs := [.ref 130, .int (20 : Int32), .int (x3 + x5)]) (rest := []) (h1 := s_hg g4) (u := some (.int v5)) (s_Ev.up (by omega) (fM_drawDays_130_s hp)) rfl rfl rfl rfl ?_
    refine s_Fin.sg 3 (y := (54, [some (.ref 130), some (.int x1), some (.int x2), some (.int x3), some (.int x4), some (.int x5)], [.int x1, .ref 130], s_hg g4)) rfl ?_
    obtain ⟨v6, hp, hB⟩ := s_bd hB
    refine s_Fin.cl (d := 4) (q1 := s_m196) (md := 196) (vs := [.ref 130, .int x1]) (rest := []) (h1 := s_hg g4) (u := some (.int v6)) (s_Ev.up (by omega) (fM_isOver_130_s hp)) rfl rfl rfl rfl ?_
    by_cases hc : v6 = 0
    · rw [if_pos hc] at hB
      refine s_Fin.bf (c := ¬ v6 = 0) (tg := 63) (p2 := 57) (L1 := [some (.ref 130), some (.int x1), some (.int x2), some (.int x3), some (.int x4), some (.int x5)]) (st1 := []) (fun h => h hc) rfl ?_
      refine s_Fin.sg 2 (y := (64, [some (.ref 130), some (.int x1), some (.int x2), some (.int x3), some (.int (x4 + (1 : Int32))), some (.int x5)], [.ref 130], s_hg g4)) rfl ?_
      obtain ⟨g7, hp, hB⟩ := s_bd hB
      refine s_Fin.cl (d := 4) (q1 := s_m247) (md := 247) (vs := [.ref 130]) (rest := []) (h1 := s_hg g7) (u := none) (s_Ev.up (by omega) (fM_takeBack_130_s hp)) rfl rfl rfl rfl ?_
      refine s_Fin.sg 2 (y := (35, [some (.ref 130), some (.int x1), some (.int x2), some (.int x3), some (.int (x4 + (1 : Int32))), some (.int (x5 + (1 : Int32)))], [], s_hg g7)) rfl ?_
      have hB := Option.some.inj hB
      subst hB
      exact s_Fin.more (L := [some (.ref 130), some (.int x1), some (.int x2), some (.int x3), some (.int (x4 + (1 : Int32))), some (.int (x5 + (1 : Int32)))]) ⟨Or.inr rfl, Or.inr rfl, Or.inr rfl, Or.inr rfl, Or.inr rfl, Or.inr rfl, trivial⟩ hr
    · rw [if_neg hc] at hB
      refine s_Fin.bt (c := ¬ v6 = 0) (tg := 63) (p2 := 57) (L1 := [some (.ref 130), some (.int x1), some (.int x2), some (.int x3), some (.int x4), some (.int x5)]) (st1 := []) hc rfl ?_
      refine s_Fin.sg 1 (y := (64, [some (.ref 130), some (.int x1), some (.int x2), some (.int x3), some (.int x4), some (.int x5)], [.ref 130], s_hg g4)) rfl ?_
      obtain ⟨g8, hp, hB⟩ := s_bd hB
      refine s_Fin.cl (d := 4) (q1 := s_m247) (md := 247) (vs := [.ref 130]) (rest := []) (h1 := s_hg g8) (u := none) (s_Ev.up (by omega) (fM_takeBack_130_s hp)) rfl rfl rfl rfl ?_
      refine s_Fin.sg 2 (y := (35, [some (.ref 130), some (.int x1), some (.int x2), some (.int x3), some (.int x4), some (.int (x5 + (1 : Int32)))], [], s_hg g8)) rfl ?_
      have hB := Option.some.inj hB
      subst hB
      exact s_Fin.more (L := [some (.ref 130), some (.int x1), some (.int x2), some (.int x3), some (.int x4), some (.int (x5 + (1 : Int32)))]) ⟨Or.inr rfl, Or.inr rfl, Or.inr rfl, Or.inr rfl, Or.inr rfl, Or.inr rfl, trivial⟩ hr
  · rw [if_neg hc] at hB
    refine s_Fin.bt (c := x2 ≤ x5) (tg := 73) (p2 := 38) (L1 := [some (.ref 130), some (.int x1), some (.int x2), some (.int x3), some (.int x4), some (.int x5)]) (st1 := []) (Int32.not_lt.mp hc) rfl ?_
    obtain ⟨_, hN, hz⟩ := s_in_of hB
    subst hz
    have hB := hN
    refine s_Fin.sg 1 (y := (75, [some (.ref 130), some (.int x1), some (.int x2), some (.int x3), some (.int x4), some (.int x5)], [.int x4], s_hg g)) rfl ?_
    have hB := Option.some.inj hB
    subst hB
    obtain ⟨rfl, rfl⟩ := hr
    exact s_Fin.rt rfl rfl
noncomputable def fM_odds_130 (x1 : Int32) (x2 : Int32) (x3 : Int32) (g : s_G) : Option (Int32 × s_G) :=
  s_b1 (fM_isBoy_130 x1 (s_si g 130 0 (0 : Int32))) fun v1 => if v1 = 0 then (some ((-1 : Int32), (s_si g 130 0 (0 : Int32))))
  else s_b1 (fM_isIn_s x2 (1 : Int32) (30 : Int32) (s_si g 130 0 (0 : Int32))) fun v2 => if v2 = 0 then (some ((-1 : Int32), (s_si g 130 0 (0 : Int32))))
  else s_b1 (fM_layAside_130 (s_si g 130 0 (0 : Int32))) fun g3 => s_lp (fun x => fM_odds_130_35 x1 x2 x3 x.1 x.2.1 x.2.2) ((0 : Int32), (0 : Int32), g3)
theorem fM_odds_130_s {x1 : Int32} {x2 : Int32} {x3 : Int32} {g : s_G} {z : Int32 × s_G} (hB : fM_odds_130 x1 x2 x3 g = some z) : s_Ev 5 s_m258 [.ref 130, .int x1, .int x2, .int x3] (s_hg g) (some (.int z.1)) (s_hg z.2) := by
  unfold fM_odds_130 at hB
  refine s_Ev.fin ((?_ : ∀ (v : Option Value) (h' : s_H), (fun (z : Int32 × s_G) (v : Option Value) (h' : s_H) => v = some (.int z.1) ∧ h' = s_hg z.2) z v h' → s_Fin 5 s_m258 (0, s_ent [.ref 130, .int x1, .int x2, .int x3] (s_m258).2.2.1, [], s_hg g) v h') _ _ ⟨rfl, rfl⟩)
  intro v h' hr
  refine (show s_Fin 5 s_m258 (0, [some (.ref 130), some (.int x1), some (.int x2), some (.int x3), none, none], [], s_hg g) v h' from ?_)
  refine s_Fin.sg 5 (y := (7, [some (.ref 130), some (.int x1), some (.int x2), some (.int x3), none, none], [.int x1, .ref 130], s_hg (s_si g 130 0 (0 : Int32)))) rfl ?_
  obtain ⟨v1, hp, hB⟩ := s_bd hB
  refine s_Fin.cl (d := 4) (q1 := s_m192) (md := 192) (vs := [.ref 130, .int x1]) (rest := []) (h1 := s_hg (s_si g 130 0 (0 : Int32))) (u := some (.int v1)) (s_Ev.up (by omega) (fM_isBoy_130_s hp)) rfl rfl rfl rfl ?_
  by_cases hc : v1 = 0
  · rw [if_pos hc] at hB
    refine s_Fin.bt (c := v1 = 0) (tg := 23) (p2 := 10) (L1 := [some (.ref 130), some (.int x1), some (.int x2), some (.int x3), none, none]) (st1 := []) hc rfl ?_
    refine s_Fin.sg 1 (y := (24, [some (.ref 130), some (.int x1), some (.int x2), some (.int x3), none, none], [.int (-1 : Int32)], s_hg (s_si g 130 0 (0 : Int32)))) rfl ?_
    have hB := Option.some.inj hB
    subst hB
    obtain ⟨rfl, rfl⟩ := hr
    exact s_Fin.rt rfl rfl
  · rw [if_neg hc] at hB
    refine s_Fin.bf (c := v1 = 0) (tg := 23) (p2 := 10) (L1 := [some (.ref 130), some (.int x1), some (.int x2), some (.int x3), none, none]) (st1 := []) hc rfl ?_
    refine s_Fin.sg 3 (y := (17, [some (.ref 130), some (.int x1), some (.int x2), some (.int x3), none, none], [.int (30 : Int32), .int (1 : Int32), .int x2], s_hg (s_si g 130 0 (0 : Int32)))) rfl ?_
    obtain ⟨v2, hp, hB⟩ := s_bd hB
    refine s_Fin.cl (d := 4) (q1 := s_m181) (md := 181) (vs := [.int x2, .int (1 : Int32), .int (30 : Int32)]) (rest := []) (h1 := s_hg (s_si g 130 0 (0 : Int32))) (u := some (.int v2)) (s_Ev.up (by omega) (fM_isIn_s_s hp)) rfl rfl rfl rfl ?_
    by_cases hc : v2 = 0
    · rw [if_pos hc] at hB
      refine s_Fin.bf (c := ¬ v2 = 0) (tg := 25) (p2 := 20) (L1 := [some (.ref 130), some (.int x1), some (.int x2), some (.int x3), none, none]) (st1 := []) (fun h => h hc) rfl ?_
      refine s_Fin.sg 1 (y := (24, [some (.ref 130), some (.int x1), some (.int x2), some (.int x3), none, none], [.int (-1 : Int32)], s_hg (s_si g 130 0 (0 : Int32)))) rfl ?_
      have hB := Option.some.inj hB
      subst hB
      obtain ⟨rfl, rfl⟩ := hr
      exact s_Fin.rt rfl rfl
    · rw [if_neg hc] at hB
      refine s_Fin.bt (c := ¬ v2 = 0) (tg := 25) (p2 := 20) (L1 := [some (.ref 130), some (.int x1), some (.int x2), some (.int x3), none, none]) (st1 := []) hc rfl ?_
      refine s_Fin.sg 1 (y := (26, [some (.ref 130), some (.int x1), some (.int x2), some (.int x3), none, none], [.ref 130], s_hg (s_si g 130 0 (0 : Int32)))) rfl ?_
      obtain ⟨g3, hp, hB⟩ := s_bd hB
      refine s_Fin.cl (d := 4) (q1 := s_m246) (md := 246) (vs := [.ref 130]) (rest := []) (h1 := s_hg g3) (u := none) (s_Ev.up (by omega) (fM_layAside_130_s hp)) rfl rfl rfl rfl ?_
      refine s_Fin.sg 4 (y := (35, [some (.ref 130), some (.int x1), some (.int x2), some (.int x3), some (.int (0 : Int32)), some (.int (0 : Int32))], [], s_hg g3)) rfl ?_
      exact s_Fin.more (L := [some (.ref 130), some (.int x1), some (.int x2), some (.int x3), some (.int (0 : Int32)), some (.int (0 : Int32))]) ⟨Or.inr rfl, Or.inr rfl, Or.inr rfl, Or.inr rfl, Or.inr rfl, Or.inr rfl, trivial⟩ (s_lp_s (P := (fun (x : Int32 × Int32 × s_G) (v : Option Value) (h' : s_H) => s_Fin 5 s_m258 (35, [some (.ref 130), some (.int x1), some (.int x2), some (.int x3), some (.int x.1), some (.int x.2.1)], [], s_hg x.2.2) v h')) (Q := (fun (z : Int32 × s_G) (v : Option Value) (h' : s_H) => v = some (.int z.1) ∧ h' = s_hg z.2)) (fun x z hB v h' hr => fM_odds_130_35_s hB hr) hB _ _ hr)
-- CampAshes.odds
noncomputable def fC_odds_0_30 (x1 : Int32) (x2 : Int32) (x3 : Int32) (x4 : Int32) (x5 : Int32) (g : s_G) : Option ((Int32 × Int32 × s_G) ⊕ (Int32 × s_G)) :=
  if x5 < x2 then (s_b1 (fT_copyFrom_22_17 g) fun g2 => s_b1 (fD_start_128 (x3 + x5) g2) fun g3 => s_b2 (fT_drawDays_22_128 (20 : Int32) g3) fun v5 g4 => s_b1 (fT_isOver_22 x1 g4) fun v6 => if v6 = 0 then (some (.inl (x4 + (1 : Int32), x5 + (1 : Int32), g4)))
  else some (.inl (x4, x5 + (1 : Int32), g4)))
  else s_in (some (x4, g))
theorem fC_odds_0_30_s {x1 : Int32} {x2 : Int32} {x3 : Int32} {x4 : Int32} {x5 : Int32} {g : s_G} {z : (Int32 × Int32 × s_G) ⊕ (Int32 × s_G)} (hB : fC_odds_0_30 x1 x2 x3 x4 x5 g = some z) {v : Option Value} {h' : s_H} (hr : (s_sm (fun (x : Int32 × Int32 × s_G) (v : Option Value) (h' : s_H) => s_Fin 5 s_m124 (30, [some (.ref 0), some (.int x1), some (.int x2), some (.int x3), some (.int x.1), some (.int x.2.1)], [], s_hg x.2.2) v h') (fun (z : Int32 × s_G) (v : Option Value) (h' : s_H) => v = some (.int z.1) ∧ h' = s_hg z.2)) z v h') : s_Fin 5 s_m124 (30, [some (.ref 0), some (.int x1), some (.int x2), some (.int x3), some (.int x4), some (.int x5)], [], s_hg g) v h' := by
  unfold fC_odds_0_30 at hB
  refine s_Fin.sg 2 (y := (33, [some (.ref 0), some (.int x1), some (.int x2), some (.int x3), some (.int x4), some (.int x5)], [.int x2, .int x5], s_hg g)) rfl ?_
  by_cases hc : x5 < x2
  · rw [if_pos hc] at hB
    refine s_Fin.bf (c := x2 ≤ x5) (tg := 92) (p2 := 33) (L1 := [some (.ref 0), some (.int x1), some (.int x2), some (.int x3), some (.int x4), some (.int x5)]) (st1 := []) (Int32.not_le.mpr hc) rfl ?_
    refine s_Fin.sg 4 (y := (44, [some (.ref 0), some (.int x1), some (.int x2), some (.int x3), some (.int x4), some (.int x5)], [.ref 17, .ref 22], s_hg g)) rfl ?_
    obtain ⟨g2, hp, hB⟩ := s_bd hB
    refine s_Fin.cl (d := 4) (q1 := s_m62) (md := 62) (vs := [.ref 22, .ref 17]) (rest := []) (h1 := s_hg g2) (u := none) (s_Ev.up (by omega) (fT_copyFrom_22_17_s hp)) rfl rfl rfl rfl ?_
    refine s_Fin.sg 5 (y := (55, [some (.ref 0), some (.int x1), some (.int x2), some (.int x3), some (.int x4), some (.int x5)], [.int (x3 + x5), .ref 128], s_hg g2)) rfl ?_
    obtain ⟨g3, hp, hB⟩ := s_bd hB
    refine s_Fin.cl (d := 4) (q1 := s_m120) (md := 120) (vs := [.ref 128, .int (x3 + x5)]) (rest := []) (h1 := s_hg g3) (u := none) (s_Ev.up (by omega) (fD_start_128_s hp)) rfl rfl rfl rfl ?_
    refine s_Fin.sg 5 (y := (68, [some (.ref 0), some (.int x1), some (.int x2), some (.int x3), some (.int x4), some (.int x5)], [.ref 128, .int (20 : Int32), .ref 22], s_hg g3)) rfl ?_
    obtain ⟨v5, g4, hp, hB⟩ := s_bd2 hB
    refine s_Fin.cl (d := 4) (q1 := s_m121) (md := 121) (vs := [.ref 22, .int (20 : Int32), .ref 128]) (rest := []) (h1 := s_hg g4) (u := some (.int v5)) (s_Ev.up (by omega) (fT_drawDays_22_128_s hp)) rfl rfl rfl rfl ?_
    refine s_Fin.sg 4 (y := (77, [some (.ref 0), some (.int x1), some (.int x2), some (.int x3), some (.int x4), some (.int x5)], [.int x1, .ref 22], s_hg g4)) rfl ?_
    obtain ⟨v6, hp, hB⟩ := s_bd hB
    refine s_Fin.cl (d := 4) (q1 := s_m59) (md := 59) (vs := [.ref 22, .int x1]) (rest := []) (h1 := s_hg g4) (u := some (.int v6)) (s_Ev.up (by omega) (fT_isOver_22_s hp)) rfl rfl rfl rfl ?_
    by_cases hc : v6 = 0
    · rw [if_pos hc] at hB
      refine s_Fin.bf (c := ¬ v6 = 0) (tg := 86) (p2 := 80) (L1 := [some (.ref 0), some (.int x1), some (.int x2), some (.int x3), some (.int x4), some (.int x5)]) (st1 := []) (fun h => h hc) rfl ?_
      refine s_Fin.sg 3 (y := (30, [some (.ref 0), some (.int x1), some (.int x2), some (.int x3), some (.int (x4 + (1 : Int32))), some (.int (x5 + (1 : Int32)))], [], s_hg g4)) rfl ?_
      have hB := Option.some.inj hB
      subst hB
      exact s_Fin.more (L := [some (.ref 0), some (.int x1), some (.int x2), some (.int x3), some (.int (x4 + (1 : Int32))), some (.int (x5 + (1 : Int32)))]) ⟨Or.inr rfl, Or.inr rfl, Or.inr rfl, Or.inr rfl, Or.inr rfl, Or.inr rfl, trivial⟩ hr
    · rw [if_neg hc] at hB
      refine s_Fin.bt (c := ¬ v6 = 0) (tg := 86) (p2 := 80) (L1 := [some (.ref 0), some (.int x1), some (.int x2), some (.int x3), some (.int x4), some (.int x5)]) (st1 := []) hc rfl ?_
      refine s_Fin.sg 2 (y := (30, [some (.ref 0), some (.int x1), some (.int x2), some (.int x3), some (.int x4), some (.int (x5 + (1 : Int32)))], [], s_hg g4)) rfl ?_
      have hB := Option.some.inj hB
      subst hB
      exact s_Fin.more (L := [some (.ref 0), some (.int x1), some (.int x2), some (.int x3), some (.int x4), some (.int (x5 + (1 : Int32)))]) ⟨Or.inr rfl, Or.inr rfl, Or.inr rfl, Or.inr rfl, Or.inr rfl, Or.inr rfl, trivial⟩ hr
  · rw [if_neg hc] at hB
    refine s_Fin.bt (c := x2 ≤ x5) (tg := 92) (p2 := 33) (L1 := [some (.ref 0), some (.int x1), some (.int x2), some (.int x3), some (.int x4), some (.int x5)]) (st1 := []) (Int32.not_lt.mp hc) rfl ?_
    obtain ⟨_, hN, hz⟩ := s_in_of hB
    subst hz
    have hB := hN
    refine s_Fin.sg 1 (y := (94, [some (.ref 0), some (.int x1), some (.int x2), some (.int x3), some (.int x4), some (.int x5)], [.int x4], s_hg g)) rfl ?_
    have hB := Option.some.inj hB
    subst hB
    obtain ⟨rfl, rfl⟩ := hr
    exact s_Fin.rt rfl rfl
noncomputable def fC_odds_0 (x1 : Int32) (x2 : Int32) (x3 : Int32) (g : s_G) : Option (Int32 × s_G) :=
  s_b1 (fP_hasBoy_3 x1 g) fun v1 => if v1 = 0 then (some ((-1 : Int32), g))
  else if x2 < (1 : Int32) then (some ((-1 : Int32), g))
  else if (30 : Int32) < x2 then (some ((-1 : Int32), g))
  else s_lp (fun x => fC_odds_0_30 x1 x2 x3 x.1 x.2.1 x.2.2) ((0 : Int32), (0 : Int32), g)
theorem fC_odds_0_s {x1 : Int32} {x2 : Int32} {x3 : Int32} {g : s_G} {z : Int32 × s_G} (hB : fC_odds_0 x1 x2 x3 g = some z) : s_Ev 5 s_m124 [.ref 0, .int x1, .int x2, .int x3] (s_hg g) (some (.int z.1)) (s_hg z.2) := by
  unfold fC_odds_0 at hB
  refine s_Ev.fin ((?_ : ∀ (v : Option Value) (h' : s_H), (fun (z : Int32 × s_G) (v : Option Value) (h' : s_H) => v = some (.int z.1) ∧ h' = s_hg z.2) z v h' → s_Fin 5 s_m124 (0, s_ent [.ref 0, .int x1, .int x2, .int x3] (s_m124).2.2.1, [], s_hg g) v h') _ _ ⟨rfl, rfl⟩)
  intro v h' hr
  refine (show s_Fin 5 s_m124 (0, [some (.ref 0), some (.int x1), some (.int x2), some (.int x3), none, none], [], s_hg g) v h' from ?_)
  refine s_Fin.sg 3 (y := (5, [some (.ref 0), some (.int x1), some (.int x2), some (.int x3), none, none], [.int x1, .ref 3], s_hg g)) rfl ?_
  obtain ⟨v1, hp, hB⟩ := s_bd hB
  refine s_Fin.cl (d := 4) (q1 := s_m49) (md := 49) (vs := [.ref 3, .int x1]) (rest := []) (h1 := s_hg g) (u := some (.int v1)) (s_Ev.up (by omega) (fP_hasBoy_3_s hp)) rfl rfl rfl rfl ?_
  by_cases hc : v1 = 0
  · rw [if_pos hc] at hB
    refine s_Fin.bt (c := v1 = 0) (tg := 22) (p2 := 8) (L1 := [some (.ref 0), some (.int x1), some (.int x2), some (.int x3), none, none]) (st1 := []) hc rfl ?_
    refine s_Fin.sg 1 (y := (23, [some (.ref 0), some (.int x1), some (.int x2), some (.int x3), none, none], [.int (-1 : Int32)], s_hg g)) rfl ?_
    have hB := Option.some.inj hB
    subst hB
    obtain ⟨rfl, rfl⟩ := hr
    exact s_Fin.rt rfl rfl
  · rw [if_neg hc] at hB
    refine s_Fin.bf (c := v1 = 0) (tg := 22) (p2 := 8) (L1 := [some (.ref 0), some (.int x1), some (.int x2), some (.int x3), none, none]) (st1 := []) hc rfl ?_
    refine s_Fin.sg 2 (y := (13, [some (.ref 0), some (.int x1), some (.int x2), some (.int x3), none, none], [.int (1 : Int32), .int x2], s_hg g)) rfl ?_
    by_cases hc : x2 < (1 : Int32)
    · rw [if_pos hc] at hB
      refine s_Fin.bt (c := x2 < (1 : Int32)) (tg := 22) (p2 := 13) (L1 := [some (.ref 0), some (.int x1), some (.int x2), some (.int x3), none, none]) (st1 := []) hc rfl ?_
      refine s_Fin.sg 1 (y := (23, [some (.ref 0), some (.int x1), some (.int x2), some (.int x3), none, none], [.int (-1 : Int32)], s_hg g)) rfl ?_
      have hB := Option.some.inj hB
      subst hB
      obtain ⟨rfl, rfl⟩ := hr
      exact s_Fin.rt rfl rfl
    · rw [if_neg hc] at hB
      refine s_Fin.bf (c := x2 < (1 : Int32)) (tg := 22) (p2 := 13) (L1 := [some (.ref 0), some (.int x1), some (.int x2), some (.int x3), none, none]) (st1 := []) hc rfl ?_
      refine s_Fin.sg 2 (y := (19, [some (.ref 0), some (.int x1), some (.int x2), some (.int x3), none, none], [.int (30 : Int32), .int x2], s_hg g)) rfl ?_
      by_cases hc : (30 : Int32) < x2
      · rw [if_pos hc] at hB
        refine s_Fin.bf (c := x2 ≤ (30 : Int32)) (tg := 24) (p2 := 19) (L1 := [some (.ref 0), some (.int x1), some (.int x2), some (.int x3), none, none]) (st1 := []) (Int32.not_le.mpr hc) rfl ?_
        refine s_Fin.sg 1 (y := (23, [some (.ref 0), some (.int x1), some (.int x2), some (.int x3), none, none], [.int (-1 : Int32)], s_hg g)) rfl ?_
        have hB := Option.some.inj hB
        subst hB
        obtain ⟨rfl, rfl⟩ := hr
        exact s_Fin.rt rfl rfl
      · rw [if_neg hc] at hB
        refine s_Fin.bt (c := x2 ≤ (30 : Int32)) (tg := 24) (p2 := 19) (L1 := [some (.ref 0), some (.int x1), some (.int x2), some (.int x3), none, none]) (st1 := []) (Int32.not_lt.mp hc) rfl ?_
        refine s_Fin.sg 4 (y := (30, [some (.ref 0), some (.int x1), some (.int x2), some (.int x3), some (.int (0 : Int32)), some (.int (0 : Int32))], [], s_hg g)) rfl ?_
        exact s_Fin.more (L := [some (.ref 0), some (.int x1), some (.int x2), some (.int x3), some (.int (0 : Int32)), some (.int (0 : Int32))]) ⟨Or.inr rfl, Or.inr rfl, Or.inr rfl, Or.inr rfl, Or.inr rfl, Or.inr rfl, trivial⟩ (s_lp_s (P := (fun (x : Int32 × Int32 × s_G) (v : Option Value) (h' : s_H) => s_Fin 5 s_m124 (30, [some (.ref 0), some (.int x1), some (.int x2), some (.int x3), some (.int x.1), some (.int x.2.1)], [], s_hg x.2.2) v h')) (Q := (fun (z : Int32 × s_G) (v : Option Value) (h' : s_H) => v = some (.int z.1) ∧ h' = s_hg z.2)) (fun x z hB v h' hr => fC_odds_0_30_s hB hr) hB _ _ hr)
-- CampAshesModel.goBy
noncomputable def fM_goBy_130 (x1 : Int32) (g : s_G) : Option (Int32 × s_G) :=
  s_b1 (s_ix 200 (x1 + (1 : Int32))) fun k2 => s_b1 (s_ix 200 x1) fun k4 => if (g.1 149 k4) = (5 : Int32) then (if (400 : Int32) < ((g.1 132 47) + (g.1 149 k2)) then (some ((51 : Int32), g))
  else s_b2 (fM_passDays_130 (g.1 149 k2) g) fun v6 g5 => some ((0 : Int32), g5))
  else s_b1 (s_ix 200 (x1 + (2 : Int32))) fun k9 => s_b1 (s_ix 200 (x1 + (3 : Int32))) fun k11 => s_b1 (s_ix 200 (x1 + (4 : Int32))) fun k13 => s_b1 (fM_why_130 (g.1 149 k4) (g.1 149 k2) (g.1 149 k9) (g.1 149 k11) (g.1 149 k13) g) fun v14 => if v14 = 0 then (s_b1 (fM_live_130 (g.1 149 k4) (g.1 149 k2) (g.1 149 k9) (g.1 149 k11) (g.1 149 k13) g) fun g19 => some ((0 : Int32), g19))
  else some (((10 : Int32) * (g.1 149 k4)) + v14, g)
theorem fM_goBy_130_s {x1 : Int32} {g : s_G} {z : Int32 × s_G} (hB : fM_goBy_130 x1 g = some z) : s_Ev 5 s_m264 [.ref 130, .int x1] (s_hg g) (some (.int z.1)) (s_hg z.2) := by
  unfold fM_goBy_130 at hB
  refine s_Ev.fin ((?_ : ∀ (v : Option Value) (h' : s_H), (fun (z : Int32 × s_G) (v : Option Value) (h' : s_H) => v = some (.int z.1) ∧ h' = s_hg z.2) z v h' → s_Fin 5 s_m264 (0, s_ent [.ref 130, .int x1] (s_m264).2.2.1, [], s_hg g) v h') _ _ ⟨rfl, rfl⟩)
  intro v h' hr
  refine (show s_Fin 5 s_m264 (0, [some (.ref 130), some (.int x1), none, none], [], s_hg g) v h' from ?_)
  refine s_Fin.sg 5 (y := (7, [some (.ref 130), some (.int x1), none, none], [.int (x1 + (1 : Int32)), .ref 149], s_hg g)) rfl ?_
  obtain ⟨k2, hk2, hB⟩ := s_bd hB
  refine s_Fin.ix (n := 200) (i := x1 + (1 : Int32)) (pc1 := 8) (L1 := [some (.ref 130), some (.int x1), none, none]) (fun j1 => [.int (g.1 149 j1)]) (fun j1 => s_hg g) hk2 rfl rfl ?_
  refine s_Fin.sg 4 (y := (14, [some (.ref 130), some (.int x1), some (.int (g.1 149 k2)), none], [.int x1, .ref 149], s_hg g)) rfl ?_
  obtain ⟨k4, hk4, hB⟩ := s_bd hB
  refine s_Fin.ix (n := 200) (i := x1) (pc1 := 15) (L1 := [some (.ref 130), some (.int x1), some (.int (g.1 149 k2)), none]) (fun j3 => [.int (g.1 149 j3)]) (fun j3 => s_hg g) hk4 rfl rfl ?_
  refine s_Fin.sg 1 (y := (16, [some (.ref 130), some (.int x1), some (.int (g.1 149 k2)), none], [.int (5 : Int32), .int (g.1 149 k4)], s_hg g)) rfl ?_
  by_cases hc : (g.1 149 k4) = (5 : Int32)
  · rw [if_pos hc] at hB
    refine s_Fin.bf (c := ¬ (g.1 149 k4) = (5 : Int32)) (tg := 45) (p2 := 16) (L1 := [some (.ref 130), some (.int x1), some (.int (g.1 149 k2)), none]) (st1 := []) (fun h => h hc) rfl ?_
    refine s_Fin.sg 7 (y := (31, [some (.ref 130), some (.int x1), some (.int (g.1 149 k2)), none], [.int (400 : Int32), .int ((g.1 132 47) + (g.1 149 k2))], s_hg g)) rfl ?_
    by_cases hc : (400 : Int32) < ((g.1 132 47) + (g.1 149 k2))
    · rw [if_pos hc] at hB
      refine s_Fin.bf (c := ((g.1 132 47) + (g.1 149 k2)) ≤ (400 : Int32)) (tg := 37) (p2 := 31) (L1 := [some (.ref 130), some (.int x1), some (.int (g.1 149 k2)), none]) (st1 := []) (Int32.not_le.mpr hc) rfl ?_
      refine s_Fin.sg 1 (y := (36, [some (.ref 130), some (.int x1), some (.int (g.1 149 k2)), none], [.int (51 : Int32)], s_hg g)) rfl ?_
      have hB := Option.some.inj hB
      subst hB
      obtain ⟨rfl, rfl⟩ := hr
      exact s_Fin.rt rfl rfl
    · rw [if_neg hc] at hB
      refine s_Fin.bt (c := ((g.1 132 47) + (g.1 149 k2)) ≤ (400 : Int32)) (tg := 37) (p2 := 31) (L1 := [some (.ref 130), some (.int x1), some (.int (g.1 149 k2)), none]) (st1 := []) (Int32.not_lt.mp hc) rfl ?_
      refine s_Fin.sg 2 (y := (39, [some (.ref 130), some (.int x1), some (.int (g.1 149 k2)), none], [.int (g.1 149 k2), .ref 130], s_hg g)) rfl ?_
      obtain ⟨v6, g5, hp, hB⟩ := s_bd2 hB
      refine s_Fin.cl (d := 4) (q1 := s_m225) (md := 225) (vs := [.ref 130, .int (g.1 149 k2)]) (rest := []) (h1 := s_hg g5) (u := some (.int v6)) (s_Ev.up (by omega) (fM_passDays_130_s hp)) rfl rfl rfl rfl ?_
      refine s_Fin.sg 2 (y := (44, [some (.ref 130), some (.int x1), some (.int (g.1 149 k2)), none], [.int (0 : Int32)], s_hg g5)) rfl ?_
      have hB := Option.some.inj hB
      subst hB
      obtain ⟨rfl, rfl⟩ := hr
      exact s_Fin.rt rfl rfl
  · rw [if_neg hc] at hB
    refine s_Fin.bt (c := ¬ (g.1 149 k4) = (5 : Int32)) (tg := 45) (p2 := 16) (L1 := [some (.ref 130), some (.int x1), some (.int (g.1 149 k2)), none]) (st1 := []) hc rfl ?_
    refine s_Fin.sg 4 (y := (51, [some (.ref 130), some (.int x1), some (.int (g.1 149 k2)), none], [.int x1, .ref 149, .ref 130], s_hg g)) rfl ?_
    refine s_Fin.ix (n := 200) (i := x1) (pc1 := 52) (L1 := [some (.ref 130), some (.int x1), some (.int (g.1 149 k2)), none]) (fun j7 => [.int (g.1 149 j7), .ref 130]) (fun j7 => s_hg g) hk4 rfl rfl ?_
    refine s_Fin.sg 6 (y := (60, [some (.ref 130), some (.int x1), some (.int (g.1 149 k2)), none], [.int (x1 + (2 : Int32)), .ref 149, .int (g.1 149 k2), .int (g.1 149 k4), .ref 130], s_hg g)) rfl ?_
    obtain ⟨k9, hk9, hB⟩ := s_bd hB
    refine s_Fin.ix (n := 200) (i := x1 + (2 : Int32)) (pc1 := 61) (L1 := [some (.ref 130), some (.int x1), some (.int (g.1 149 k2)), none]) (fun j8 => [.int (g.1 149 j8), .int (g.1 149 k2), .int (g.1 149 k4), .ref 130]) (fun j8 => s_hg g) hk9 rfl rfl ?_
    refine s_Fin.sg 5 (y := (68, [some (.ref 130), some (.int x1), some (.int (g.1 149 k2)), none], [.int (x1 + (3 : Int32)), .ref 149, .int (g.1 149 k9), .int (g.1 149 k2), .int (g.1 149 k4), .ref 130], s_hg g)) rfl ?_
    obtain ⟨k11, hk11, hB⟩ := s_bd hB
    refine s_Fin.ix (n := 200) (i := x1 + (3 : Int32)) (pc1 := 69) (L1 := [some (.ref 130), some (.int x1), some (.int (g.1 149 k2)), none]) (fun j10 => [.int (g.1 149 j10), .int (g.1 149 k9), .int (g.1 149 k2), .int (g.1 149 k4), .ref 130]) (fun j10 => s_hg g) hk11 rfl rfl ?_
    refine s_Fin.sg 5 (y := (76, [some (.ref 130), some (.int x1), some (.int (g.1 149 k2)), none], [.int (x1 + (4 : Int32)), .ref 149, .int (g.1 149 k11), .int (g.1 149 k9), .int (g.1 149 k2), .int (g.1 149 k4), .ref 130], s_hg g)) rfl ?_
    obtain ⟨k13, hk13, hB⟩ := s_bd hB
    refine s_Fin.ix (n := 200) (i := x1 + (4 : Int32)) (pc1 := 77) (L1 := [some (.ref 130), some (.int x1), some (.int (g.1 149 k2)), none]) (fun j12 => [.int (g.1 149 j12), .int (g.1 149 k11), .int (g.1 149 k9), .int (g.1 149 k2), .int (g.1 149 k4), .ref 130]) (fun j12 => s_hg g) hk13 rfl rfl ?_
    obtain ⟨v14, hp, hB⟩ := s_bd hB
    refine s_Fin.cl (d := 4) (q1 := s_m212) (md := 212) (vs := [.ref 130, .int (g.1 149 k4), .int (g.1 149 k2), .int (g.1 149 k9), .int (g.1 149 k11), .int (g.1 149 k13)]) (rest := []) (h1 := s_hg g) (u := some (.int v14)) (s_Ev.up (by omega) (fM_why_130_s hp)) rfl rfl rfl rfl ?_
    refine s_Fin.sg 2 (y := (82, [some (.ref 130), some (.int x1), some (.int (g.1 149 k2)), some (.int v14)], [.int v14], s_hg g)) rfl ?_
    by_cases hc : v14 = 0
    · rw [if_pos hc] at hB
      refine s_Fin.bt (c := v14 = 0) (tg := 97) (p2 := 82) (L1 := [some (.ref 130), some (.int x1), some (.int (g.1 149 k2)), some (.int v14)]) (st1 := []) hc rfl ?_
      refine s_Fin.sg 4 (y := (103, [some (.ref 130), some (.int x1), some (.int (g.1 149 k2)), some (.int v14)], [.int x1, .ref 149, .ref 130], s_hg g)) rfl ?_
      refine s_Fin.ix (n := 200) (i := x1) (pc1 := 104) (L1 := [some (.ref 130), some (.int x1), some (.int (g.1 149 k2)), some (.int v14)]) (fun j15 => [.int (g.1 149 j15), .ref 130]) (fun j15 => s_hg g) hk4 rfl rfl ?_
      refine s_Fin.sg 6 (y := (112, [some (.ref 130), some (.int x1), some (.int (g.1 149 k2)), some (.int v14)], [.int (x1 + (2 : Int32)), .ref 149, .int (g.1 149 k2), .int (g.1 149 k4), .ref 130], s_hg g)) rfl ?_
      refine s_Fin.ix (n := 200) (i := x1 + (2 : Int32)) (pc1 := 113) (L1 := [some (.ref 130), some (.int x1), some (.int (g.1 149 k2)), some (.int v14)]) (fun j16 => [.int (g.1 149 j16), .int (g.1 149 k2), .int (g.1 149 k4), .ref 130]) (fun j16 => s_hg g) hk9 rfl rfl ?_
      refine s_Fin.sg 5 (y := (120, [some (.ref 130), some (.int x1), some (.int (g.1 149 k2)), some (.int v14)], [.int (x1 + (3 : Int32)), .ref 149, .int (g.1 149 k9), .int (g.1 149 k2), .int (g.1 149 k4), .ref 130], s_hg g)) rfl ?_
      refine s_Fin.ix (n := 200) (i := x1 + (3 : Int32)) (pc1 := 121) (L1 := [some (.ref 130), some (.int x1), some (.int (g.1 149 k2)), some (.int v14)]) (fun j17 => [.int (g.1 149 j17), .int (g.1 149 k9), .int (g.1 149 k2), .int (g.1 149 k4), .ref 130]) (fun j17 => s_hg g) hk11 rfl rfl ?_
      refine s_Fin.sg 5 (y := (128, [some (.ref 130), some (.int x1), some (.int (g.1 149 k2)), some (.int v14)], [.int (x1 + (4 : Int32)), .ref 149, .int (g.1 149 k11), .int (g.1 149 k9), .int (g.1 149 k2), .int (g.1 149 k4), .ref 130], s_hg g)) rfl ?_
      refine s_Fin.ix (n := 200) (i := x1 + (4 : Int32)) (pc1 := 129) (L1 := [some (.ref 130), some (.int x1), some (.int (g.1 149 k2)), some (.int v14)]) (fun j18 => [.int (g.1 149 j18), .int (g.1 149 k11), .int (g.1 149 k9), .int (g.1 149 k2), .int (g.1 149 k4), .ref 130]) (fun j18 => s_hg g) hk13 rfl rfl ?_
      obtain ⟨g19, hp, hB⟩ := s_bd hB
      refine s_Fin.cl (d := 4) (q1 := s_m215) (md := 215) (vs := [.ref 130, .int (g.1 149 k4), .int (g.1 149 k2), .int (g.1 149 k9), .int (g.1 149 k11), .int (g.1 149 k13)]) (rest := []) (h1 := s_hg g19) (u := none) (s_Ev.up (by omega) (fM_live_130_s hp)) rfl rfl rfl rfl ?_
      refine s_Fin.sg 1 (y := (133, [some (.ref 130), some (.int x1), some (.int (g.1 149 k2)), some (.int v14)], [.int (0 : Int32)], s_hg g19)) rfl ?_
      have hB := Option.some.inj hB
      subst hB
      obtain ⟨rfl, rfl⟩ := hr
      exact s_Fin.rt rfl rfl
    · rw [if_neg hc] at hB
      refine s_Fin.bf (c := v14 = 0) (tg := 97) (p2 := 82) (L1 := [some (.ref 130), some (.int x1), some (.int (g.1 149 k2)), some (.int v14)]) (st1 := []) hc rfl ?_
      refine s_Fin.sg 4 (y := (92, [some (.ref 130), some (.int x1), some (.int (g.1 149 k2)), some (.int v14)], [.int x1, .ref 149, .int (10 : Int32)], s_hg g)) rfl ?_
      refine s_Fin.ix (n := 200) (i := x1) (pc1 := 93) (L1 := [some (.ref 130), some (.int x1), some (.int (g.1 149 k2)), some (.int v14)]) (fun j20 => [.int (g.1 149 j20), .int (10 : Int32)]) (fun j20 => s_hg g) hk4 rfl rfl ?_
      refine s_Fin.sg 3 (y := (96, [some (.ref 130), some (.int x1), some (.int (g.1 149 k2)), some (.int v14)], [.int (((10 : Int32) * (g.1 149 k4)) + v14)], s_hg g)) rfl ?_
      have hB := Option.some.inj hB
      subst hB
      obtain ⟨rfl, rfl⟩ := hr
      exact s_Fin.rt rfl rfl
-- CampAshesModel.stay
noncomputable def fM_stay_130_2 (x1 : Int32) (x2 : Int32) (g : s_G) : Option ((Int32 × s_G) ⊕ (s_G)) :=
  if x2 < (86 : Int32) then (s_b1 (s_ix 375 ((47 : Int32) + x2)) fun k2 => s_b1 (s_ix 86 x2) fun k4 => some (.inl (x2 + (1 : Int32), (s_si (s_si g 132 k2 (g.1 136 k4)) 136 k4 (g.1 132 k2)))))
  else s_in (if x1 = 0 then (some g)
  else s_b1 (fM_snap_130 g) fun g7 => s_b1 (fM_takeBack_130 g7) fun g8 => some g8)
theorem fM_stay_130_2_s {x1 : Int32} {x2 : Int32} {g : s_G} {z : (Int32 × s_G) ⊕ (s_G)} (hB : fM_stay_130_2 x1 x2 g = some z) {v : Option Value} {h' : s_H} (hr : (s_sm (fun (x : Int32 × s_G) (v : Option Value) (h' : s_H) => s_Fin 1 s_m265 (2, [some (.ref 130), some (.int x1), some (.int x.1), none], [], s_hg x.2) v h') (fun (z : s_G) (v : Option Value) (h' : s_H) => v = none ∧ h' = s_hg z)) z v h') : s_Fin 1 s_m265 (2, [some (.ref 130), some (.int x1), some (.int x2), none], [], s_hg g) v h' := by
  unfold fM_stay_130_2 at hB
  refine s_Fin.sg 2 (y := (5, [some (.ref 130), some (.int x1), some (.int x2), none], [.int (86 : Int32), .int x2], s_hg g)) rfl ?_
  by_cases hc : x2 < (86 : Int32)
  · rw [if_pos hc] at hB
    refine s_Fin.bf (c := (86 : Int32) ≤ x2) (tg := 46) (p2 := 5) (L1 := [some (.ref 130), some (.int x1), some (.int x2), none]) (st1 := []) (Int32.not_le.mpr hc) rfl ?_
    refine s_Fin.sg 5 (y := (16, [some (.ref 130), some (.int x1), some (.int x2), none], [.int ((47 : Int32) + x2), .ref 132], s_hg g)) rfl ?_
    obtain ⟨k2, hk2, hB⟩ := s_bd hB
    refine s_Fin.ix (n := 375) (i := (47 : Int32) + x2) (pc1 := 17) (L1 := [some (.ref 130), some (.int x1), some (.int x2), none]) (fun j1 => [.int (g.1 132 j1)]) (fun j1 => s_hg g) hk2 rfl rfl ?_
    refine s_Fin.sg 9 (y := (31, [some (.ref 130), some (.int x1), some (.int x2), some (.int (g.1 132 k2))], [.int x2, .ref 136, .int ((47 : Int32) + x2), .ref 132], s_hg g)) rfl ?_
    obtain ⟨k4, hk4, hB⟩ := s_bd hB
    refine s_Fin.ix (n := 86) (i := x2) (pc1 := 32) (L1 := [some (.ref 130), some (.int x1), some (.int x2), some (.int (g.1 132 k2))]) (fun j3 => [.int (g.1 136 j3), .int ((47 : Int32) + x2), .ref 132]) (fun j3 => s_hg g) hk4 rfl rfl ?_
    refine s_Fin.ix (n := 375) (i := (47 : Int32) + x2) (pc1 := 33) (L1 := [some (.ref 130), some (.int x1), some (.int x2), some (.int (g.1 132 k2))]) (fun j5 => []) (fun j5 => s_hg (s_si g 132 j5 (g.1 136 k4))) hk2 rfl rfl ?_
    refine s_Fin.sg 4 (y := (39, [some (.ref 130), some (.int x1), some (.int x2), some (.int (g.1 132 k2))], [.int (g.1 132 k2), .int x2, .ref 136], s_hg (s_si g 132 k2 (g.1 136 k4)))) rfl ?_
    refine s_Fin.ix (n := 86) (i := x2) (pc1 := 40) (L1 := [some (.ref 130), some (.int x1), some (.int x2), some (.int (g.1 132 k2))]) (fun j6 => []) (fun j6 => s_hg (s_si (s_si g 132 k2 (g.1 136 k4)) 136 j6 (g.1 132 k2))) hk4 rfl rfl ?_
    refine s_Fin.sg 2 (y := (2, [some (.ref 130), some (.int x1), some (.int (x2 + (1 : Int32))), some (.int (g.1 132 k2))], [], s_hg (s_si (s_si g 132 k2 (g.1 136 k4)) 136 k4 (g.1 132 k2)))) rfl ?_
    have hB := Option.some.inj hB
    subst hB
    exact s_Fin.more (L := [some (.ref 130), some (.int x1), some (.int (x2 + (1 : Int32))), none]) ⟨Or.inr rfl, Or.inr rfl, Or.inr rfl, Or.inl rfl, trivial⟩ hr
  · rw [if_neg hc] at hB
    refine s_Fin.bt (c := (86 : Int32) ≤ x2) (tg := 46) (p2 := 5) (L1 := [some (.ref 130), some (.int x1), some (.int x2), none]) (st1 := []) (Int32.not_lt.mp hc) rfl ?_
    obtain ⟨_, hN, hz⟩ := s_in_of hB
    subst hz
    have hB := hN
    refine s_Fin.sg 1 (y := (47, [some (.ref 130), some (.int x1), some (.int x2), none], [.int x1], s_hg g)) rfl ?_
    by_cases hc : x1 = 0
    · rw [if_pos hc] at hB
      refine s_Fin.bf (c := ¬ x1 = 0) (tg := 51) (p2 := 47) (L1 := [some (.ref 130), some (.int x1), some (.int x2), none]) (st1 := []) (fun h => h hc) rfl ?_
      have hB := Option.some.inj hB
      subst hB
      obtain ⟨rfl, rfl⟩ := hr
      exact s_Fin.rt rfl rfl
    · rw [if_neg hc] at hB
      refine s_Fin.bt (c := ¬ x1 = 0) (tg := 51) (p2 := 47) (L1 := [some (.ref 130), some (.int x1), some (.int x2), none]) (st1 := []) hc rfl ?_
      refine s_Fin.sg 1 (y := (52, [some (.ref 130), some (.int x1), some (.int x2), none], [.ref 130], s_hg g)) rfl ?_
      obtain ⟨g7, hp, hB⟩ := s_bd hB
      refine s_Fin.cl (d := 0) (q1 := s_m214) (md := 214) (vs := [.ref 130]) (rest := []) (h1 := s_hg g7) (u := none) (s_Ev.up (by omega) (fM_snap_130_s hp)) rfl rfl rfl rfl ?_
      refine s_Fin.sg 1 (y := (56, [some (.ref 130), some (.int x1), some (.int x2), none], [.ref 130], s_hg g7)) rfl ?_
      obtain ⟨g8, hp, hB⟩ := s_bd hB
      refine s_Fin.cl (d := 0) (q1 := s_m247) (md := 247) (vs := [.ref 130]) (rest := []) (h1 := s_hg g8) (u := none) (s_Ev.up (by omega) (fM_takeBack_130_s hp)) rfl rfl rfl rfl ?_
      have hB := Option.some.inj hB
      subst hB
      obtain ⟨rfl, rfl⟩ := hr
      exact s_Fin.rt rfl rfl
noncomputable def fM_stay_130 (x1 : Int32) (g : s_G) : Option (s_G) :=
  s_lp (fun x => fM_stay_130_2 x1 x.1 x.2) ((0 : Int32), g)
theorem fM_stay_130_s {x1 : Int32} {g : s_G} {z : s_G} (hB : fM_stay_130 x1 g = some z) : s_Ev 1 s_m265 [.ref 130, .int x1] (s_hg g) (none) (s_hg z) := by
  unfold fM_stay_130 at hB
  refine s_Ev.fin ((?_ : ∀ (v : Option Value) (h' : s_H), (fun (z : s_G) (v : Option Value) (h' : s_H) => v = none ∧ h' = s_hg z) z v h' → s_Fin 1 s_m265 (0, s_ent [.ref 130, .int x1] (s_m265).2.2.1, [], s_hg g) v h') _ _ ⟨rfl, rfl⟩)
  intro v h' hr
  refine (show s_Fin 1 s_m265 (0, [some (.ref 130), some (.int x1), none, none], [], s_hg g) v h' from ?_)
  refine s_Fin.sg 2 (y := (2, [some (.ref 130), some (.int x1), some (.int (0 : Int32)), none], [], s_hg g)) rfl ?_
  exact s_Fin.more (L := [some (.ref 130), some (.int x1), some (.int (0 : Int32)), none]) ⟨Or.inr rfl, Or.inr rfl, Or.inr rfl, Or.inl rfl, trivial⟩ (s_lp_s (P := (fun (x : Int32 × s_G) (v : Option Value) (h' : s_H) => s_Fin 1 s_m265 (2, [some (.ref 130), some (.int x1), some (.int x.1), none], [], s_hg x.2) v h')) (Q := (fun (z : s_G) (v : Option Value) (h' : s_H) => v = none ∧ h' = s_hg z)) (fun x z hB v h' hr => fM_stay_130_2_s hB hr) hB _ _ hr)
