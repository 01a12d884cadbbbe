-- CampAshes$State.giveSome
noncomputable def fT_giveSome_22 (x1 : Int32) (x2 : Int32) (x3 : Int32) (x4 : Int32) (g : s_G) : Option (Int32 × s_G) :=
  if x1 = x3 then (some ((1 : Int32), g))
  else s_b1 (fT_onBoy_22 x2 x1 g) fun v1 => if v1 < x4 then (some ((2 : Int32), g))
  else s_b1 (s_ix 7 x3) fun k3 => if (g.1 5 k3) < ((g.1 24 k3) + x4) then (some ((3 : Int32), g))
  else s_b1 (fT_putOn_22 x2 x1 (-x4) g) fun g5 => s_b1 (fT_putOn_22 x2 x3 x4 g5) fun g6 => some ((0 : Int32), g6)
theorem fT_giveSome_22_s {x1 : Int32} {x2 : Int32} {x3 : Int32} {x4 : Int32} {g : s_G} {z : Int32 × s_G} (hB : fT_giveSome_22 x1 x2 x3 x4 g = some z) : s_Ev 1 s_m73 [.ref 22, .int x1, .int x2, .int x3, .int x4] (s_hg g) (some (.int z.1)) (s_hg z.2) := by
  unfold fT_giveSome_22 at hB
  refine s_Ev.fin ((?_ : ∀ (v : Option Value) (h' : s_H), (fun (z : Int32 × s_G) (v : Option Value) (h' : s_H) => v = some (.int z.1) ∧ h' = s_hg z.2) z v h' → s_Fin 1 s_m73 (0, s_ent [.ref 22, .int x1, .int x2, .int x3, .int x4] (s_m73).2.2.1, [], s_hg g) v h') _ _ ⟨rfl, rfl⟩)
  intro v h' hr
  refine (show s_Fin 1 s_m73 (0, [some (.ref 22), some (.int x1), some (.int x2), some (.int x3), some (.int x4)], [], s_hg g) v h' from ?_)
  refine s_Fin.sg 2 (y := (2, [some (.ref 22), some (.int x1), some (.int x2), some (.int x3), some (.int x4)], [.int x3, .int x1], s_hg g)) rfl ?_
  by_cases hc : x1 = x3
  · rw [if_pos hc] at hB
    refine s_Fin.bf (c := ¬ x1 = x3) (tg := 7) (p2 := 2) (L1 := [some (.ref 22), some (.int x1), some (.int x2), some (.int x3), some (.int x4)]) (st1 := []) (fun h => h hc) rfl ?_
    refine s_Fin.sg 1 (y := (6, [some (.ref 22), some (.int x1), some (.int x2), some (.int x3), some (.int x4)], [.int (1 : Int32)], s_hg g)) rfl ?_
    have hB := Option.some.inj hB
    subst hB
    obtain ⟨rfl, rfl⟩ := hr
    exact s_Fin.rt rfl rfl
  · rw [if_neg hc] at hB
    refine s_Fin.bt (c := ¬ x1 = x3) (tg := 7) (p2 := 2) (L1 := [some (.ref 22), some (.int x1), some (.int x2), some (.int x3), some (.int x4)]) (st1 := []) hc rfl ?_
    refine s_Fin.sg 3 (y := (10, [some (.ref 22), some (.int x1), some (.int x2), some (.int x3), some (.int x4)], [.int x1, .int x2, .ref 22], s_hg g)) rfl ?_
    obtain ⟨v1, hp, hB⟩ := s_bd hB
    refine s_Fin.cl (d := 0) (q1 := s_m50) (md := 50) (vs := [.ref 22, .int x2, .int x1]) (rest := []) (h1 := s_hg g) (u := some (.int v1)) (s_Ev.up (by omega) (fT_onBoy_22_s hp)) rfl rfl rfl rfl ?_
    refine s_Fin.sg 1 (y := (15, [some (.ref 22), some (.int x1), some (.int x2), some (.int x3), some (.int x4)], [.int x4, .int v1], s_hg g)) rfl ?_
    by_cases hc : v1 < x4
    · rw [if_pos hc] at hB
      refine s_Fin.bf (c := x4 ≤ v1) (tg := 20) (p2 := 15) (L1 := [some (.ref 22), some (.int x1), some (.int x2), some (.int x3), some (.int x4)]) (st1 := []) (Int32.not_le.mpr hc) rfl ?_
      refine s_Fin.sg 1 (y := (19, [some (.ref 22), some (.int x1), some (.int x2), some (.int x3), some (.int x4)], [.int (2 : Int32)], s_hg g)) rfl ?_
      have hB := Option.some.inj hB
      subst hB
      obtain ⟨rfl, rfl⟩ := hr
      exact s_Fin.rt rfl rfl
    · rw [if_neg hc] at hB
      refine s_Fin.bt (c := x4 ≤ v1) (tg := 20) (p2 := 15) (L1 := [some (.ref 22), some (.int x1), some (.int x2), some (.int x3), some (.int x4)]) (st1 := []) (Int32.not_lt.mp hc) rfl ?_
      refine s_Fin.sg 3 (y := (25, [some (.ref 22), some (.int x1), some (.int x2), some (.int x3), some (.int x4)], [.int x3, .ref 24], s_hg g)) rfl ?_
      obtain ⟨k3, hk3, hB⟩ := s_bd hB
      refine s_Fin.ix (n := 7) (i := x3) (pc1 := 26) (L1 := [some (.ref 22), some (.int x1), some (.int x2), some (.int x3), some (.int x4)]) (fun j2 => [.int (g.1 24 j2)]) (fun j2 => s_hg g) hk3 rfl rfl ?_
      refine s_Fin.sg 6 (y := (37, [some (.ref 22), some (.int x1), some (.int x2), some (.int x3), some (.int x4)], [.int x3, .ref 5, .int ((g.1 24 k3) + x4)], s_hg g)) rfl ?_
      refine s_Fin.ix (n := 7) (i := x3) (pc1 := 38) (L1 := [some (.ref 22), some (.int x1), some (.int x2), some (.int x3), some (.int x4)]) (fun j4 => [.int (g.1 5 j4), .int ((g.1 24 k3) + x4)]) (fun j4 => s_hg g) hk3 rfl rfl ?_
      by_cases hc : (g.1 5 k3) < ((g.1 24 k3) + x4)
      · rw [if_pos hc] at hB
        refine s_Fin.bf (c := ((g.1 24 k3) + x4) ≤ (g.1 5 k3)) (tg := 43) (p2 := 38) (L1 := [some (.ref 22), some (.int x1), some (.int x2), some (.int x3), some (.int x4)]) (st1 := []) (Int32.not_le.mpr hc) rfl ?_
        refine s_Fin.sg 1 (y := (42, [some (.ref 22), some (.int x1), some (.int x2), some (.int x3), some (.int x4)], [.int (3 : Int32)], s_hg g)) rfl ?_
        have hB := Option.some.inj hB
        subst hB
        obtain ⟨rfl, rfl⟩ := hr
        exact s_Fin.rt rfl rfl
      · rw [if_neg hc] at hB
        refine s_Fin.bt (c := ((g.1 24 k3) + x4) ≤ (g.1 5 k3)) (tg := 43) (p2 := 38) (L1 := [some (.ref 22), some (.int x1), some (.int x2), some (.int x3), some (.int x4)]) (st1 := []) (Int32.not_lt.mp hc) rfl ?_
        refine s_Fin.sg 5 (y := (49, [some (.ref 22), some (.int x1), some (.int x2), some (.int x3), some (.int x4)], [.int (-x4), .int x1, .int x2, .ref 22], s_hg g)) rfl ?_
        obtain ⟨g5, hp, hB⟩ := s_bd hB
        refine s_Fin.cl (d := 0) (q1 := s_m14) (md := 14) (vs := [.ref 22, .int x2, .int x1, .int (-x4)]) (rest := []) (h1 := s_hg g5) (u := none) (s_Ev.up (by omega) (fT_putOn_22_s hp)) rfl rfl rfl rfl ?_
        refine s_Fin.sg 4 (y := (57, [some (.ref 22), some (.int x1), some (.int x2), some (.int x3), some (.int x4)], [.int x4, .int x3, .int x2, .ref 22], s_hg g5)) rfl ?_
        obtain ⟨g6, hp, hB⟩ := s_bd hB
        refine s_Fin.cl (d := 0) (q1 := s_m14) (md := 14) (vs := [.ref 22, .int x2, .int x3, .int x4]) (rest := []) (h1 := s_hg g6) (u := none) (s_Ev.up (by omega) (fT_putOn_22_s hp)) rfl rfl rfl rfl ?_
        refine s_Fin.sg 1 (y := (61, [some (.ref 22), some (.int x1), some (.int x2), some (.int x3), some (.int x4)], [.int (0 : Int32)], s_hg g6)) rfl ?_
        have hB := Option.some.inj hB
        subst hB
        obtain ⟨rfl, rfl⟩ := hr
        exact s_Fin.rt rfl rfl
-- CampAshes.give
noncomputable def fC_give_0 (x1 : Int32) (x2 : Int32) (x3 : Int32) (x4 : Int32) (g : s_G) : Option (Int32 × s_G) :=
  s_b1 (fP_hasBoy_3 x1 g) fun v1 => if v1 = 0 then (some ((-1 : Int32), g))
  else s_b1 (fP_hasEvent_3 x2 g) fun v2 => if v2 = 0 then (some ((-1 : Int32), g))
  else s_b1 (fP_hasBoy_3 x3 g) fun v3 => if v3 = 0 then (some ((-1 : Int32), g))
  else if x4 < (1 : Int32) then (some ((-1 : Int32), g))
  else if (40 : Int32) < x4 then (some ((-1 : Int32), g))
  else s_b1 (fT_copyFrom_22_17 g) fun g4 => s_b2 (fT_giveSome_22 x1 x2 x3 x4 g4) fun v6 g5 => s_b2 (fC_keepIfDone_0 v6 g5) fun v8 g7 => some (v8, g7)
theorem fC_give_0_s {x1 : Int32} {x2 : Int32} {x3 : Int32} {x4 : Int32} {g : s_G} {z : Int32 × s_G} (hB : fC_give_0 x1 x2 x3 x4 g = some z) : s_Ev 4 s_m72 [.ref 0, .int x1, .int x2, .int x3, .int x4] (s_hg g) (some (.int z.1)) (s_hg z.2) := by
  unfold fC_give_0 at hB
  refine s_Ev.fin ((?_ : ∀ (v : Option Value) (h' : s_H), (fun (z : Int32 × s_G) (v : Option Value) (h' : s_H) => v = some (.int z.1) ∧ h' = s_hg z.2) z v h' → s_Fin 4 s_m72 (0, s_ent [.ref 0, .int x1, .int x2, .int x3, .int x4] (s_m72).2.2.1, [], s_hg g) v h') _ _ ⟨rfl, rfl⟩)
  intro v h' hr
  refine (show s_Fin 4 s_m72 (0, [some (.ref 0), some (.int x1), some (.int x2), some (.int x3), some (.int x4)], [], s_hg g) v h' from ?_)
  refine s_Fin.sg 3 (y := (5, [some (.ref 0), some (.int x1), some (.int x2), some (.int x3), some (.int x4)], [.int x1, .ref 3], s_hg g)) rfl ?_
  obtain ⟨v1, hp, hB⟩ := s_bd hB
  refine s_Fin.cl (d := 3) (q1 := s_m49) (md := 49) (vs := [.ref 3, .int x1]) (rest := []) (h1 := s_hg g) (u := some (.int v1)) (s_Ev.up (by omega) (fP_hasBoy_3_s hp)) rfl rfl rfl rfl ?_
  by_cases hc : v1 = 0
  · rw [if_pos hc] at hB
    refine s_Fin.bt (c := v1 = 0) (tg := 46) (p2 := 8) (L1 := [some (.ref 0), some (.int x1), some (.int x2), some (.int x3), some (.int x4)]) (st1 := []) hc rfl ?_
    refine s_Fin.sg 1 (y := (47, [some (.ref 0), some (.int x1), some (.int x2), some (.int x3), some (.int x4)], [.int (-1 : Int32)], s_hg g)) rfl ?_
    have hB := Option.some.inj hB
    subst hB
    obtain ⟨rfl, rfl⟩ := hr
    exact s_Fin.rt rfl rfl
  · rw [if_neg hc] at hB
    refine s_Fin.bf (c := v1 = 0) (tg := 46) (p2 := 8) (L1 := [some (.ref 0), some (.int x1), some (.int x2), some (.int x3), some (.int x4)]) (st1 := []) hc rfl ?_
    refine s_Fin.sg 3 (y := (16, [some (.ref 0), some (.int x1), some (.int x2), some (.int x3), some (.int x4)], [.int x2, .ref 3], s_hg g)) rfl ?_
    obtain ⟨v2, hp, hB⟩ := s_bd hB
    refine s_Fin.cl (d := 3) (q1 := s_m48) (md := 48) (vs := [.ref 3, .int x2]) (rest := []) (h1 := s_hg g) (u := some (.int v2)) (s_Ev.up (by omega) (fP_hasEvent_3_s hp)) rfl rfl rfl rfl ?_
    by_cases hc : v2 = 0
    · rw [if_pos hc] at hB
      refine s_Fin.bt (c := v2 = 0) (tg := 46) (p2 := 19) (L1 := [some (.ref 0), some (.int x1), some (.int x2), some (.int x3), some (.int x4)]) (st1 := []) hc rfl ?_
      refine s_Fin.sg 1 (y := (47, [some (.ref 0), some (.int x1), some (.int x2), some (.int x3), some (.int x4)], [.int (-1 : Int32)], s_hg g)) rfl ?_
      have hB := Option.some.inj hB
      subst hB
      obtain ⟨rfl, rfl⟩ := hr
      exact s_Fin.rt rfl rfl
    · rw [if_neg hc] at hB
      refine s_Fin.bf (c := v2 = 0) (tg := 46) (p2 := 19) (L1 := [some (.ref 0), some (.int x1), some (.int x2), some (.int x3), some (.int x4)]) (st1 := []) hc rfl ?_
      refine s_Fin.sg 3 (y := (27, [some (.ref 0), some (.int x1), some (.int x2), some (.int x3), some (.int x4)], [.int x3, .ref 3], s_hg g)) rfl ?_
      obtain ⟨v3, hp, hB⟩ := s_bd hB
      refine s_Fin.cl (d := 3) (q1 := s_m49) (md := 49) (vs := [.ref 3, .int x3]) (rest := []) (h1 := s_hg g) (u := some (.int v3)) (s_Ev.up (by omega) (fP_hasBoy_3_s hp)) rfl rfl rfl rfl ?_
      by_cases hc : v3 = 0
      · rw [if_pos hc] at hB
        refine s_Fin.bt (c := v3 = 0) (tg := 46) (p2 := 30) (L1 := [some (.ref 0), some (.int x1), some (.int x2), some (.int x3), some (.int x4)]) (st1 := []) hc rfl ?_
        refine s_Fin.sg 1 (y := (47, [some (.ref 0), some (.int x1), some (.int x2), some (.int x3), some (.int x4)], [.int (-1 : Int32)], s_hg g)) rfl ?_
        have hB := Option.some.inj hB
        subst hB
        obtain ⟨rfl, rfl⟩ := hr
        exact s_Fin.rt rfl rfl
      · rw [if_neg hc] at hB
        refine s_Fin.bf (c := v3 = 0) (tg := 46) (p2 := 30) (L1 := [some (.ref 0), some (.int x1), some (.int x2), some (.int x3), some (.int x4)]) (st1 := []) hc rfl ?_
        refine s_Fin.sg 2 (y := (36, [some (.ref 0), some (.int x1), some (.int x2), some (.int x3), some (.int x4)], [.int (1 : Int32), .int x4], s_hg g)) rfl ?_
        by_cases hc : x4 < (1 : Int32)
        · rw [if_pos hc] at hB
          refine s_Fin.bt (c := x4 < (1 : Int32)) (tg := 46) (p2 := 36) (L1 := [some (.ref 0), some (.int x1), some (.int x2), some (.int x3), some (.int x4)]) (st1 := []) hc rfl ?_
          refine s_Fin.sg 1 (y := (47, [some (.ref 0), some (.int x1), some (.int x2), some (.int x3), some (.int x4)], [.int (-1 : Int32)], s_hg g)) rfl ?_
          have hB := Option.some.inj hB
          subst hB
          obtain ⟨rfl, rfl⟩ := hr
          exact s_Fin.rt rfl rfl
        · rw [if_neg hc] at hB
          refine s_Fin.bf (c := x4 < (1 : Int32)) (tg := 46) (p2 := 36) (L1 := [some (.ref 0), some (.int x1), some (.int x2), some (.int x3), some (.int x4)]) (st1 := []) hc rfl ?_
          refine s_Fin.sg 2 (y := (43, [some (.ref 0), some (.int x1), some (.int x2), some (.int x3), some (.int x4)], [.int (40 : Int32), .int x4], s_hg g)) rfl ?_
          by_cases hc : (40 : Int32) < x4
          · rw [if_pos hc] at hB
            refine s_Fin.bf (c := x4 ≤ (40 : Int32)) (tg := 48) (p2 := 43) (L1 := [some (.ref 0), some (.int x1), some (.int x2), some (.int x3), some (.int x4)]) (st1 := []) (Int32.not_le.mpr hc) rfl ?_
            refine s_Fin.sg 1 (y := (47, [some (.ref 0), some (.int x1), some (.int x2), some (.int x3), some (.int x4)], [.int (-1 : Int32)], s_hg g)) rfl ?_
            have hB := Option.some.inj hB
            subst hB
            obtain ⟨rfl, rfl⟩ := hr
            exact s_Fin.rt rfl rfl
          · rw [if_neg hc] at hB
            refine s_Fin.bt (c := x4 ≤ (40 : Int32)) (tg := 48) (p2 := 43) (L1 := [some (.ref 0), some (.int x1), some (.int x2), some (.int x3), some (.int x4)]) (st1 := []) (Int32.not_lt.mp hc) rfl ?_
            refine s_Fin.sg 4 (y := (56, [some (.ref 0), some (.int x1), some (.int x2), some (.int x3), some (.int x4)], [.ref 17, .ref 22], s_hg g)) rfl ?_
            obtain ⟨g4, hp, hB⟩ := s_bd hB
            refine s_Fin.cl (d := 3) (q1 := s_m62) (md := 62) (vs := [.ref 22, .ref 17]) (rest := []) (h1 := s_hg g4) (u := none) (s_Ev.up (by omega) (fT_copyFrom_22_17_s hp)) rfl rfl rfl rfl ?_
            refine s_Fin.sg 7 (y := (69, [some (.ref 0), some (.int x1), some (.int x2), some (.int x3), some (.int x4)], [.int x4, .int x3, .int x2, .int x1, .ref 22, .ref 0], s_hg g4)) rfl ?_
            obtain ⟨v6, g5, hp, hB⟩ := s_bd2 hB
            refine s_Fin.cl (d := 3) (q1 := s_m73) (md := 73) (vs := [.ref 22, .int x1, .int x2, .int x3, .int x4]) (rest := [.ref 0]) (h1 := s_hg g5) (u := some (.int v6)) (s_Ev.up (by omega) (fT_giveSome_22_s hp)) rfl rfl rfl rfl ?_
            obtain ⟨v8, g7, hp, hB⟩ := s_bd2 hB
            refine s_Fin.cl (d := 3) (q1 := s_m67) (md := 67) (vs := [.ref 0, .int v6]) (rest := []) (h1 := s_hg g7) (u := some (.int v8)) (s_Ev.up (by omega) (fC_keepIfDone_0_s hp)) rfl rfl rfl rfl ?_
            have hB := Option.some.inj hB
            subst hB
            obtain ⟨rfl, rfl⟩ := hr
            exact s_Fin.rt rfl rfl
-- CampAshesModel.log
noncomputable def fM_log_130 (g : s_G) : Option (Int32 × s_G) :=
  s_b2 (fM_act_130 (3 : Int32) (0 : Int32) (0 : Int32) (0 : Int32) (0 : Int32) (1 : Int32) (s_si g 130 0 (0 : Int32))) fun v2 g1 => some (v2, g1)
theorem fM_log_130_s {g : s_G} {z : Int32 × s_G} (hB : fM_log_130 g = some z) : s_Ev 5 s_m221 [.ref 130] (s_hg g) (some (.int z.1)) (s_hg z.2) := by
  unfold fM_log_130 at hB
  refine s_Ev.fin ((?_ : ∀ (v : Option Value) (h' : s_H), (fun (z : Int32 × s_G) (v : Option Value) (h' : s_H) => v = some (.int z.1) ∧ h' = s_hg z.2) z v h' → s_Fin 5 s_m221 (0, s_ent [.ref 130] (s_m221).2.2.1, [], s_hg g) v h') _ _ ⟨rfl, rfl⟩)
  intro v h' hr
  refine (show s_Fin 5 s_m221 (0, [some (.ref 130)], [], s_hg g) v h' from ?_)
  refine s_Fin.sg 10 (y := (12, [some (.ref 130)], [.int (1 : Int32), .int (0 : Int32), .int (0 : Int32), .int (0 : Int32), .int (0 : Int32), .int (3 : Int32), .ref 130], s_hg (s_si g 130 0 (0 : Int32)))) rfl ?_
  obtain ⟨v2, g1, hp, hB⟩ := s_bd2 hB
  refine s_Fin.cl (d := 4) (q1 := s_m211) (md := 211) (vs := [.ref 130, .int (3 : Int32), .int (0 : Int32), .int (0 : Int32), .int (0 : Int32), .int (0 : Int32), .int (1 : Int32)]) (rest := []) (h1 := s_hg g1) (u := some (.int v2)) (s_Ev.up (by omega) (fM_act_130_s hp)) rfl rfl rfl rfl ?_
  have hB := Option.some.inj hB
  subst hB
  obtain ⟨rfl, rfl⟩ := hr
  exact s_Fin.rt rfl rfl
-- CampAshes$State.putLogOn
noncomputable def fT_putLogOn_22 (g : s_G) : Option (Int32 × s_G) :=
  if (g.1 22 7) = 0 then (some ((1 : Int32), g))
  else if (g.1 22 6) = (30 : Int32) then (some ((2 : Int32), g))
  else some ((0 : Int32), (s_si (s_si g 22 7 ((g.1 22 7) - (1 : Int32))) 22 6 (if (30 : Int32) < ((g.1 22 6) + (4 : Int32)) then (30 : Int32) else ((g.1 22 6) + (4 : Int32)))))
theorem fT_putLogOn_22_s {g : s_G} {z : Int32 × s_G} (hB : fT_putLogOn_22 g = some z) : s_Ev 0 s_m75 [.ref 22] (s_hg g) (some (.int z.1)) (s_hg z.2) := by
  unfold fT_putLogOn_22 at hB
  refine s_Ev.fin ((?_ : ∀ (v : Option Value) (h' : s_H), (fun (z : Int32 × s_G) (v : Option Value) (h' : s_H) => v = some (.int z.1) ∧ h' = s_hg z.2) z v h' → s_Fin 0 s_m75 (0, s_ent [.ref 22] (s_m75).2.2.1, [], s_hg g) v h') _ _ ⟨rfl, rfl⟩)
  intro v h' hr
  refine (show s_Fin 0 s_m75 (0, [some (.ref 22)], [], s_hg g) v h' from ?_)
  refine s_Fin.sg 2 (y := (4, [some (.ref 22)], [.int (g.1 22 7)], s_hg g)) rfl ?_
  by_cases hc : (g.1 22 7) = 0
  · rw [if_pos hc] at hB
    refine s_Fin.bf (c := ¬ (g.1 22 7) = 0) (tg := 9) (p2 := 4) (L1 := [some (.ref 22)]) (st1 := []) (fun h => h hc) rfl ?_
    refine s_Fin.sg 1 (y := (8, [some (.ref 22)], [.int (1 : Int32)], s_hg g)) rfl ?_
    have hB := Option.some.inj hB
    subst hB
    obtain ⟨rfl, rfl⟩ := hr
    exact s_Fin.rt rfl rfl
  · rw [if_neg hc] at hB
    refine s_Fin.bt (c := ¬ (g.1 22 7) = 0) (tg := 9) (p2 := 4) (L1 := [some (.ref 22)]) (st1 := []) hc rfl ?_
    refine s_Fin.sg 3 (y := (15, [some (.ref 22)], [.int (30 : Int32), .int (g.1 22 6)], s_hg g)) rfl ?_
    by_cases hc : (g.1 22 6) = (30 : Int32)
    · rw [if_pos hc] at hB
      refine s_Fin.bf (c := ¬ (g.1 22 6) = (30 : Int32)) (tg := 20) (p2 := 15) (L1 := [some (.ref 22)]) (st1 := []) (fun h => h hc) rfl ?_
      refine s_Fin.sg 1 (y := (19, [some (.ref 22)], [.int (2 : Int32)], s_hg g)) rfl ?_
      have hB := Option.some.inj hB
      subst hB
      obtain ⟨rfl, rfl⟩ := hr
      exact s_Fin.rt rfl rfl
    · rw [if_neg hc] at hB
      refine s_Fin.bt (c := ¬ (g.1 22 6) = (30 : Int32)) (tg := 20) (p2 := 15) (L1 := [some (.ref 22)]) (st1 := []) hc rfl ?_
      refine s_Fin.sg 15 (y := (46, [some (.ref 22)], [.int (0 : Int32)], s_hg (s_si (s_si g 22 7 ((g.1 22 7) - (1 : Int32))) 22 6 (if (30 : Int32) < ((g.1 22 6) + (4 : Int32)) then (30 : Int32) else ((g.1 22 6) + (4 : Int32)))))) rfl ?_
      have hB := Option.some.inj hB
      subst hB
      obtain ⟨rfl, rfl⟩ := hr
      exact s_Fin.rt rfl rfl
-- CampAshes.log
noncomputable def fC_log_0 (g : s_G) : Option (Int32 × s_G) :=
  s_b1 (fT_copyFrom_22_17 g) fun g1 => s_b2 (fT_putLogOn_22 g1) fun v3 g2 => s_b2 (fC_keepIfDone_0 v3 g2) fun v5 g4 => some (v5, g4)
theorem fC_log_0_s {g : s_G} {z : Int32 × s_G} (hB : fC_log_0 g = some z) : s_Ev 4 s_m74 [.ref 0] (s_hg g) (some (.int z.1)) (s_hg z.2) := by
  unfold fC_log_0 at hB
  refine s_Ev.fin ((?_ : ∀ (v : Option Value) (h' : s_H), (fun (z : Int32 × s_G) (v : Option Value) (h' : s_H) => v = some (.int z.1) ∧ h' = s_hg z.2) z v h' → s_Fin 4 s_m74 (0, s_ent [.ref 0] (s_m74).2.2.1, [], s_hg g) v h') _ _ ⟨rfl, rfl⟩)
  intro v h' hr
  refine (show s_Fin 4 s_m74 (0, [some (.ref 0)], [], s_hg g) v h' from ?_)
  refine s_Fin.sg 4 (y := (8, [some (.ref 0)], [.ref 17, .ref 22], s_hg g)) rfl ?_
  obtain ⟨g1, hp, hB⟩ := s_bd hB
  refine s_Fin.cl (d := 3) (q1 := s_m62) (md := 62) (vs := [.ref 22, .ref 17]) (rest := []) (h1 := s_hg g1) (u := none) (s_Ev.up (by omega) (fT_copyFrom_22_17_s hp)) rfl rfl rfl rfl ?_
  refine s_Fin.sg 3 (y := (16, [some (.ref 0)], [.ref 22, .ref 0], s_hg g1)) rfl ?_
  obtain ⟨v3, g2, hp, hB⟩ := s_bd2 hB
  refine s_Fin.cl (d := 3) (q1 := s_m75) (md := 75) (vs := [.ref 22]) (rest := [.ref 0]) (h1 := s_hg g2) (u := some (.int v3)) (s_Ev.up (by omega) (fT_putLogOn_22_s hp)) rfl rfl rfl rfl ?_
  obtain ⟨v5, g4, hp, hB⟩ := s_bd2 hB
  refine s_Fin.cl (d := 3) (q1 := s_m67) (md := 67) (vs := [.ref 0, .int v3]) (rest := []) (h1 := s_hg g4) (u := some (.int v5)) (s_Ev.up (by omega) (fC_keepIfDone_0_s hp)) rfl rfl rfl rfl ?_
  have hB := Option.some.inj hB
  subst hB
  obtain ⟨rfl, rfl⟩ := hr
  exact s_Fin.rt rfl rfl
-- CampAshesModel.rake
noncomputable def fM_rake_130 (g : s_G) : Option (Int32 × s_G) :=
  s_b2 (fM_act_130 (4 : Int32) (0 : Int32) (0 : Int32) (0 : Int32) (0 : Int32) (1 : Int32) (s_si g 130 0 (0 : Int32))) fun v2 g1 => some (v2, g1)
theorem fM_rake_130_s {g : s_G} {z : Int32 × s_G} (hB : fM_rake_130 g = some z) : s_Ev 5 s_m222 [.ref 130] (s_hg g) (some (.int z.1)) (s_hg z.2) := by
  unfold fM_rake_130 at hB
  refine s_Ev.fin ((?_ : ∀ (v : Option Value) (h' : s_H), (fun (z : Int32 × s_G) (v : Option Value) (h' : s_H) => v = some (.int z.1) ∧ h' = s_hg z.2) z v h' → s_Fin 5 s_m222 (0, s_ent [.ref 130] (s_m222).2.2.1, [], s_hg g) v h') _ _ ⟨rfl, rfl⟩)
  intro v h' hr
  refine (show s_Fin 5 s_m222 (0, [some (.ref 130)], [], s_hg g) v h' from ?_)
  refine s_Fin.sg 10 (y := (12, [some (.ref 130)], [.int (1 : Int32), .int (0 : Int32), .int (0 : Int32), .int (0 : Int32), .int (0 : Int32), .int (4 : Int32), .ref 130], s_hg (s_si g 130 0 (0 : Int32)))) rfl ?_
  obtain ⟨v2, g1, hp, hB⟩ := s_bd2 hB
  refine s_Fin.cl (d := 4) (q1 := s_m211) (md := 211) (vs := [.ref 130, .int (4 : Int32), .int (0 : Int32), .int (0 : Int32), .int (0 : Int32), .int (0 : Int32), .int (1 : Int32)]) (rest := []) (h1 := s_hg g1) (u := some (.int v2)) (s_Ev.up (by omega) (fM_act_130_s hp)) rfl rfl rfl rfl ?_
  have hB := Option.some.inj hB
  subst hB
  obtain ⟨rfl, rfl⟩ := hr
  exact s_Fin.rt rfl rfl
-- java/util/Arrays.fill
noncomputable def fJ_fill_25_5 (x1 : Int32) (x2 : Int32) (x3 : Int32) (g : s_G) : Option ((Int32 × s_G) ⊕ (s_G)) :=
  if x2 < x3 then (s_b1 (s_ix 4 x2) fun k2 => some (.inl (x2 + (1 : Int32), (s_si g 25 k2 x1))))
  else s_in (some g)
theorem fJ_fill_25_5_s {x1 : Int32} {x2 : Int32} {x3 : Int32} {g : s_G} {z : (Int32 × s_G) ⊕ (s_G)} (hB : fJ_fill_25_5 x1 x2 x3 g = some z) {v : Option Value} {h' : s_H} (hr : (s_sm (fun (x : Int32 × s_G) (v : Option Value) (h' : s_H) => s_Fin 0 s_m4 (5, [some (.ref 25), some (.int x1), some (.int x.1), some (.int x3)], [], s_hg x.2) v h') (fun (z : s_G) (v : Option Value) (h' : s_H) => v = none ∧ h' = s_hg z)) z v h') : s_Fin 0 s_m4 (5, [some (.ref 25), some (.int x1), some (.int x2), some (.int x3)], [], s_hg g) v h' := by
  unfold fJ_fill_25_5 at hB
  refine s_Fin.sg 2 (y := (7, [some (.ref 25), some (.int x1), some (.int x2), some (.int x3)], [.int x3, .int x2], s_hg g)) rfl ?_
  by_cases hc : x2 < x3
  · rw [if_pos hc] at hB
    refine s_Fin.bf (c := x3 ≤ x2) (tg := 20) (p2 := 7) (L1 := [some (.ref 25), some (.int x1), some (.int x2), some (.int x3)]) (st1 := []) (Int32.not_le.mpr hc) rfl ?_
    refine s_Fin.sg 3 (y := (13, [some (.ref 25), some (.int x1), some (.int x2), some (.int x3)], [.int x1, .int x2, .ref 25], s_hg g)) rfl ?_
    obtain ⟨k2, hk2, hB⟩ := s_bd hB
    refine s_Fin.ix (n := 4) (i := x2) (pc1 := 14) (L1 := [some (.ref 25), some (.int x1), some (.int x2), some (.int x3)]) (fun j1 => []) (fun j1 => s_hg (s_si g 25 j1 x1)) hk2 rfl rfl ?_
    refine s_Fin.sg 2 (y := (5, [some (.ref 25), some (.int x1), some (.int (x2 + (1 : Int32))), some (.int x3)], [], s_hg (s_si g 25 k2 x1))) rfl ?_
    have hB := Option.some.inj hB
    subst hB
    exact s_Fin.more (L := [some (.ref 25), some (.int x1), some (.int (x2 + (1 : Int32))), some (.int x3)]) ⟨Or.inr rfl, Or.inr rfl, Or.inr rfl, Or.inr rfl, trivial⟩ hr
  · rw [if_neg hc] at hB
    refine s_Fin.bt (c := x3 ≤ x2) (tg := 20) (p2 := 7) (L1 := [some (.ref 25), some (.int x1), some (.int x2), some (.int x3)]) (st1 := []) (Int32.not_lt.mp hc) rfl ?_
    obtain ⟨_, hN, hz⟩ := s_in_of hB
    subst hz
    have hB := hN
    have hB := Option.some.inj hB
    subst hB
    obtain ⟨rfl, rfl⟩ := hr
    exact s_Fin.rt rfl rfl
noncomputable def fJ_fill_25 (x1 : Int32) (g : s_G) : Option (s_G) :=
  s_lp (fun x => fJ_fill_25_5 x1 x.1 (4 : Int32) x.2) ((0 : Int32), g)
theorem fJ_fill_25_s {x1 : Int32} {g : s_G} {z : s_G} (hB : fJ_fill_25 x1 g = some z) : s_Ev 0 s_m4 [.ref 25, .int x1] (s_hg g) (none) (s_hg z) := by
  unfold fJ_fill_25 at hB
  refine s_Ev.fin ((?_ : ∀ (v : Option Value) (h' : s_H), (fun (z : s_G) (v : Option Value) (h' : s_H) => v = none ∧ h' = s_hg z) z v h' → s_Fin 0 s_m4 (0, s_ent [.ref 25, .int x1] (s_m4).2.2.1, [], s_hg g) v h') _ _ ⟨rfl, rfl⟩)
  intro v h' hr
  refine (show s_Fin 0 s_m4 (0, [some (.ref 25), some (.int x1), none, none], [], s_hg g) v h' from ?_)
  refine s_Fin.sg 5 (y := (5, [some (.ref 25), some (.int x1), some (.int (0 : Int32)), some (.int (4 : Int32))], [], s_hg g)) rfl ?_
  exact s_Fin.more (L := [some (.ref 25), some (.int x1), some (.int (0 : Int32)), some (.int (4 : Int32))]) ⟨Or.inr rfl, Or.inr rfl, Or.inr rfl, Or.inr rfl, trivial⟩ (s_lp_s (P := (fun (x : Int32 × s_G) (v : Option Value) (h' : s_H) => s_Fin 0 s_m4 (5, [some (.ref 25), some (.int x1), some (.int x.1), some (.int (4 : Int32))], [], s_hg x.2) v h')) (Q := (fun (z : s_G) (v : Option Value) (h' : s_H) => v = none ∧ h' = s_hg z)) (fun x z hB v h' hr => fJ_fill_25_5_s hB hr) hB _ _ hr)
-- CampAshes$State.rakeAshes
noncomputable def fT_rakeAshes_22_4 (x1 : Int32) (x2 : Int32) (g : s_G) : Option ((Int32 × Int32) ⊕ (Int32 × s_G)) :=
  if x2 < (4 : Int32) then (s_b1 (s_ix 4 x2) fun k2 => some (.inl (x1 + (g.1 25 k2), x2 + (1 : Int32))))
  else s_in (if x1 = 0 then (some ((1 : Int32), g))
  else s_b1 (fJ_fill_25 (0 : Int32) g) fun g3 => some ((0 : Int32), g3))
theorem fT_rakeAshes_22_4_s {x1 : Int32} {x2 : Int32} {g : s_G} {z : (Int32 × Int32) ⊕ (Int32 × s_G)} (hB : fT_rakeAshes_22_4 x1 x2 g = some z) {v : Option Value} {h' : s_H} (hr : (s_sm (fun (x : Int32 × Int32) (v : Option Value) (h' : s_H) => s_Fin 1 s_m77 (4, [some (.ref 22), some (.int x.1), some (.int x.2)], [], s_hg g) v h') (fun (z : Int32 × s_G) (v : Option Value) (h' : s_H) => v = some (.int z.1) ∧ h' = s_hg z.2)) z v h') : s_Fin 1 s_m77 (4, [some (.ref 22), some (.int x1), some (.int x2)], [], s_hg g) v h' := by
  unfold fT_rakeAshes_22_4 at hB
  refine s_Fin.sg 2 (y := (6, [some (.ref 22), some (.int x1), some (.int x2)], [.int (4 : Int32), .int x2], s_hg g)) rfl ?_
  by_cases hc : x2 < (4 : Int32)
  · rw [if_pos hc] at hB
    refine s_Fin.bf (c := (4 : Int32) ≤ x2) (tg := 24) (p2 := 6) (L1 := [some (.ref 22), some (.int x1), some (.int x2)]) (st1 := []) (Int32.not_le.mpr hc) rfl ?_
    refine s_Fin.sg 4 (y := (15, [some (.ref 22), some (.int x1), some (.int x2)], [.int x2, .ref 25, .int x1], s_hg g)) rfl ?_
    obtain ⟨k2, hk2, hB⟩ := s_bd hB
    refine s_Fin.ix (n := 4) (i := x2) (pc1 := 16) (L1 := [some (.ref 22), some (.int x1), some (.int x2)]) (fun j1 => [.int (g.1 25 j1), .int x1]) (fun j1 => s_hg g) hk2 rfl rfl ?_
    refine s_Fin.sg 4 (y := (4, [some (.ref 22), some (.int (x1 + (g.1 25 k2))), some (.int (x2 + (1 : Int32)))], [], s_hg g)) rfl ?_
    have hB := Option.some.inj hB
    subst hB
    exact s_Fin.more (L := [some (.ref 22), some (.int (x1 + (g.1 25 k2))), some (.int (x2 + (1 : Int32)))]) ⟨Or.inr rfl, Or.inr rfl, Or.inr rfl, trivial⟩ hr
  · rw [if_neg hc] at hB
    refine s_Fin.bt (c := (4 : Int32) ≤ x2) (tg := 24) (p2 := 6) (L1 := [some (.ref 22), some (.int x1), some (.int x2)]) (st1 := []) (Int32.not_lt.mp hc) rfl ?_
    obtain ⟨_, hN, hz⟩ := s_in_of hB
    subst hz
    have hB := hN
    refine s_Fin.sg 1 (y := (25, [some (.ref 22), some (.int x1), some (.int x2)], [.int x1], s_hg g)) rfl ?_
    by_cases hc : x1 = 0
    · rw [if_pos hc] at hB
      refine s_Fin.bf (c := ¬ x1 = 0) (tg := 30) (p2 := 25) (L1 := [some (.ref 22), some (.int x1), some (.int x2)]) (st1 := []) (fun h => h hc) rfl ?_
      refine s_Fin.sg 1 (y := (29, [some (.ref 22), some (.int x1), some (.int x2)], [.int (1 : Int32)], s_hg g)) rfl ?_
      have hB := Option.some.inj hB
      subst hB
      obtain ⟨rfl, rfl⟩ := hr
      exact s_Fin.rt rfl rfl
    · rw [if_neg hc] at hB
      refine s_Fin.bt (c := ¬ x1 = 0) (tg := 30) (p2 := 25) (L1 := [some (.ref 22), some (.int x1), some (.int x2)]) (st1 := []) hc rfl ?_
      refine s_Fin.sg 3 (y := (35, [some (.ref 22), some (.int x1), some (.int x2)], [.int (0 : Int32), .ref 25], s_hg g)) rfl ?_
      obtain ⟨g3, hp, hB⟩ := s_bd hB
      refine s_Fin.cl (d := 0) (q1 := s_m4) (md := 4) (vs := [.ref 25, .int (0 : Int32)]) (rest := []) (h1 := s_hg g3) (u := none) (s_Ev.up (by omega) (fJ_fill_25_s hp)) rfl rfl rfl rfl ?_
      refine s_Fin.sg 1 (y := (39, [some (.ref 22), some (.int x1), some (.int x2)], [.int (0 : Int32)], s_hg g3)) rfl ?_
      have hB := Option.some.inj hB
      subst hB
      obtain ⟨rfl, rfl⟩ := hr
      exact s_Fin.rt rfl rfl
noncomputable def fT_rakeAshes_22 (g : s_G) : Option (Int32 × s_G) :=
  s_lp (fun x => fT_rakeAshes_22_4 x.1 x.2 g) ((0 : Int32), (0 : Int32))
theorem fT_rakeAshes_22_s {g : s_G} {z : Int32 × s_G} (hB : fT_rakeAshes_22 g = some z) : s_Ev 1 s_m77 [.ref 22] (s_hg g) (some (.int z.1)) (s_hg z.2) := by
  unfold fT_rakeAshes_22 at hB
  refine s_Ev.fin ((?_ : ∀ (v : Option Value) (h' : s_H), (fun (z : Int32 × s_G) (v : Option Value) (h' : s_H) => v = some (.int z.1) ∧ h' = s_hg z.2) z v h' → s_Fin 1 s_m77 (0, s_ent [.ref 22] (s_m77).2.2.1, [], s_hg g) v h') _ _ ⟨rfl, rfl⟩)
  intro v h' hr
  refine (show s_Fin 1 s_m77 (0, [some (.ref 22), none, none], [], s_hg g) v h' from ?_)
  refine s_Fin.sg 4 (y := (4, [some (.ref 22), some (.int (0 : Int32)), some (.int (0 : Int32))], [], s_hg g)) rfl ?_
  exact s_Fin.more (L := [some (.ref 22), some (.int (0 : Int32)), some (.int (0 : Int32))]) ⟨Or.inr rfl, Or.inr rfl, Or.inr rfl, trivial⟩ (s_lp_s (P := (fun (x : Int32 × Int32) (v : Option Value) (h' : s_H) => s_Fin 1 s_m77 (4, [some (.ref 22), some (.int x.1), some (.int x.2)], [], s_hg g) v h')) (Q := (fun (z : Int32 × s_G) (v : Option Value) (h' : s_H) => v = some (.int z.1) ∧ h' = s_hg z.2)) (fun x z hB v h' hr => fT_rakeAshes_22_4_s hB hr) hB _ _ hr)
-- CampAshes.rake
noncomputable def fC_rake_0 (g : s_G) : Option (Int32 × s_G) :=
  s_b1 (fT_copyFrom_22_17 g) fun g1 => s_b2 (fT_rakeAshes_22 g1) fun v3 g2 => s_b2 (fC_keepIfDone_0 v3 g2) fun v5 g4 => some (v5, g4)
theorem fC_rake_0_s {g : s_G} {z : Int32 × s_G} (hB : fC_rake_0 g = some z) : s_Ev 4 s_m76 [.ref 0] (s_hg g) (some (.int z.1)) (s_hg z.2) := by
  unfold fC_rake_0 at hB
  refine s_Ev.fin ((?_ : ∀ (v : Option Value) (h' : s_H), (fun (z : Int32 × s_G) (v : Option Value) (h' : s_H) => v = some (.int z.1) ∧ h' = s_hg z.2) z v h' → s_Fin 4 s_m76 (0, s_ent [.ref 0] (s_m76).2.2.1, [], s_hg g) v h') _ _ ⟨rfl, rfl⟩)
  intro v h' hr
  refine (show s_Fin 4 s_m76 (0, [some (.ref 0)], [], s_hg g) v h' from ?_)
  refine s_Fin.sg 4 (y := (8, [some (.ref 0)], [.ref 17, .ref 22], s_hg g)) rfl ?_
  obtain ⟨g1, hp, hB⟩ := s_bd hB
  refine s_Fin.cl (d := 3) (q1 := s_m62) (md := 62) (vs := [.ref 22, .ref 17]) (rest := []) (h1 := s_hg g1) (u := none) (s_Ev.up (by omega) (fT_copyFrom_22_17_s hp)) rfl rfl rfl rfl ?_
  refine s_Fin.sg 3 (y := (16, [some (.ref 0)], [.ref 22, .ref 0], s_hg g1)) rfl ?_
  obtain ⟨v3, g2, hp, hB⟩ := s_bd2 hB
  refine s_Fin.cl (d := 3) (q1 := s_m77) (md := 77) (vs := [.ref 22]) (rest := [.ref 0]) (h1 := s_hg g2) (u := some (.int v3)) (s_Ev.up (by omega) (fT_rakeAshes_22_s hp)) rfl rfl rfl rfl ?_
  obtain ⟨v5, g4, hp, hB⟩ := s_bd2 hB
  refine s_Fin.cl (d := 3) (q1 := s_m67) (md := 67) (vs := [.ref 0, .int v3]) (rest := []) (h1 := s_hg g4) (u := some (.int v5)) (s_Ev.up (by omega) (fC_keepIfDone_0_s hp)) rfl rfl rfl rfl ?_
  have hB := Option.some.inj hB
  subst hB
  obtain ⟨rfl, rfl⟩ := hr
  exact s_Fin.rt rfl rfl
-- CampAshesModel.oneDay
noncomputable def fM_oneDay_130_2 (x1 : Int32) (g : s_G) : Option ((Int32 × s_G) ⊕ (s_G)) :=
  if x1 < (g.1 132 0) then (s_b1 (fM_isOver_130 x1 g) fun v1 => if v1 = 0 then (some (.inl (x1 + (1 : Int32), g)))
  else s_b1 (s_ix 375 ((56 : Int32) + x1)) fun k3 => some (.inl (x1 + (1 : Int32), (s_si g 132 k3 ((g.1 132 k3) + (1 : Int32))))))
  else s_in (s_b1 (fM_least_s (30 : Int32) (((g.1 132 48) / (2 : Int32)) + (g.1 132 4)) g) fun v5 => some (s_si (s_si (s_si g 132 48 v5) 132 50 (0 : Int32)) 132 47 ((g.1 132 47) + (1 : Int32))))
theorem fM_oneDay_130_2_s {x1 : Int32} {g : s_G} {z : (Int32 × s_G) ⊕ (s_G)} (hB : fM_oneDay_130_2 x1 g = some z) {v : Option Value} {h' : s_H} (hr : (s_sm (fun (x : Int32 × s_G) (v : Option Value) (h' : s_H) => s_Fin 3 s_m226 (2, [some (.ref 130), some (.int x.1)], [], s_hg x.2) v h') (fun (z : s_G) (v : Option Value) (h' : s_H) => v = none ∧ h' = s_hg z)) z v h') : s_Fin 3 s_m226 (2, [some (.ref 130), some (.int x1)], [], s_hg g) v h' := by
  unfold fM_oneDay_130_2 at hB
  refine s_Fin.sg 5 (y := (9, [some (.ref 130), some (.int x1)], [.int (g.1 132 0), .int x1], s_hg g)) rfl ?_
  by_cases hc : x1 < (g.1 132 0)
  · rw [if_pos hc] at hB
    refine s_Fin.bf (c := (g.1 132 0) ≤ x1) (tg := 39) (p2 := 9) (L1 := [some (.ref 130), some (.int x1)]) (st1 := []) (Int32.not_le.mpr hc) rfl ?_
    refine s_Fin.sg 2 (y := (14, [some (.ref 130), some (.int x1)], [.int x1, .ref 130], s_hg g)) rfl ?_
    obtain ⟨v1, hp, hB⟩ := s_bd hB
    refine s_Fin.cl (d := 2) (q1 := s_m196) (md := 196) (vs := [.ref 130, .int x1]) (rest := []) (h1 := s_hg g) (u := some (.int v1)) (s_Ev.up (by omega) (fM_isOver_130_s hp)) rfl rfl rfl rfl ?_
    by_cases hc : v1 = 0
    · rw [if_pos hc] at hB
      refine s_Fin.bt (c := v1 = 0) (tg := 33) (p2 := 17) (L1 := [some (.ref 130), some (.int x1)]) (st1 := []) hc rfl ?_
      refine s_Fin.sg 2 (y := (2, [some (.ref 130), some (.int (x1 + (1 : Int32)))], [], s_hg g)) rfl ?_
      have hB := Option.some.inj hB
      subst hB
      exact s_Fin.more (L := [some (.ref 130), some (.int (x1 + (1 : Int32)))]) ⟨Or.inr rfl, Or.inr rfl, trivial⟩ hr
    · rw [if_neg hc] at hB
      refine s_Fin.bf (c := v1 = 0) (tg := 33) (p2 := 17) (L1 := [some (.ref 130), some (.int x1)]) (st1 := []) hc rfl ?_
      refine s_Fin.sg 6 (y := (29, [some (.ref 130), some (.int x1)], [.int ((56 : Int32) + x1), .ref 132, .int ((56 : Int32) + x1), .ref 132], s_hg g)) rfl ?_
      obtain ⟨k3, hk3, hB⟩ := s_bd hB
      refine s_Fin.ix (n := 375) (i := (56 : Int32) + x1) (pc1 := 30) (L1 := [some (.ref 130), some (.int x1)]) (fun j2 => [.int (g.1 132 j2), .int ((56 : Int32) + x1), .ref 132]) (fun j2 => s_hg g) hk3 rfl rfl ?_
      refine s_Fin.sg 2 (y := (32, [some (.ref 130), some (.int x1)], [.int ((g.1 132 k3) + (1 : Int32)), .int ((56 : Int32) + x1), .ref 132], s_hg g)) rfl ?_
      refine s_Fin.ix (n := 375) (i := (56 : Int32) + x1) (pc1 := 33) (L1 := [some (.ref 130), some (.int x1)]) (fun j4 => []) (fun j4 => s_hg (s_si g 132 j4 ((g.1 132 k3) + (1 : Int32)))) hk3 rfl rfl ?_
      refine s_Fin.sg 2 (y := (2, [some (.ref 130), some (.int (x1 + (1 : Int32)))], [], s_hg (s_si g 132 k3 ((g.1 132 k3) + (1 : Int32))))) rfl ?_
      have hB := Option.some.inj hB
      subst hB
      exact s_Fin.more (L := [some (.ref 130), some (.int (x1 + (1 : Int32)))]) ⟨Or.inr rfl, Or.inr rfl, trivial⟩ hr
  · rw [if_neg hc] at hB
    refine s_Fin.bt (c := (g.1 132 0) ≤ x1) (tg := 39) (p2 := 9) (L1 := [some (.ref 130), some (.int x1)]) (st1 := []) (Int32.not_lt.mp hc) rfl ?_
    obtain ⟨_, hN, hz⟩ := s_in_of hB
    subst hz
    have hB := hN
    refine s_Fin.sg 15 (y := (63, [some (.ref 130), some (.int x1)], [.int (((g.1 132 48) / (2 : Int32)) + (g.1 132 4)), .int (30 : Int32), .int (48 : Int32), .ref 132], s_hg g)) rfl ?_
    obtain ⟨v5, hp, hB⟩ := s_bd hB
    refine s_Fin.cl (d := 2) (q1 := s_m217) (md := 217) (vs := [.int (30 : Int32), .int (((g.1 132 48) / (2 : Int32)) + (g.1 132 4))]) (rest := [.int (48 : Int32), .ref 132]) (h1 := s_hg g) (u := some (.int v5)) (s_Ev.up (by omega) (fM_least_s_s hp)) rfl rfl rfl rfl ?_
    refine s_Fin.sg 14 (y := (86, [some (.ref 130), some (.int x1)], [], s_hg (s_si (s_si (s_si g 132 48 v5) 132 50 (0 : Int32)) 132 47 ((g.1 132 47) + (1 : Int32))))) rfl ?_
    have hB := Option.some.inj hB
    subst hB
    obtain ⟨rfl, rfl⟩ := hr
    exact s_Fin.rt rfl rfl
noncomputable def fM_oneDay_130 (g : s_G) : Option (s_G) :=
  s_lp (fun x => fM_oneDay_130_2 x.1 x.2) ((0 : Int32), g)
theorem fM_oneDay_130_s {g : s_G} {z : s_G} (hB : fM_oneDay_130 g = some z) : s_Ev 3 s_m226 [.ref 130] (s_hg g) (none) (s_hg z) := by
  unfold fM_oneDay_130 at hB
  refine s_Ev.fin ((?_ : ∀ (v : Option Value) (h' : s_H), (fun (z : s_G) (v : Option Value) (h' : s_H) => v = none ∧ h' = s_hg z) z v h' → s_Fin 3 s_m226 (0, s_ent [.ref 130] (s_m226).2.2.1, [], s_hg g) v h') _ _ ⟨rfl, rfl⟩)
  intro v h' hr
  refine (show s_Fin 3 s_m226 (0, [some (.ref 130), none], [], s_hg g) v h' from ?_)
  refine s_Fin.sg 2 (y := (2, [some (.ref 130), some (.int (0 : Int32))], [], s_hg g)) rfl ?_
  exact s_Fin.more (L := [some (.ref 130), some (.int (0 : Int32))]) ⟨Or.inr rfl, Or.inr rfl, trivial⟩ (s_lp_s (P := (fun (x : Int32 × s_G) (v : Option Value) (h' : s_H) => s_Fin 3 s_m226 (2, [some (.ref 130), some (.int x.1)], [], s_hg x.2) v h')) (Q := (fun (z : s_G) (v : Option Value) (h' : s_H) => v = none ∧ h' = s_hg z)) (fun x z hB v h' hr => fM_oneDay_130_2_s hB hr) hB _ _ hr)
-- CampAshesModel.passDays
noncomputable def fM_passDays_130_18 (x2 : Int32) (x3 : Int32) (g : s_G) : Option ((Int32 × s_G) ⊕ (Int32 × s_G)) :=
  if x3 < x2 then (s_b1 (fM_oneDay_130 g) fun g2 => some (.inl (x3 + (1 : Int32), g2)))
  else s_in (some (x2, g))
theorem fM_passDays_130_18_s {x2 : Int32} {x3 : Int32} {g : s_G} {z : (Int32 × s_G) ⊕ (Int32 × s_G)} (hB : fM_passDays_130_18 x2 x3 g = some z) {v : Option Value} {h' : s_H} (hr : (s_sm (fun (x : Int32 × s_G) (v : Option Value) (h' : s_H) => s_Fin 4 s_m225 (18, [some (.ref 130), none, some (.int x2), some (.int x.1)], [], s_hg x.2) v h') (fun (z : Int32 × s_G) (v : Option Value) (h' : s_H) => v = some (.int z.1) ∧ h' = s_hg z.2)) z v h') : s_Fin 4 s_m225 (18, [some (.ref 130), none, some (.int x2), some (.int x3)], [], s_hg g) v h' := by
  unfold fM_passDays_130_18 at hB
  refine s_Fin.sg 2 (y := (20, [some (.ref 130), none, some (.int x2), some (.int x3)], [.int x2, .int x3], s_hg g)) rfl ?_
  by_cases hc : x3 < x2
  · rw [if_pos hc] at hB
    refine s_Fin.bf (c := x2 ≤ x3) (tg := 33) (p2 := 20) (L1 := [some (.ref 130), none, some (.int x2), some (.int x3)]) (st1 := []) (Int32.not_le.mpr hc) rfl ?_
    refine s_Fin.sg 1 (y := (24, [some (.ref 130), none, some (.int x2), some (.int x3)], [.ref 130], s_hg g)) rfl ?_
    obtain ⟨g2, hp, hB⟩ := s_bd hB
    refine s_Fin.cl (d := 3) (q1 := s_m226) (md := 226) (vs := [.ref 130]) (rest := []) (h1 := s_hg g2) (u := none) (s_Ev.up (by omega) (fM_oneDay_130_s hp)) rfl rfl rfl rfl ?_
    refine s_Fin.sg 2 (y := (18, [some (.ref 130), none, some (.int x2), some (.int (x3 + (1 : Int32)))], [], s_hg g2)) rfl ?_
    have hB := Option.some.inj hB
    subst hB
    exact s_Fin.more (L := [some (.ref 130), none, some (.int x2), some (.int (x3 + (1 : Int32)))]) ⟨Or.inr rfl, Or.inl rfl, Or.inr rfl, Or.inr rfl, trivial⟩ hr
  · rw [if_neg hc] at hB
    refine s_Fin.bt (c := x2 ≤ x3) (tg := 33) (p2 := 20) (L1 := [some (.ref 130), none, some (.int x2), some (.int x3)]) (st1 := []) (Int32.not_lt.mp hc) rfl ?_
    obtain ⟨_, hN, hz⟩ := s_in_of hB
    subst hz
    have hB := hN
    refine s_Fin.sg 1 (y := (34, [some (.ref 130), none, some (.int x2), some (.int x3)], [.int x2], s_hg g)) rfl ?_
    have hB := Option.some.inj hB
    subst hB
    obtain ⟨rfl, rfl⟩ := hr
    exact s_Fin.rt rfl rfl
noncomputable def fM_passDays_130 (x1 : Int32) (g : s_G) : Option (Int32 × s_G) :=
  s_b1 (fM_least_s x1 ((400 : Int32) - (g.1 132 47)) g) fun v1 => s_lp (fun x => fM_passDays_130_18 v1 x.1 x.2) ((0 : Int32), g)
theorem fM_passDays_130_s {x1 : Int32} {g : s_G} {z : Int32 × s_G} (hB : fM_passDays_130 x1 g = some z) : s_Ev 4 s_m225 [.ref 130, .int x1] (s_hg g) (some (.int z.1)) (s_hg z.2) := by
  unfold fM_passDays_130 at hB
  refine s_Ev.fin ((?_ : ∀ (v : Option Value) (h' : s_H), (fun (z : Int32 × s_G) (v : Option Value) (h' : s_H) => v = some (.int z.1) ∧ h' = s_hg z.2) z v h' → s_Fin 4 s_m225 (0, s_ent [.ref 130, .int x1] (s_m225).2.2.1, [], s_hg g) v h') _ _ ⟨rfl, rfl⟩)
  intro v h' hr
  refine (show s_Fin 4 s_m225 (0, [some (.ref 130), some (.int x1), none, none], [], s_hg g) v h' from ?_)
  refine s_Fin.sg 7 (y := (12, [some (.ref 130), some (.int x1), none, none], [.int ((400 : Int32) - (g.1 132 47)), .int x1], s_hg g)) rfl ?_
  obtain ⟨v1, hp, hB⟩ := s_bd hB
  refine s_Fin.cl (d := 3) (q1 := s_m217) (md := 217) (vs := [.int x1, .int ((400 : Int32) - (g.1 132 47))]) (rest := []) (h1 := s_hg g) (u := some (.int v1)) (s_Ev.up (by omega) (fM_least_s_s hp)) rfl rfl rfl rfl ?_
  refine s_Fin.sg 3 (y := (18, [some (.ref 130), some (.int x1), some (.int v1), some (.int (0 : Int32))], [], s_hg g)) rfl ?_
  exact s_Fin.more (L := [some (.ref 130), none, some (.int v1), some (.int (0 : Int32))]) ⟨Or.inr rfl, Or.inl rfl, Or.inr rfl, Or.inr rfl, trivial⟩ (s_lp_s (P := (fun (x : Int32 × s_G) (v : Option Value) (h' : s_H) => s_Fin 4 s_m225 (18, [some (.ref 130), none, some (.int v1), some (.int x.1)], [], s_hg x.2) v h')) (Q := (fun (z : Int32 × s_G) (v : Option Value) (h' : s_H) => v = some (.int z.1) ∧ h' = s_hg z.2)) (fun x z hB v h' hr => fM_passDays_130_18_s hB hr) hB _ _ hr)
-- CampAshesModel.days
noncomputable def fM_days_130 (x1 : Int32) (g : s_G) : Option (Int32 × s_G) :=
  s_b1 (fM_isIn_s x1 (1 : Int32) (60 : Int32) (s_si g 130 0 (0 : Int32))) fun v1 => if v1 = 0 then (some ((-1 : Int32), (s_si g 130 0 (0 : Int32))))
  else if (g.1 132 47) = (400 : Int32) then (some ((0 : Int32), (s_si g 130 0 (0 : Int32))))
  else s_b1 (fM_snap_130 (s_si g 130 0 (0 : Int32))) fun g2 => s_b2 (fM_passDays_130 x1 g2) fun v4 g3 => some (v4, g3)
theorem fM_days_130_s {x1 : Int32} {g : s_G} {z : Int32 × s_G} (hB : fM_days_130 x1 g = some z) : s_Ev 5 s_m224 [.ref 130, .int x1] (s_hg g) (some (.int z.1)) (s_hg z.2) := by
  unfold fM_days_130 at hB
  refine s_Ev.fin ((?_ : ∀ (v : Option Value) (h' : s_H), (fun (z : Int32 × s_G) (v : Option Value) (h' : s_H) => v = some (.int z.1) ∧ h' = s_hg z.2) z v h' → s_Fin 5 s_m224 (0, s_ent [.ref 130, .int x1] (s_m224).2.2.1, [], s_hg g) v h') _ _ ⟨rfl, rfl⟩)
  intro v h' hr
  refine (show s_Fin 5 s_m224 (0, [some (.ref 130), some (.int x1)], [], s_hg g) v h' from ?_)
  refine s_Fin.sg 6 (y := (9, [some (.ref 130), some (.int x1)], [.int (60 : Int32), .int (1 : Int32), .int x1], s_hg (s_si g 130 0 (0 : Int32)))) rfl ?_
  obtain ⟨v1, hp, hB⟩ := s_bd hB
  refine s_Fin.cl (d := 4) (q1 := s_m181) (md := 181) (vs := [.int x1, .int (1 : Int32), .int (60 : Int32)]) (rest := []) (h1 := s_hg (s_si g 130 0 (0 : Int32))) (u := some (.int v1)) (s_Ev.up (by omega) (fM_isIn_s_s hp)) rfl rfl rfl rfl ?_
  by_cases hc : v1 = 0
  · rw [if_pos hc] at hB
    refine s_Fin.bf (c := ¬ v1 = 0) (tg := 17) (p2 := 12) (L1 := [some (.ref 130), some (.int x1)]) (st1 := []) (fun h => h hc) rfl ?_
    refine s_Fin.sg 1 (y := (16, [some (.ref 130), some (.int x1)], [.int (-1 : Int32)], s_hg (s_si g 130 0 (0 : Int32)))) rfl ?_
    have hB := Option.some.inj hB
    subst hB
    obtain ⟨rfl, rfl⟩ := hr
    exact s_Fin.rt rfl rfl
  · rw [if_neg hc] at hB
    refine s_Fin.bt (c := ¬ v1 = 0) (tg := 17) (p2 := 12) (L1 := [some (.ref 130), some (.int x1)]) (st1 := []) hc rfl ?_
    refine s_Fin.sg 5 (y := (27, [some (.ref 130), some (.int x1)], [.int (400 : Int32), .int (g.1 132 47)], s_hg (s_si g 130 0 (0 : Int32)))) rfl ?_
    by_cases hc : (g.1 132 47) = (400 : Int32)
    · rw [if_pos hc] at hB
      refine s_Fin.bf (c := ¬ (g.1 132 47) = (400 : Int32)) (tg := 32) (p2 := 27) (L1 := [some (.ref 130), some (.int x1)]) (st1 := []) (fun h => h hc) rfl ?_
      refine s_Fin.sg 1 (y := (31, [some (.ref 130), some (.int x1)], [.int (0 : Int32)], s_hg (s_si g 130 0 (0 : Int32)))) rfl ?_
      have hB := Option.some.inj hB
      subst hB
      obtain ⟨rfl, rfl⟩ := hr
      exact s_Fin.rt rfl rfl
    · rw [if_neg hc] at hB
      refine s_Fin.bt (c := ¬ (g.1 132 47) = (400 : Int32)) (tg := 32) (p2 := 27) (L1 := [some (.ref 130), some (.int x1)]) (st1 := []) hc rfl ?_
      refine s_Fin.sg 1 (y := (33, [some (.ref 130), some (.int x1)], [.ref 130], s_hg (s_si g 130 0 (0 : Int32)))) rfl ?_
      obtain ⟨g2, hp, hB⟩ := s_bd hB
      refine s_Fin.cl (d := 4) (q1 := s_m214) (md := 214) (vs := [.ref 130]) (rest := []) (h1 := s_hg g2) (u := none) (s_Ev.up (by omega) (fM_snap_130_s hp)) rfl rfl rfl rfl ?_
      refine s_Fin.sg 2 (y := (38, [some (.ref 130), some (.int x1)], [.int x1, .ref 130], s_hg g2)) rfl ?_
      obtain ⟨v4, g3, hp, hB⟩ := s_bd2 hB
      refine s_Fin.cl (d := 4) (q1 := s_m225) (md := 225) (vs := [.ref 130, .int x1]) (rest := []) (h1 := s_hg g3) (u := some (.int v4)) (s_Ev.up (by omega) (fM_passDays_130_s hp)) rfl rfl rfl rfl ?_
      have hB := Option.some.inj hB
      subst hB
      obtain ⟨rfl, rfl⟩ := hr
      exact s_Fin.rt rfl rfl
-- CampAshes$State.daysLeft
noncomputable def fT_daysLeft_22 (g : s_G) : Option (Int32) :=
  some ((400 : Int32) - (g.1 22 8))
theorem fT_daysLeft_22_s {g : s_G} {z : Int32} (hB : fT_daysLeft_22 g = some z) : s_Ev 0 s_m80 [.ref 22] (s_hg g) (some (.int z)) (s_hg g) := by
  unfold fT_daysLeft_22 at hB
  refine s_Ev.fin ((?_ : ∀ (v : Option Value) (h' : s_H), (fun (z : Int32) (v : Option Value) (h' : s_H) => v = some (.int z) ∧ h' = s_hg g) z v h' → s_Fin 0 s_m80 (0, s_ent [.ref 22] (s_m80).2.2.1, [], s_hg g) v h') _ _ ⟨rfl, rfl⟩)
  intro v h' hr
  refine (show s_Fin 0 s_m80 (0, [some (.ref 22)], [], s_hg g) v h' from ?_)
  refine s_Fin.sg 4 (y := (8, [some (.ref 22)], [.int ((400 : Int32) - (g.1 22 8))], s_hg g)) rfl ?_
  have hB := Option.some.inj hB
  subst hB
  obtain ⟨rfl, rfl⟩ := hr
  exact s_Fin.rt rfl rfl
-- CampAshes$State.isOver
noncomputable def fT_isOver_22 (x1 : Int32) (g : s_G) : Option (Int32) :=
  s_b1 (s_ix 7 x1) fun k2 => if (g.1 5 k2) < (g.1 24 k2) then (some (1 : Int32))
  else some (0 : Int32)
theorem fT_isOver_22_s {x1 : Int32} {g : s_G} {z : Int32} (hB : fT_isOver_22 x1 g = some z) : s_Ev 0 s_m59 [.ref 22, .int x1] (s_hg g) (some (.int z)) (s_hg g) := by
  unfold fT_isOver_22 at hB
  refine s_Ev.fin ((?_ : ∀ (v : Option Value) (h' : s_H), (fun (z : Int32) (v : Option Value) (h' : s_H) => v = some (.int z) ∧ h' = s_hg g) z v h' → s_Fin 0 s_m59 (0, s_ent [.ref 22, .int x1] (s_m59).2.2.1, [], s_hg g) v h') _ _ ⟨rfl, rfl⟩)
  intro v h' hr
  refine (show s_Fin 0 s_m59 (0, [some (.ref 22), some (.int x1)], [], s_hg g) v h' from ?_)
  refine s_Fin.sg 3 (y := (5, [some (.ref 22), some (.int x1)], [.int x1, .ref 24], s_hg g)) rfl ?_
  obtain ⟨k2, hk2, hB⟩ := s_bd hB
  refine s_Fin.ix (n := 7) (i := x1) (pc1 := 6) (L1 := [some (.ref 22), some (.int x1)]) (fun j1 => [.int (g.1 24 j1)]) (fun j1 => s_hg g) hk2 rfl rfl ?_
  refine s_Fin.sg 4 (y := (14, [some (.ref 22), some (.int x1)], [.int x1, .ref 5, .int (g.1 24 k2)], s_hg g)) rfl ?_
  refine s_Fin.ix (n := 7) (i := x1) (pc1 := 15) (L1 := [some (.ref 22), some (.int x1)]) (fun j3 => [.int (g.1 5 j3), .int (g.1 24 k2)]) (fun j3 => s_hg g) hk2 rfl rfl ?_
  by_cases hc : (g.1 5 k2) < (g.1 24 k2)
  · rw [if_pos hc] at hB
    refine s_Fin.bf (c := (g.1 24 k2) ≤ (g.1 5 k2)) (tg := 22) (p2 := 15) (L1 := [some (.ref 22), some (.int x1)]) (st1 := []) (Int32.not_le.mpr hc) rfl ?_
    refine s_Fin.sg 2 (y := (23, [some (.ref 22), some (.int x1)], [.int (1 : Int32)], s_hg g)) rfl ?_
    have hB := Option.some.inj hB
    subst hB
    obtain ⟨rfl, rfl⟩ := hr
    exact s_Fin.rt rfl rfl
  · rw [if_neg hc] at hB
    refine s_Fin.bt (c := (g.1 24 k2) ≤ (g.1 5 k2)) (tg := 22) (p2 := 15) (L1 := [some (.ref 22), some (.int x1)]) (st1 := []) (Int32.not_lt.mp hc) rfl ?_
    refine s_Fin.sg 1 (y := (23, [some (.ref 22), some (.int x1)], [.int (0 : Int32)], s_hg g)) rfl ?_
    have hB := Option.some.inj hB
    subst hB
    obtain ⟨rfl, rfl⟩ := hr
    exact s_Fin.rt rfl rfl
-- CampAshes$State.passDay
noncomputable def fT_passDay_22_2 (x1 : Int32) (g : s_G) : Option ((Int32 × s_G) ⊕ (s_G)) :=
  if x1 < (g.1 3 0) then (s_b1 (fT_isOver_22 x1 g) fun v1 => if v1 = 0 then (some (.inl (x1 + (1 : Int32), g)))
  else s_b1 (s_ix 7 x1) fun k3 => some (.inl (x1 + (1 : Int32), (s_si g 26 k3 ((g.1 26 k3) + (1 : Int32))))))
  else s_in (some (s_si (s_si (s_si g 22 6 (if (30 : Int32) < (((g.1 22 6) / (2 : Int32)) + (g.1 3 10)) then (30 : Int32) else (((g.1 22 6) / (2 : Int32)) + (g.1 3 10)))) 22 8 ((g.1 22 8) + (1 : Int32))) 22 5 (0 : Int32)))
theorem fT_passDay_22_2_s {x1 : Int32} {g : s_G} {z : (Int32 × s_G) ⊕ (s_G)} (hB : fT_passDay_22_2 x1 g = some z) {v : Option Value} {h' : s_H} (hr : (s_sm (fun (x : Int32 × s_G) (v : Option Value) (h' : s_H) => s_Fin 1 s_m81 (2, [some (.ref 22), some (.int x.1)], [], s_hg x.2) v h') (fun (z : s_G) (v : Option Value) (h' : s_H) => v = none ∧ h' = s_hg z)) z v h') : s_Fin 1 s_m81 (2, [some (.ref 22), some (.int x1)], [], s_hg g) v h' := by
  unfold fT_passDay_22_2 at hB
  refine s_Fin.sg 4 (y := (10, [some (.ref 22), some (.int x1)], [.int (g.1 3 0), .int x1], s_hg g)) rfl ?_
  by_cases hc : x1 < (g.1 3 0)
  · rw [if_pos hc] at hB
    refine s_Fin.bf (c := (g.1 3 0) ≤ x1) (tg := 37) (p2 := 10) (L1 := [some (.ref 22), some (.int x1)]) (st1 := []) (Int32.not_le.mpr hc) rfl ?_
    refine s_Fin.sg 2 (y := (15, [some (.ref 22), some (.int x1)], [.int x1, .ref 22], s_hg g)) rfl ?_
    obtain ⟨v1, hp, hB⟩ := s_bd hB
    refine s_Fin.cl (d := 0) (q1 := s_m59) (md := 59) (vs := [.ref 22, .int x1]) (rest := []) (h1 := s_hg g) (u := some (.int v1)) (s_Ev.up (by omega) (fT_isOver_22_s hp)) rfl rfl rfl rfl ?_
    by_cases hc : v1 = 0
    · rw [if_pos hc] at hB
      refine s_Fin.bt (c := v1 = 0) (tg := 31) (p2 := 18) (L1 := [some (.ref 22), some (.int x1)]) (st1 := []) hc rfl ?_
      refine s_Fin.sg 2 (y := (2, [some (.ref 22), some (.int (x1 + (1 : Int32)))], [], s_hg g)) rfl ?_
      have hB := Option.some.inj hB
      subst hB
      exact s_Fin.more (L := [some (.ref 22), some (.int (x1 + (1 : Int32)))]) ⟨Or.inr rfl, Or.inr rfl, trivial⟩ hr
    · rw [if_neg hc] at hB
      refine s_Fin.bf (c := v1 = 0) (tg := 31) (p2 := 18) (L1 := [some (.ref 22), some (.int x1)]) (st1 := []) hc rfl ?_
      refine s_Fin.sg 4 (y := (27, [some (.ref 22), some (.int x1)], [.int x1, .ref 26, .int x1, .ref 26], s_hg g)) rfl ?_
      obtain ⟨k3, hk3, hB⟩ := s_bd hB
      refine s_Fin.ix (n := 7) (i := x1) (pc1 := 28) (L1 := [some (.ref 22), some (.int x1)]) (fun j2 => [.int (g.1 26 j2), .int x1, .ref 26]) (fun j2 => s_hg g) hk3 rfl rfl ?_
      refine s_Fin.sg 2 (y := (30, [some (.ref 22), some (.int x1)], [.int ((g.1 26 k3) + (1 : Int32)), .int x1, .ref 26], s_hg g)) rfl ?_
      refine s_Fin.ix (n := 7) (i := x1) (pc1 := 31) (L1 := [some (.ref 22), some (.int x1)]) (fun j4 => []) (fun j4 => s_hg (s_si g 26 j4 ((g.1 26 k3) + (1 : Int32)))) hk3 rfl rfl ?_
      refine s_Fin.sg 2 (y := (2, [some (.ref 22), some (.int (x1 + (1 : Int32)))], [], s_hg (s_si g 26 k3 ((g.1 26 k3) + (1 : Int32))))) rfl ?_
      have hB := Option.some.inj hB
      subst hB
      exact s_Fin.more (L := [some (.ref 22), some (.int (x1 + (1 : Int32)))]) ⟨Or.inr rfl, Or.inr rfl, trivial⟩ hr
  · rw [if_neg hc] at hB
    refine s_Fin.bt (c := (g.1 3 0) ≤ x1) (tg := 37) (p2 := 10) (L1 := [some (.ref 22), some (.int x1)]) (st1 := []) (Int32.not_lt.mp hc) rfl ?_
    obtain ⟨_, hN, hz⟩ := s_in_of hB
    subst hz
    have hB := hN
    refine s_Fin.sg 21 (y := (75, [some (.ref 22), some (.int x1)], [], s_hg (s_si (s_si (s_si g 22 6 (if (30 : Int32) < (((g.1 22 6) / (2 : Int32)) + (g.1 3 10)) then (30 : Int32) else (((g.1 22 6) / (2 : Int32)) + (g.1 3 10)))) 22 8 ((g.1 22 8) + (1 : Int32))) 22 5 (0 : Int32)))) rfl ?_
    have hB := Option.some.inj hB
    subst hB
    obtain ⟨rfl, rfl⟩ := hr
    exact s_Fin.rt rfl rfl
noncomputable def fT_passDay_22 (g : s_G) : Option (s_G) :=
  s_lp (fun x => fT_passDay_22_2 x.1 x.2) ((0 : Int32), g)
theorem fT_passDay_22_s {g : s_G} {z : s_G} (hB : fT_passDay_22 g = some z) : s_Ev 1 s_m81 [.ref 22] (s_hg g) (none) (s_hg z) := by
  unfold fT_passDay_22 at hB
  refine s_Ev.fin ((?_ : ∀ (v : Option Value) (h' : s_H), (fun (z : s_G) (v : Option Value) (h' : s_H) => v = none ∧ h' = s_hg z) z v h' → s_Fin 1 s_m81 (0, s_ent [.ref 22] (s_m81).2.2.1, [], s_hg g) v h') _ _ ⟨rfl, rfl⟩)
  intro v h' hr
  refine (show s_Fin 1 s_m81 (0, [some (.ref 22), none], [], s_hg g) v h' from ?_)
  refine s_Fin.sg 2 (y := (2, [some (.ref 22), some (.int (0 : Int32))], [], s_hg g)) rfl ?_
  exact s_Fin.more (L := [some (.ref 22), some (.int (0 : Int32))]) ⟨Or.inr rfl, Or.inr rfl, trivial⟩ (s_lp_s (P := (fun (x : Int32 × s_G) (v : Option Value) (h' : s_H) => s_Fin 1 s_m81 (2, [some (.ref 22), some (.int x.1)], [], s_hg x.2) v h')) (Q := (fun (z : s_G) (v : Option Value) (h' : s_H) => v = none ∧ h' = s_hg z)) (fun x z hB v h' hr => fT_passDay_22_2_s hB hr) hB _ _ hr)
-- CampAshes$State.passDays
noncomputable def fT_passDays_22_11 (x2 : Int32) (x3 : Int32) (g : s_G) : Option ((Int32 × s_G) ⊕ (Int32 × s_G)) :=
  if x3 < x2 then (s_b1 (fT_passDay_22 g) fun g2 => some (.inl (x3 + (1 : Int32), g2)))
  else s_in (some (x2, g))
theorem fT_passDays_22_11_s {x2 : Int32} {x3 : Int32} {g : s_G} {z : (Int32 × s_G) ⊕ (Int32 × s_G)} (hB : fT_passDays_22_11 x2 x3 g = some z) {v : Option Value} {h' : s_H} (hr : (s_sm (fun (x : Int32 × s_G) (v : Option Value) (h' : s_H) => s_Fin 2 s_m79 (11, [some (.ref 22), none, some (.int x2), some (.int x.1)], [], s_hg x.2) v h') (fun (z : Int32 × s_G) (v : Option Value) (h' : s_H) => v = some (.int z.1) ∧ h' = s_hg z.2)) z v h') : s_Fin 2 s_m79 (11, [some (.ref 22), none, some (.int x2), some (.int x3)], [], s_hg g) v h' := by
  unfold fT_passDays_22_11 at hB
  refine s_Fin.sg 2 (y := (13, [some (.ref 22), none, some (.int x2), some (.int x3)], [.int x2, .int x3], s_hg g)) rfl ?_
  by_cases hc : x3 < x2
  · rw [if_pos hc] at hB
    refine s_Fin.bf (c := x2 ≤ x3) (tg := 26) (p2 := 13) (L1 := [some (.ref 22), none, some (.int x2), some (.int x3)]) (st1 := []) (Int32.not_le.mpr hc) rfl ?_
    refine s_Fin.sg 1 (y := (17, [some (.ref 22), none, some (.int x2), some (.int x3)], [.ref 22], s_hg g)) rfl ?_
    obtain ⟨g2, hp, hB⟩ := s_bd hB
    refine s_Fin.cl (d := 1) (q1 := s_m81) (md := 81) (vs := [.ref 22]) (rest := []) (h1 := s_hg g2) (u := none) (s_Ev.up (by omega) (fT_passDay_22_s hp)) rfl rfl rfl rfl ?_
    refine s_Fin.sg 2 (y := (11, [some (.ref 22), none, some (.int x2), some (.int (x3 + (1 : Int32)))], [], s_hg g2)) rfl ?_
    have hB := Option.some.inj hB
    subst hB
    exact s_Fin.more (L := [some (.ref 22), none, some (.int x2), some (.int (x3 + (1 : Int32)))]) ⟨Or.inr rfl, Or.inl rfl, Or.inr rfl, Or.inr rfl, trivial⟩ hr
  · rw [if_neg hc] at hB
    refine s_Fin.bt (c := x2 ≤ x3) (tg := 26) (p2 := 13) (L1 := [some (.ref 22), none, some (.int x2), some (.int x3)]) (st1 := []) (Int32.not_lt.mp hc) rfl ?_
    obtain ⟨_, hN, hz⟩ := s_in_of hB
    subst hz
    have hB := hN
    refine s_Fin.sg 1 (y := (27, [some (.ref 22), none, some (.int x2), some (.int x3)], [.int x2], s_hg g)) rfl ?_
    have hB := Option.some.inj hB
    subst hB
    obtain ⟨rfl, rfl⟩ := hr
    exact s_Fin.rt rfl rfl
noncomputable def fT_passDays_22 (x1 : Int32) (g : s_G) : Option (Int32 × s_G) :=
  s_b1 (fT_daysLeft_22 g) fun v1 => s_lp (fun x => fT_passDays_22_11 (if v1 < x1 then v1 else x1) x.1 x.2) ((0 : Int32), g)
theorem fT_passDays_22_s {x1 : Int32} {g : s_G} {z : Int32 × s_G} (hB : fT_passDays_22 x1 g = some z) : s_Ev 2 s_m79 [.ref 22, .int x1] (s_hg g) (some (.int z.1)) (s_hg z.2) := by
  unfold fT_passDays_22 at hB
  refine s_Ev.fin ((?_ : ∀ (v : Option Value) (h' : s_H), (fun (z : Int32 × s_G) (v : Option Value) (h' : s_H) => v = some (.int z.1) ∧ h' = s_hg z.2) z v h' → s_Fin 2 s_m79 (0, s_ent [.ref 22, .int x1] (s_m79).2.2.1, [], s_hg g) v h') _ _ ⟨rfl, rfl⟩)
  intro v h' hr
  refine (show s_Fin 2 s_m79 (0, [some (.ref 22), some (.int x1), none, none], [], s_hg g) v h' from ?_)
  refine s_Fin.sg 2 (y := (2, [some (.ref 22), some (.int x1), none, none], [.ref 22, .int x1], s_hg g)) rfl ?_
  obtain ⟨v1, hp, hB⟩ := s_bd hB
  refine s_Fin.cl (d := 1) (q1 := s_m80) (md := 80) (vs := [.ref 22]) (rest := [.int x1]) (h1 := s_hg g) (u := some (.int v1)) (s_Ev.up (by omega) (fT_daysLeft_22_s hp)) rfl rfl rfl rfl ?_
  refine s_Fin.sg 4 (y := (11, [some (.ref 22), some (.int x1), some (.int (if v1 < x1 then v1 else x1)), some (.int (0 : Int32))], [], s_hg g)) rfl ?_
  exact s_Fin.more (L := [some (.ref 22), none, some (.int (if v1 < x1 then v1 else x1)), some (.int (0 : Int32))]) ⟨Or.inr rfl, Or.inl rfl, Or.inr rfl, Or.inr rfl, trivial⟩ (s_lp_s (P := (fun (x : Int32 × s_G) (v : Option Value) (h' : s_H) => s_Fin 2 s_m79 (11, [some (.ref 22), none, some (.int (if v1 < x1 then v1 else x1)), some (.int x.1)], [], s_hg x.2) v h')) (Q := (fun (z : Int32 × s_G) (v : Option Value) (h' : s_H) => v = some (.int z.1) ∧ h' = s_hg z.2)) (fun x z hB v h' hr => fT_passDays_22_11_s hB hr) hB _ _ hr)
-- CampAshes.days
noncomputable def fC_days_0 (x1 : Int32) (g : s_G) : Option (Int32 × s_G) :=
  if x1 < (1 : Int32) then (some ((-1 : Int32), g))
  else if (60 : Int32) < x1 then (some ((-1 : Int32), g))
  else s_b1 (fT_copyFrom_22_17 g) fun g1 => s_b2 (fT_passDays_22 x1 g1) fun v3 g2 => if 0 < v3 then (s_b1 (fC_keepTrial_0 g2) fun g4 => some (v3, g4))
  else some (v3, g2)
theorem fC_days_0_s {x1 : Int32} {g : s_G} {z : Int32 × s_G} (hB : fC_days_0 x1 g = some z) : s_Ev 3 s_m78 [.ref 0, .int x1] (s_hg g) (some (.int z.1)) (s_hg z.2) := by
  unfold fC_days_0 at hB
  refine s_Ev.fin ((?_ : ∀ (v : Option Value) (h' : s_H), (fun (z : Int32 × s_G) (v : Option Value) (h' : s_H) => v = some (.int z.1) ∧ h' = s_hg z.2) z v h' → s_Fin 3 s_m78 (0, s_ent [.ref 0, .int x1] (s_m78).2.2.1, [], s_hg g) v h') _ _ ⟨rfl, rfl⟩)
  intro v h' hr
  refine (show s_Fin 3 s_m78 (0, [some (.ref 0), some (.int x1), none], [], s_hg g) v h' from ?_)
  refine s_Fin.sg 2 (y := (2, [some (.ref 0), some (.int x1), none], [.int (1 : Int32), .int x1], s_hg g)) rfl ?_
  by_cases hc : x1 < (1 : Int32)
  · rw [if_pos hc] at hB
    refine s_Fin.bt (c := x1 < (1 : Int32)) (tg := 11) (p2 := 2) (L1 := [some (.ref 0), some (.int x1), none]) (st1 := []) hc rfl ?_
    refine s_Fin.sg 1 (y := (12, [some (.ref 0), some (.int x1), none], [.int (-1 : Int32)], s_hg g)) rfl ?_
    have hB := Option.some.inj hB
    subst hB
    obtain ⟨rfl, rfl⟩ := hr
    exact s_Fin.rt rfl rfl
  · rw [if_neg hc] at hB
    refine s_Fin.bf (c := x1 < (1 : Int32)) (tg := 11) (p2 := 2) (L1 := [some (.ref 0), some (.int x1), none]) (st1 := []) hc rfl ?_
    refine s_Fin.sg 2 (y := (8, [some (.ref 0), some (.int x1), none], [.int (60 : Int32), .int x1], s_hg g)) rfl ?_
    by_cases hc : (60 : Int32) < x1
    · rw [if_pos hc] at hB
      refine s_Fin.bf (c := x1 ≤ (60 : Int32)) (tg := 13) (p2 := 8) (L1 := [some (.ref 0), some (.int x1), none]) (st1 := []) (Int32.not_le.mpr hc) rfl ?_
      refine s_Fin.sg 1 (y := (12, [some (.ref 0), some (.int x1), none], [.int (-1 : Int32)], s_hg g)) rfl ?_
      have hB := Option.some.inj hB
      subst hB
      obtain ⟨rfl, rfl⟩ := hr
      exact s_Fin.rt rfl rfl
    · rw [if_neg hc] at hB
      refine s_Fin.bt (c := x1 ≤ (60 : Int32)) (tg := 13) (p2 := 8) (L1 := [some (.ref 0), some (.int x1), none]) (st1 := []) (Int32.not_lt.mp hc) rfl ?_
      refine s_Fin.sg 4 (y := (21, [some (.ref 0), some (.int x1), none], [.ref 17, .ref 22], s_hg g)) rfl ?_
      obtain ⟨g1, hp, hB⟩ := s_bd hB
      refine s_Fin.cl (d := 2) (q1 := s_m62) (md := 62) (vs := [.ref 22, .ref 17]) (rest := []) (h1 := s_hg g1) (u := none) (s_Ev.up (by omega) (fT_copyFrom_22_17_s hp)) rfl rfl rfl rfl ?_
      refine s_Fin.sg 3 (y := (29, [some (.ref 0), some (.int x1), none], [.int x1, .ref 22], s_hg g1)) rfl ?_
      obtain ⟨v3, g2, hp, hB⟩ := s_bd2 hB
      refine s_Fin.cl (d := 2) (q1 := s_m79) (md := 79) (vs := [.ref 22, .int x1]) (rest := []) (h1 := s_hg g2) (u := some (.int v3)) (s_Ev.up (by omega) (fT_passDays_22_s hp)) rfl rfl rfl rfl ?_
      refine s_Fin.sg 2 (y := (34, [some (.ref 0), some (.int x1), some (.int v3)], [.int v3], s_hg g2)) rfl ?_
      by_cases hc : 0 < v3
      · rw [if_pos hc] at hB
        refine s_Fin.bf (c := v3 ≤ 0) (tg := 41) (p2 := 34) (L1 := [some (.ref 0), some (.int x1), some (.int v3)]) (st1 := []) (Int32.not_le.mpr hc) rfl ?_
        refine s_Fin.sg 1 (y := (38, [some (.ref 0), some (.int x1), some (.int v3)], [.ref 0], s_hg g2)) rfl ?_
        obtain ⟨g4, hp, hB⟩ := s_bd hB
        refine s_Fin.cl (d := 2) (q1 := s_m68) (md := 68) (vs := [.ref 0]) (rest := []) (h1 := s_hg g4) (u := none) (s_Ev.up (by omega) (fC_keepTrial_0_s hp)) rfl rfl rfl rfl ?_
        refine s_Fin.sg 1 (y := (42, [some (.ref 0), some (.int x1), some (.int v3)], [.int v3], s_hg g4)) rfl ?_
        have hB := Option.some.inj hB
        subst hB
        obtain ⟨rfl, rfl⟩ := hr
        exact s_Fin.rt rfl rfl
      · rw [if_neg hc] at hB
        refine s_Fin.bt (c := v3 ≤ 0) (tg := 41) (p2 := 34) (L1 := [some (.ref 0), some (.int x1), some (.int v3)]) (st1 := []) (Int32.not_lt.mp hc) rfl ?_
        refine s_Fin.sg 1 (y := (42, [some (.ref 0), some (.int x1), some (.int v3)], [.int v3], s_hg g2)) rfl ?_
        have hB := Option.some.inj hB
        subst hB
        obtain ⟨rfl, rfl⟩ := hr
        exact s_Fin.rt rfl rfl
