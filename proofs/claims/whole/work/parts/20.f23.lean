-- CampAshesModel.findIn
noncomputable def fM_findIn_137_3 (x1 : Int32) (x2 : Int32) (x3 : Int64) (x5 : Int32) (g : s_G) : Option ((Int32) ⊕ (Int32)) :=
  if x5 < x2 then (s_b1 (s_ix 17 (x1 + x5)) fun k2 => if (lg_cmp (g.2.1 137 k2) x3) = 0 then (s_in (some x5))
  else some (.inl (x5 + (1 : Int32))))
  else s_in (some (-1 : Int32))
theorem fM_findIn_137_3_s {x1 : Int32} {x2 : Int32} {x3 : Int64} {x5 : Int32} {g : s_G} {z : (Int32) ⊕ (Int32)} (hB : fM_findIn_137_3 x1 x2 x3 x5 g = some z) {v : Option Value} {h' : s_H} (hr : (s_sm (fun (x : Int32) (v : Option Value) (h' : s_H) => s_Fin 0 s_m179 (3, [some (.ref 137), some (.int x1), some (.int x2), some (.long x3), none, some (.int x)], [], s_hg g) v h') (fun (z : Int32) (v : Option Value) (h' : s_H) => v = some (.int z) ∧ h' = s_hg g)) z v h') : s_Fin 0 s_m179 (3, [some (.ref 137), some (.int x1), some (.int x2), some (.long x3), none, some (.int x5)], [], s_hg g) v h' := by
  unfold fM_findIn_137_3 at hB
  refine s_Fin.sg 2 (y := (6, [some (.ref 137), some (.int x1), some (.int x2), some (.long x3), none, some (.int x5)], [.int x2, .int x5], s_hg g)) rfl ?_
  by_cases hc : x5 < x2
  · rw [if_pos hc] at hB
    refine s_Fin.bf (c := x2 ≤ x5) (tg := 29) (p2 := 6) (L1 := [some (.ref 137), some (.int x1), some (.int x2), some (.long x3), none, some (.int x5)]) (st1 := []) (Int32.not_le.mpr hc) rfl ?_
    refine s_Fin.sg 4 (y := (14, [some (.ref 137), some (.int x1), some (.int x2), some (.long x3), none, some (.int x5)], [.int (x1 + x5), .ref 137], s_hg g)) rfl ?_
    obtain ⟨k2, hk2, hB⟩ := s_bd hB
    refine s_Fin.ix (n := 17) (i := x1 + x5) (pc1 := 15) (L1 := [some (.ref 137), some (.int x1), some (.int x2), some (.long x3), none, some (.int x5)]) (fun j1 => [.long (g.2.1 137 j1)]) (fun j1 => s_hg g) hk2 rfl rfl ?_
    refine s_Fin.sg 2 (y := (17, [some (.ref 137), some (.int x1), some (.int x2), some (.long x3), none, some (.int x5)], [.int (lg_cmp (g.2.1 137 k2) x3)], s_hg g)) rfl ?_
    by_cases hc : (lg_cmp (g.2.1 137 k2) x3) = 0
    · rw [if_pos hc] at hB
      refine s_Fin.bf (c := ¬ (lg_cmp (g.2.1 137 k2) x3) = 0) (tg := 23) (p2 := 17) (L1 := [some (.ref 137), some (.int x1), some (.int x2), some (.long x3), none, some (.int x5)]) (st1 := []) (fun h => h hc) rfl ?_
      obtain ⟨_, hN, hz⟩ := s_in_of hB
      subst hz
      have hB := hN
      refine s_Fin.sg 1 (y := (22, [some (.ref 137), some (.int x1), some (.int x2), some (.long x3), none, some (.int x5)], [.int x5], s_hg g)) rfl ?_
      have hB := Option.some.inj hB
      subst hB
      obtain ⟨rfl, rfl⟩ := hr
      exact s_Fin.rt rfl rfl
    · rw [if_neg hc] at hB
      refine s_Fin.bt (c := ¬ (lg_cmp (g.2.1 137 k2) x3) = 0) (tg := 23) (p2 := 17) (L1 := [some (.ref 137), some (.int x1), some (.int x2), some (.long x3), none, some (.int x5)]) (st1 := []) hc rfl ?_
      refine s_Fin.sg 2 (y := (3, [some (.ref 137), some (.int x1), some (.int x2), some (.long x3), none, some (.int (x5 + (1 : Int32)))], [], s_hg g)) rfl ?_
      have hB := Option.some.inj hB
      subst hB
      exact s_Fin.more (L := [some (.ref 137), some (.int x1), some (.int x2), some (.long x3), none, some (.int (x5 + (1 : Int32)))]) ⟨Or.inr rfl, Or.inr rfl, Or.inr rfl, Or.inr rfl, Or.inl rfl, Or.inr rfl, trivial⟩ hr
  · rw [if_neg hc] at hB
    refine s_Fin.bt (c := x2 ≤ x5) (tg := 29) (p2 := 6) (L1 := [some (.ref 137), some (.int x1), some (.int x2), some (.long x3), none, some (.int x5)]) (st1 := []) (Int32.not_lt.mp hc) rfl ?_
    obtain ⟨_, hN, hz⟩ := s_in_of hB
    subst hz
    have hB := hN
    refine s_Fin.sg 1 (y := (30, [some (.ref 137), some (.int x1), some (.int x2), some (.long x3), none, some (.int x5)], [.int (-1 : Int32)], s_hg g)) rfl ?_
    have hB := Option.some.inj hB
    subst hB
    obtain ⟨rfl, rfl⟩ := hr
    exact s_Fin.rt rfl rfl
noncomputable def fM_findIn_137 (x1 : Int32) (x2 : Int32) (x3 : Int64) (g : s_G) : Option (Int32) :=
  s_lp (fun x => fM_findIn_137_3 x1 x2 x3 x g) (0 : Int32)
theorem fM_findIn_137_s {x1 : Int32} {x2 : Int32} {x3 : Int64} {g : s_G} {z : Int32} (hB : fM_findIn_137 x1 x2 x3 g = some z) : s_Ev 0 s_m179 [.ref 137, .int x1, .int x2, .long x3] (s_hg g) (some (.int z)) (s_hg g) := by
  unfold fM_findIn_137 at hB
  refine s_Ev.fin ((?_ : ∀ (v : Option Value) (h' : s_H), (fun (z : Int32) (v : Option Value) (h' : s_H) => v = some (.int z) ∧ h' = s_hg g) z v h' → s_Fin 0 s_m179 (0, s_ent [.ref 137, .int x1, .int x2, .long x3] (s_m179).2.2.1, [], s_hg g) v h') _ _ ⟨rfl, rfl⟩)
  intro v h' hr
  refine (show s_Fin 0 s_m179 (0, [some (.ref 137), some (.int x1), some (.int x2), some (.long x3), none, none], [], s_hg g) v h' from ?_)
  refine s_Fin.sg 2 (y := (3, [some (.ref 137), some (.int x1), some (.int x2), some (.long x3), none, some (.int (0 : Int32))], [], s_hg g)) rfl ?_
  exact s_Fin.more (L := [some (.ref 137), some (.int x1), some (.int x2), some (.long x3), none, some (.int (0 : Int32))]) ⟨Or.inr rfl, Or.inr rfl, Or.inr rfl, Or.inr rfl, Or.inl rfl, Or.inr rfl, trivial⟩ (s_lp_s (P := (fun (x : Int32) (v : Option Value) (h' : s_H) => s_Fin 0 s_m179 (3, [some (.ref 137), some (.int x1), some (.int x2), some (.long x3), none, some (.int x)], [], s_hg g) v h')) (Q := (fun (z : Int32) (v : Option Value) (h' : s_H) => v = some (.int z) ∧ h' = s_hg g)) (fun x z hB v h' hr => fM_findIn_137_3_s hB hr) hB _ _ hr)
-- CampAshesModel.readNamed
noncomputable def fM_readNamed_130 (x1 : Int32) (x2 : Int32) (g : s_G) : Option (Int32 × s_G) :=
  s_b1 (fM_isName_130 g) fun v1 => if v1 = 0 then (s_b2 (fM_bad_130 (1 : Int32) g) fun v3 g2 => if v3 = 0 ∨ v3 = 1 then some (v3, g2)
  else none)
  else s_b1 (fM_findIn_137 x1 x2 (g.2.1 130 12) g) fun v4 => if v4 = (-1 : Int32) then (s_b2 (fM_bad_130 (3 : Int32) (s_si g 130 13 v4)) fun v6 g5 => if v6 = 0 ∨ v6 = 1 then some (v6, g5)
  else none)
  else s_b1 (fM_go_130 (s_si g 130 13 v4)) fun g7 => some ((1 : Int32), g7)
theorem fM_readNamed_130_s {x1 : Int32} {x2 : Int32} {g : s_G} {z : Int32 × s_G} (hB : fM_readNamed_130 x1 x2 g = some z) : s_Ev 3 s_m262 [.ref 130, .int x1, .int x2] (s_hg g) (some (.int z.1)) (s_hg z.2) := by
  unfold fM_readNamed_130 at hB
  refine s_Ev.fin ((?_ : ∀ (v : Option Value) (h' : s_H), (fun (z : Int32 × s_G) (v : Option Value) (h' : s_H) => v = some (.int z.1) ∧ h' = s_hg z.2) z v h' → s_Fin 3 s_m262 (0, s_ent [.ref 130, .int x1, .int x2] (s_m262).2.2.1, [], s_hg g) v h') _ _ ⟨rfl, rfl⟩)
  intro v h' hr
  refine (show s_Fin 3 s_m262 (0, [some (.ref 130), some (.int x1), some (.int x2)], [], s_hg g) v h' from ?_)
  refine s_Fin.sg 1 (y := (1, [some (.ref 130), some (.int x1), some (.int x2)], [.ref 130], s_hg g)) rfl ?_
  obtain ⟨v1, hp, hB⟩ := s_bd hB
  refine s_Fin.cl (d := 2) (q1 := s_m178) (md := 178) (vs := [.ref 130]) (rest := []) (h1 := s_hg g) (u := some (.int v1)) (s_Ev.up (by omega) (fM_isName_130_s hp)) rfl rfl rfl rfl ?_
  by_cases hc : v1 = 0
  · rw [if_pos hc] at hB
    refine s_Fin.bf (c := ¬ v1 = 0) (tg := 13) (p2 := 4) (L1 := [some (.ref 130), some (.int x1), some (.int x2)]) (st1 := []) (fun h => h hc) rfl ?_
    refine s_Fin.sg 2 (y := (9, [some (.ref 130), some (.int x1), some (.int x2)], [.int (1 : Int32), .ref 130], s_hg g)) rfl ?_
    obtain ⟨v3, g2, hp, hB⟩ := s_bd2 hB
    refine s_Fin.cl (d := 2) (q1 := s_m176) (md := 176) (vs := [.ref 130, .int (1 : Int32)]) (rest := []) (h1 := s_hg g2) (u := some (.int v3)) (s_Ev.up (by omega) (fM_bad_130_s hp)) rfl rfl rfl rfl ?_
    have hc : v3 = 0 ∨ v3 = 1 := Classical.byContradiction fun h => (by rw [if_neg h] at hB; cases hB)
    rw [if_pos hc] at hB
    have hB := Option.some.inj hB
    subst hB
    obtain ⟨rfl, rfl⟩ := hr
    exact s_Fin.rt (by rcases hc with hc | hc <;> rw [hc] <;> exact rfl) rfl
  · rw [if_neg hc] at hB
    refine s_Fin.bt (c := ¬ v1 = 0) (tg := 13) (p2 := 4) (L1 := [some (.ref 130), some (.int x1), some (.int x2)]) (st1 := []) hc rfl ?_
    refine s_Fin.sg 7 (y := (24, [some (.ref 130), some (.int x1), some (.int x2)], [.long (g.2.1 130 12), .int x2, .int x1, .ref 137, .ref 130], s_hg g)) rfl ?_
    obtain ⟨v4, hp, hB⟩ := s_bd hB
    refine s_Fin.cl (d := 2) (q1 := s_m179) (md := 179) (vs := [.ref 137, .int x1, .int x2, .long (g.2.1 130 12)]) (rest := [.ref 130]) (h1 := s_hg g) (u := some (.int v4)) (s_Ev.up (by omega) (fM_findIn_137_s hp)) rfl rfl rfl rfl ?_
    refine s_Fin.sg 4 (y := (35, [some (.ref 130), some (.int x1), some (.int x2)], [.int (-1 : Int32), .int v4], s_hg (s_si g 130 13 v4))) rfl ?_
    by_cases hc : v4 = (-1 : Int32)
    · rw [if_pos hc] at hB
      refine s_Fin.bf (c := ¬ v4 = (-1 : Int32)) (tg := 44) (p2 := 35) (L1 := [some (.ref 130), some (.int x1), some (.int x2)]) (st1 := []) (fun h => h hc) rfl ?_
      refine s_Fin.sg 2 (y := (40, [some (.ref 130), some (.int x1), some (.int x2)], [.int (3 : Int32), .ref 130], s_hg (s_si g 130 13 v4))) rfl ?_
      obtain ⟨v6, g5, hp, hB⟩ := s_bd2 hB
      refine s_Fin.cl (d := 2) (q1 := s_m176) (md := 176) (vs := [.ref 130, .int (3 : Int32)]) (rest := []) (h1 := s_hg g5) (u := some (.int v6)) (s_Ev.up (by omega) (fM_bad_130_s hp)) rfl rfl rfl rfl ?_
      have hc : v6 = 0 ∨ v6 = 1 := Classical.byContradiction fun h => (by rw [if_neg h] at hB; cases hB)
      rw [if_pos hc] at hB
      have hB := Option.some.inj hB
      subst hB
      obtain ⟨rfl, rfl⟩ := hr
      exact s_Fin.rt (by rcases hc with hc | hc <;> rw [hc] <;> exact rfl) rfl
    · rw [if_neg hc] at hB
      refine s_Fin.bt (c := ¬ v4 = (-1 : Int32)) (tg := 44) (p2 := 35) (L1 := [some (.ref 130), some (.int x1), some (.int x2)]) (st1 := []) hc rfl ?_
      refine s_Fin.sg 1 (y := (45, [some (.ref 130), some (.int x1), some (.int x2)], [.ref 130], s_hg (s_si g 130 13 v4))) rfl ?_
      obtain ⟨g7, hp, hB⟩ := s_bd hB
      refine s_Fin.cl (d := 2) (q1 := s_m166) (md := 166) (vs := [.ref 130]) (rest := []) (h1 := s_hg g7) (u := none) (s_Ev.up (by omega) (fM_go_130_s hp)) rfl rfl rfl rfl ?_
      refine s_Fin.sg 1 (y := (49, [some (.ref 130), some (.int x1), some (.int x2)], [.int (1 : Int32)], s_hg g7)) rfl ?_
      have hB := Option.some.inj hB
      subst hB
      obtain ⟨rfl, rfl⟩ := hr
      exact s_Fin.rt rfl rfl
-- CampAshesModel.keep
noncomputable def fM_keep_130 (x1 : Int32) (x2 : Int32) (g : s_G) : Option (Int32 × s_G) :=
  if x2 = 0 then (if x2 = 0 ∨ x2 = 1 then some (x2, g)
  else none)
  else s_b1 (s_ix 200 x1) fun k2 => if x2 = 0 ∨ x2 = 1 then some (x2, (s_si g 149 k2 (g.1 130 13)))
  else none
theorem fM_keep_130_s {x1 : Int32} {x2 : Int32} {g : s_G} {z : Int32 × s_G} (hB : fM_keep_130 x1 x2 g = some z) : s_Ev 0 s_m263 [.ref 130, .int x1, .int x2] (s_hg g) (some (.int z.1)) (s_hg z.2) := by
  unfold fM_keep_130 at hB
  refine s_Ev.fin ((?_ : ∀ (v : Option Value) (h' : s_H), (fun (z : Int32 × s_G) (v : Option Value) (h' : s_H) => v = some (.int z.1) ∧ h' = s_hg z.2) z v h' → s_Fin 0 s_m263 (0, s_ent [.ref 130, .int x1, .int x2] (s_m263).2.2.1, [], s_hg g) v h') _ _ ⟨rfl, rfl⟩)
  intro v h' hr
  refine (show s_Fin 0 s_m263 (0, [some (.ref 130), some (.int x1), some (.int x2)], [], s_hg g) v h' from ?_)
  refine s_Fin.sg 1 (y := (1, [some (.ref 130), some (.int x1), some (.int x2)], [.int x2], s_hg g)) rfl ?_
  by_cases hc : x2 = 0
  · rw [if_pos hc] at hB
    refine s_Fin.bt (c := x2 = 0) (tg := 14) (p2 := 1) (L1 := [some (.ref 130), some (.int x1), some (.int x2)]) (st1 := []) hc rfl ?_
    refine s_Fin.sg 1 (y := (15, [some (.ref 130), some (.int x1), some (.int x2)], [.int x2], s_hg g)) rfl ?_
    have hc : x2 = 0 ∨ x2 = 1 := Classical.byContradiction fun h => (by rw [if_neg h] at hB; cases hB)
    rw [if_pos hc] at hB
    have hB := Option.some.inj hB
    subst hB
    obtain ⟨rfl, rfl⟩ := hr
    exact s_Fin.rt (by rcases hc with hc | hc <;> rw [hc] <;> exact rfl) rfl
  · rw [if_neg hc] at hB
    refine s_Fin.bf (c := x2 = 0) (tg := 14) (p2 := 1) (L1 := [some (.ref 130), some (.int x1), some (.int x2)]) (st1 := []) hc rfl ?_
    refine s_Fin.sg 5 (y := (13, [some (.ref 130), some (.int x1), some (.int x2)], [.int (g.1 130 13), .int x1, .ref 149], s_hg g)) rfl ?_
    obtain ⟨k2, hk2, hB⟩ := s_bd hB
    refine s_Fin.ix (n := 200) (i := x1) (pc1 := 14) (L1 := [some (.ref 130), some (.int x1), some (.int x2)]) (fun j1 => []) (fun j1 => s_hg (s_si g 149 j1 (g.1 130 13))) hk2 rfl rfl ?_
    refine s_Fin.sg 1 (y := (15, [some (.ref 130), some (.int x1), some (.int x2)], [.int x2], s_hg (s_si g 149 k2 (g.1 130 13)))) rfl ?_
    have hc : x2 = 0 ∨ x2 = 1 := Classical.byContradiction fun h => (by rw [if_neg h] at hB; cases hB)
    rw [if_pos hc] at hB
    have hB := Option.some.inj hB
    subst hB
    obtain ⟨rfl, rfl⟩ := hr
    exact s_Fin.rt (by rcases hc with hc | hc <;> rw [hc] <;> exact rfl) rfl
-- CampAshesModel.readDoes
noncomputable def fM_readDoes_130_23 (x1 : Int32) (x2 : Int32) (g : s_G) : Option (Int32 × s_G) :=
  if (13 : Int32) < x2 then (s_b2 (fM_bad_130 (1 : Int32) g) fun v2 g1 => if v2 = 0 ∨ v2 = 1 then some (v2, g1)
  else none)
  else s_b1 (s_ix 200 x1) fun k4 => s_b1 (fM_go_130 (s_si g 149 k4 (x2 - (11 : Int32)))) fun g5 => s_b2 (fM_readNamed_130 (7 : Int32) (g5.1 132 1) g5) fun v7 g6 => s_b2 (fM_keep_130 (x1 + (2 : Int32)) v7 g6) fun v9 g8 => if v9 = 0 then (some ((0 : Int32), g8))
  else if (g8.1 149 k4) = (2 : Int32) then (s_b2 (fM_readNamed_130 (0 : Int32) (g8.1 132 0) g8) fun v12 g11 => s_b2 (fM_keep_130 (x1 + (3 : Int32)) v12 g11) fun v14 g13 => if v14 = 0 then (some ((0 : Int32), g13))
  else s_b2 (fM_readNumber_130 (1 : Int32) (40 : Int32) g13) fun v16 g15 => s_b2 (fM_keep_130 (x1 + (4 : Int32)) v16 g15) fun v18 g17 => if v18 = 0 then (some ((0 : Int32), g17))
  else some ((1 : Int32), g17))
  else some ((1 : Int32), g8)
theorem fM_readDoes_130_23_s {x1 : Int32} {x2 : Int32} {g : s_G} {z : Int32 × s_G} (hB : fM_readDoes_130_23 x1 x2 g = some z) {v : Option Value} {h' : s_H} (hr : (fun (z : Int32 × s_G) (v : Option Value) (h' : s_H) => v = some (.int z.1) ∧ h' = s_hg z.2) z v h') : s_Fin 4 s_m261 (23, [some (.ref 130), some (.int x1), some (.int x2)], [], s_hg g) v h' := by
  unfold fM_readDoes_130_23 at hB
  refine s_Fin.sg 2 (y := (26, [some (.ref 130), some (.int x1), some (.int x2)], [.int (13 : Int32), .int x2], s_hg g)) rfl ?_
  by_cases hc : (13 : Int32) < x2
  · rw [if_pos hc] at hB
    refine s_Fin.bf (c := x2 ≤ (13 : Int32)) (tg := 35) (p2 := 26) (L1 := [some (.ref 130), some (.int x1), some (.int x2)]) (st1 := []) (Int32.not_le.mpr hc) rfl ?_
    refine s_Fin.sg 2 (y := (31, [some (.ref 130), some (.int x1), some (.int x2)], [.int (1 : Int32), .ref 130], s_hg g)) rfl ?_
    obtain ⟨v2, g1, hp, hB⟩ := s_bd2 hB
    refine s_Fin.cl (d := 3) (q1 := s_m176) (md := 176) (vs := [.ref 130, .int (1 : Int32)]) (rest := []) (h1 := s_hg g1) (u := some (.int v2)) (s_Ev.up (by omega) (fM_bad_130_s hp)) rfl rfl rfl rfl ?_
    have hc : v2 = 0 ∨ v2 = 1 := Classical.byContradiction fun h => (by rw [if_neg h] at hB; cases hB)
    rw [if_pos hc] at hB
    have hB := Option.some.inj hB
    subst hB
    obtain ⟨rfl, rfl⟩ := hr
    exact s_Fin.rt (by rcases hc with hc | hc <;> rw [hc] <;> exact rfl) rfl
  · rw [if_neg hc] at hB
    refine s_Fin.bt (c := x2 ≤ (13 : Int32)) (tg := 35) (p2 := 26) (L1 := [some (.ref 130), some (.int x1), some (.int x2)]) (st1 := []) (Int32.not_lt.mp hc) rfl ?_
    refine s_Fin.sg 6 (y := (44, [some (.ref 130), some (.int x1), some (.int x2)], [.int (x2 - (11 : Int32)), .int x1, .ref 149], s_hg g)) rfl ?_
    obtain ⟨k4, hk4, hB⟩ := s_bd hB
    refine s_Fin.ix (n := 200) (i := x1) (pc1 := 45) (L1 := [some (.ref 130), some (.int x1), some (.int x2)]) (fun j3 => []) (fun j3 => s_hg (s_si g 149 j3 (x2 - (11 : Int32)))) hk4 rfl rfl ?_
    refine s_Fin.sg 1 (y := (46, [some (.ref 130), some (.int x1), some (.int x2)], [.ref 130], s_hg (s_si g 149 k4 (x2 - (11 : Int32))))) rfl ?_
    obtain ⟨g5, hp, hB⟩ := s_bd hB
    refine s_Fin.cl (d := 3) (q1 := s_m166) (md := 166) (vs := [.ref 130]) (rest := []) (h1 := s_hg g5) (u := none) (s_Ev.up (by omega) (fM_go_130_s hp)) rfl rfl rfl rfl ?_
    refine s_Fin.sg 10 (y := (62, [some (.ref 130), some (.int x1), some (.int x2)], [.int (g5.1 132 1), .int (7 : Int32), .ref 130, .int (x1 + (2 : Int32)), .ref 130], s_hg g5)) rfl ?_
    obtain ⟨v7, g6, hp, hB⟩ := s_bd2 hB
    refine s_Fin.cl (d := 3) (q1 := s_m262) (md := 262) (vs := [.ref 130, .int (7 : Int32), .int (g5.1 132 1)]) (rest := [.int (x1 + (2 : Int32)), .ref 130]) (h1 := s_hg g6) (u := some (.int v7)) (s_Ev.up (by omega) (fM_readNamed_130_s hp)) rfl rfl rfl rfl ?_
    obtain ⟨v9, g8, hp, hB⟩ := s_bd2 hB
    refine s_Fin.cl (d := 3) (q1 := s_m263) (md := 263) (vs := [.ref 130, .int (x1 + (2 : Int32)), .int v7]) (rest := []) (h1 := s_hg g8) (u := some (.int v9)) (s_Ev.up (by omega) (fM_keep_130_s hp)) rfl rfl rfl rfl ?_
    by_cases hc : v9 = 0
    · rw [if_pos hc] at hB
      refine s_Fin.bf (c := ¬ v9 = 0) (tg := 73) (p2 := 68) (L1 := [some (.ref 130), some (.int x1), some (.int x2)]) (st1 := []) (fun h => h hc) rfl ?_
      refine s_Fin.sg 1 (y := (72, [some (.ref 130), some (.int x1), some (.int x2)], [.int (0 : Int32)], s_hg g8)) rfl ?_
      have hB := Option.some.inj hB
      subst hB
      obtain ⟨rfl, rfl⟩ := hr
      exact s_Fin.rt rfl rfl
    · rw [if_neg hc] at hB
      refine s_Fin.bt (c := ¬ v9 = 0) (tg := 73) (p2 := 68) (L1 := [some (.ref 130), some (.int x1), some (.int x2)]) (st1 := []) hc rfl ?_
      refine s_Fin.sg 3 (y := (78, [some (.ref 130), some (.int x1), some (.int x2)], [.int x1, .ref 149], s_hg g8)) rfl ?_
      refine s_Fin.ix (n := 200) (i := x1) (pc1 := 79) (L1 := [some (.ref 130), some (.int x1), some (.int x2)]) (fun j10 => [.int (g8.1 149 j10)]) (fun j10 => s_hg g8) hk4 rfl rfl ?_
      refine s_Fin.sg 1 (y := (80, [some (.ref 130), some (.int x1), some (.int x2)], [.int (2 : Int32), .int (g8.1 149 k4)], s_hg g8)) rfl ?_
      by_cases hc : (g8.1 149 k4) = (2 : Int32)
      · rw [if_pos hc] at hB
        refine s_Fin.bf (c := ¬ (g8.1 149 k4) = (2 : Int32)) (tg := 121) (p2 := 80) (L1 := [some (.ref 130), some (.int x1), some (.int x2)]) (st1 := []) (fun h => h hc) rfl ?_
        refine s_Fin.sg 10 (y := (95, [some (.ref 130), some (.int x1), some (.int x2)], [.int (g8.1 132 0), .int (0 : Int32), .ref 130, .int (x1 + (3 : Int32)), .ref 130], s_hg g8)) rfl ?_
        obtain ⟨v12, g11, hp, hB⟩ := s_bd2 hB
        refine s_Fin.cl (d := 3) (q1 := s_m262) (md := 262) (vs := [.ref 130, .int (0 : Int32), .int (g8.1 132 0)]) (rest := [.int (x1 + (3 : Int32)), .ref 130]) (h1 := s_hg g11) (u := some (.int v12)) (s_Ev.up (by omega) (fM_readNamed_130_s hp)) rfl rfl rfl rfl ?_
        obtain ⟨v14, g13, hp, hB⟩ := s_bd2 hB
        refine s_Fin.cl (d := 3) (q1 := s_m263) (md := 263) (vs := [.ref 130, .int (x1 + (3 : Int32)), .int v12]) (rest := []) (h1 := s_hg g13) (u := some (.int v14)) (s_Ev.up (by omega) (fM_keep_130_s hp)) rfl rfl rfl rfl ?_
        by_cases hc : v14 = 0
        · rw [if_pos hc] at hB
          refine s_Fin.bt (c := v14 = 0) (tg := 125) (p2 := 101) (L1 := [some (.ref 130), some (.int x1), some (.int x2)]) (st1 := []) hc rfl ?_
          refine s_Fin.sg 1 (y := (126, [some (.ref 130), some (.int x1), some (.int x2)], [.int (0 : Int32)], s_hg g13)) rfl ?_
          have hB := Option.some.inj hB
          subst hB
          obtain ⟨rfl, rfl⟩ := hr
          exact s_Fin.rt rfl rfl
        · rw [if_neg hc] at hB
          refine s_Fin.bf (c := v14 = 0) (tg := 125) (p2 := 101) (L1 := [some (.ref 130), some (.int x1), some (.int x2)]) (st1 := []) hc rfl ?_
          refine s_Fin.sg 7 (y := (112, [some (.ref 130), some (.int x1), some (.int x2)], [.int (40 : Int32), .int (1 : Int32), .ref 130, .int (x1 + (4 : Int32)), .ref 130], s_hg g13)) rfl ?_
          obtain ⟨v16, g15, hp, hB⟩ := s_bd2 hB
          refine s_Fin.cl (d := 3) (q1 := s_m180) (md := 180) (vs := [.ref 130, .int (1 : Int32), .int (40 : Int32)]) (rest := [.int (x1 + (4 : Int32)), .ref 130]) (h1 := s_hg g15) (u := some (.int v16)) (s_Ev.up (by omega) (fM_readNumber_130_s hp)) rfl rfl rfl rfl ?_
          obtain ⟨v18, g17, hp, hB⟩ := s_bd2 hB
          refine s_Fin.cl (d := 3) (q1 := s_m263) (md := 263) (vs := [.ref 130, .int (x1 + (4 : Int32)), .int v16]) (rest := []) (h1 := s_hg g17) (u := some (.int v18)) (s_Ev.up (by omega) (fM_keep_130_s hp)) rfl rfl rfl rfl ?_
          by_cases hc : v18 = 0
          · rw [if_pos hc] at hB
            refine s_Fin.bt (c := v18 = 0) (tg := 125) (p2 := 118) (L1 := [some (.ref 130), some (.int x1), some (.int x2)]) (st1 := []) hc rfl ?_
            refine s_Fin.sg 1 (y := (126, [some (.ref 130), some (.int x1), some (.int x2)], [.int (0 : Int32)], s_hg g17)) rfl ?_
            have hB := Option.some.inj hB
            subst hB
            obtain ⟨rfl, rfl⟩ := hr
            exact s_Fin.rt rfl rfl
          · rw [if_neg hc] at hB
            refine s_Fin.bf (c := v18 = 0) (tg := 125) (p2 := 118) (L1 := [some (.ref 130), some (.int x1), some (.int x2)]) (st1 := []) hc rfl ?_
            refine s_Fin.sg 2 (y := (126, [some (.ref 130), some (.int x1), some (.int x2)], [.int (1 : Int32)], s_hg g17)) rfl ?_
            have hB := Option.some.inj hB
            subst hB
            obtain ⟨rfl, rfl⟩ := hr
            exact s_Fin.rt rfl rfl
      · rw [if_neg hc] at hB
        refine s_Fin.bt (c := ¬ (g8.1 149 k4) = (2 : Int32)) (tg := 121) (p2 := 80) (L1 := [some (.ref 130), some (.int x1), some (.int x2)]) (st1 := []) hc rfl ?_
        refine s_Fin.sg 2 (y := (126, [some (.ref 130), some (.int x1), some (.int x2)], [.int (1 : Int32)], s_hg g8)) rfl ?_
        have hB := Option.some.inj hB
        subst hB
        obtain ⟨rfl, rfl⟩ := hr
        exact s_Fin.rt rfl rfl
noncomputable def fM_readDoes_130_3 (x1 : Int32) (x2 : Int32) (g : s_G) : Option ((Int32) ⊕ (Int32 × s_G)) :=
  if (13 : Int32) < x2 then (s_in (fM_readDoes_130_23 x1 x2 g))
  else s_b1 (fM_isWord_130 x2 g) fun v19 => if v19 = 0 then (some (.inl (x2 + (1 : Int32))))
  else s_in (fM_readDoes_130_23 x1 x2 g)
theorem fM_readDoes_130_3_s {x1 : Int32} {x2 : Int32} {g : s_G} {z : (Int32) ⊕ (Int32 × s_G)} (hB : fM_readDoes_130_3 x1 x2 g = some z) {v : Option Value} {h' : s_H} (hr : (s_sm (fun (x : Int32) (v : Option Value) (h' : s_H) => s_Fin 4 s_m261 (3, [some (.ref 130), some (.int x1), some (.int x)], [], s_hg g) v h') (fun (z : Int32 × s_G) (v : Option Value) (h' : s_H) => v = some (.int z.1) ∧ h' = s_hg z.2)) z v h') : s_Fin 4 s_m261 (3, [some (.ref 130), some (.int x1), some (.int x2)], [], s_hg g) v h' := by
  unfold fM_readDoes_130_3 at hB
  refine s_Fin.sg 2 (y := (6, [some (.ref 130), some (.int x1), some (.int x2)], [.int (13 : Int32), .int x2], s_hg g)) rfl ?_
  by_cases hc : (13 : Int32) < x2
  · rw [if_pos hc] at hB
    refine s_Fin.bt (c := (13 : Int32) < x2) (tg := 23) (p2 := 6) (L1 := [some (.ref 130), some (.int x1), some (.int x2)]) (st1 := []) hc rfl ?_
    obtain ⟨_, hN, hz⟩ := s_in_of hB
    subst hz
    have hB := hN
    exact s_Fin.more (L := [some (.ref 130), some (.int x1), some (.int x2)]) ⟨Or.inr rfl, Or.inr rfl, Or.inr rfl, trivial⟩ (fM_readDoes_130_23_s hB hr)
  · rw [if_neg hc] at hB
    refine s_Fin.bf (c := (13 : Int32) < x2) (tg := 23) (p2 := 6) (L1 := [some (.ref 130), some (.int x1), some (.int x2)]) (st1 := []) hc rfl ?_
    refine s_Fin.sg 2 (y := (11, [some (.ref 130), some (.int x1), some (.int x2)], [.int x2, .ref 130], s_hg g)) rfl ?_
    obtain ⟨v19, hp, hB⟩ := s_bd hB
    refine s_Fin.cl (d := 3) (q1 := s_m171) (md := 171) (vs := [.ref 130, .int x2]) (rest := []) (h1 := s_hg g) (u := some (.int v19)) (s_Ev.up (by omega) (fM_isWord_130_s hp)) rfl rfl rfl rfl ?_
    by_cases hc : v19 = 0
    · rw [if_pos hc] at hB
      refine s_Fin.bf (c := ¬ v19 = 0) (tg := 23) (p2 := 14) (L1 := [some (.ref 130), some (.int x1), some (.int x2)]) (st1 := []) (fun h => h hc) rfl ?_
      refine s_Fin.sg 2 (y := (3, [some (.ref 130), some (.int x1), some (.int (x2 + (1 : Int32)))], [], s_hg g)) rfl ?_
      have hB := Option.some.inj hB
      subst hB
      exact s_Fin.more (L := [some (.ref 130), some (.int x1), some (.int (x2 + (1 : Int32)))]) ⟨Or.inr rfl, Or.inr rfl, Or.inr rfl, trivial⟩ hr
    · rw [if_neg hc] at hB
      refine s_Fin.bt (c := ¬ v19 = 0) (tg := 23) (p2 := 14) (L1 := [some (.ref 130), some (.int x1), some (.int x2)]) (st1 := []) hc rfl ?_
      obtain ⟨_, hN, hz⟩ := s_in_of hB
      subst hz
      have hB := hN
      exact s_Fin.more (L := [some (.ref 130), some (.int x1), some (.int x2)]) ⟨Or.inr rfl, Or.inr rfl, Or.inr rfl, trivial⟩ (fM_readDoes_130_23_s hB hr)
noncomputable def fM_readDoes_130 (x1 : Int32) (g : s_G) : Option (Int32 × s_G) :=
  s_lp (fun x => fM_readDoes_130_3 x1 x g) (11 : Int32)
theorem fM_readDoes_130_s {x1 : Int32} {g : s_G} {z : Int32 × s_G} (hB : fM_readDoes_130 x1 g = some z) : s_Ev 4 s_m261 [.ref 130, .int x1] (s_hg g) (some (.int z.1)) (s_hg z.2) := by
  unfold fM_readDoes_130 at hB
  refine s_Ev.fin ((?_ : ∀ (v : Option Value) (h' : s_H), (fun (z : Int32 × s_G) (v : Option Value) (h' : s_H) => v = some (.int z.1) ∧ h' = s_hg z.2) z v h' → s_Fin 4 s_m261 (0, s_ent [.ref 130, .int x1] (s_m261).2.2.1, [], s_hg g) v h') _ _ ⟨rfl, rfl⟩)
  intro v h' hr
  refine (show s_Fin 4 s_m261 (0, [some (.ref 130), some (.int x1), none], [], s_hg g) v h' from ?_)
  refine s_Fin.sg 2 (y := (3, [some (.ref 130), some (.int x1), some (.int (11 : Int32))], [], s_hg g)) rfl ?_
  exact s_Fin.more (L := [some (.ref 130), some (.int x1), some (.int (11 : Int32))]) ⟨Or.inr rfl, Or.inr rfl, Or.inr rfl, trivial⟩ (s_lp_s (P := (fun (x : Int32) (v : Option Value) (h' : s_H) => s_Fin 4 s_m261 (3, [some (.ref 130), some (.int x1), some (.int x)], [], s_hg g) v h')) (Q := (fun (z : Int32 × s_G) (v : Option Value) (h' : s_H) => v = some (.int z.1) ∧ h' = s_hg z.2)) (fun x z hB v h' hr => fM_readDoes_130_3_s hB hr) hB _ _ hr)
-- CampAshesModel.readBookLine
noncomputable def fM_readBookLine_130_151 (x1 : Int32) (x2 : Int32) (x3 : Int32) (g : s_G) : Option ((Int32 × s_G) ⊕ (Int32 × s_G)) :=
  if x3 < (5 : Int32) then (s_b1 (s_ix 200 (x2 + x3)) fun k18 => some (.inl (x3 + (1 : Int32), (s_si g 149 k18 (0 : Int32)))))
  else s_in (s_b1 (fM_go_130 g) fun g19 => if x1 = 0 then (s_b2 (fM_readDoes_130 x2 g19) fun v21 g20 => if v21 = 0 then (some ((0 : Int32), g20))
  else s_b2 (fM_readEnd_130 g20) fun v23 g22 => if v23 = 0 then (some ((0 : Int32), g22))
  else some ((1 : Int32), g22))
  else if x1 = 5 then (s_b2 (fM_readNumber_130 (1 : Int32) (60 : Int32) g19) fun v25 g24 => s_b2 (fM_keep_130 (x2 + (1 : Int32)) v25 g24) fun v27 g26 => if v27 = 0 then (some ((0 : Int32), g26))
  else s_b2 (fM_readEnd_130 g26) fun v29 g28 => if v29 = 0 then (some ((0 : Int32), g28))
  else some ((1 : Int32), g28))
  else s_b2 (fM_readEnd_130 g19) fun v31 g30 => if v31 = 0 ∨ v31 = 1 then some (v31, g30)
  else none)
theorem fM_readBookLine_130_151_s {x1 : Int32} {x2 : Int32} {x3 : Int32} {g : s_G} {z : (Int32 × s_G) ⊕ (Int32 × s_G)} (hB : fM_readBookLine_130_151 x1 x2 x3 g = some z) {v : Option Value} {h' : s_H} (hr : (s_sm (fun (x : Int32 × s_G) (v : Option Value) (h' : s_H) => s_Fin 5 s_m260 (151, [some (.ref 130), some (.int x1), some (.int x2), some (.int x.1)], [], s_hg x.2) v h') (fun (z : Int32 × s_G) (v : Option Value) (h' : s_H) => v = some (.int z.1) ∧ h' = s_hg z.2)) z v h') : s_Fin 5 s_m260 (151, [some (.ref 130), some (.int x1), some (.int x2), some (.int x3)], [], s_hg g) v h' := by
  unfold fM_readBookLine_130_151 at hB
  refine s_Fin.sg 2 (y := (153, [some (.ref 130), some (.int x1), some (.int x2), some (.int x3)], [.int (5 : Int32), .int x3], s_hg g)) rfl ?_
  by_cases hc : x3 < (5 : Int32)
  · rw [if_pos hc] at hB
    refine s_Fin.bf (c := (5 : Int32) ≤ x3) (tg := 171) (p2 := 153) (L1 := [some (.ref 130), some (.int x1), some (.int x2), some (.int x3)]) (st1 := []) (Int32.not_le.mpr hc) rfl ?_
    refine s_Fin.sg 6 (y := (164, [some (.ref 130), some (.int x1), some (.int x2), some (.int x3)], [.int (0 : Int32), .int (x2 + x3), .ref 149], s_hg g)) rfl ?_
    obtain ⟨k18, hk18, hB⟩ := s_bd hB
    refine s_Fin.ix (n := 200) (i := x2 + x3) (pc1 := 165) (L1 := [some (.ref 130), some (.int x1), some (.int x2), some (.int x3)]) (fun j17 => []) (fun j17 => s_hg (s_si g 149 j17 (0 : Int32))) hk18 rfl rfl ?_
    refine s_Fin.sg 2 (y := (151, [some (.ref 130), some (.int x1), some (.int x2), some (.int (x3 + (1 : Int32)))], [], s_hg (s_si g 149 k18 (0 : Int32)))) rfl ?_
    have hB := Option.some.inj hB
    subst hB
    exact s_Fin.more (L := [some (.ref 130), some (.int x1), some (.int x2), some (.int (x3 + (1 : Int32)))]) ⟨Or.inr rfl, Or.inr rfl, Or.inr rfl, Or.inr rfl, trivial⟩ hr
  · rw [if_neg hc] at hB
    refine s_Fin.bt (c := (5 : Int32) ≤ x3) (tg := 171) (p2 := 153) (L1 := [some (.ref 130), some (.int x1), some (.int x2), some (.int x3)]) (st1 := []) (Int32.not_lt.mp hc) rfl ?_
    obtain ⟨_, hN, hz⟩ := s_in_of hB
    subst hz
    have hB := hN
    refine s_Fin.sg 1 (y := (172, [some (.ref 130), some (.int x1), some (.int x2), some (.int x3)], [.ref 130], s_hg g)) rfl ?_
    obtain ⟨g19, hp, hB⟩ := s_bd hB
    refine s_Fin.cl (d := 4) (q1 := s_m166) (md := 166) (vs := [.ref 130]) (rest := []) (h1 := s_hg g19) (u := none) (s_Ev.up (by omega) (fM_go_130_s hp)) rfl rfl rfl rfl ?_
    refine s_Fin.sg 1 (y := (176, [some (.ref 130), some (.int x1), some (.int x2), some (.int x3)], [.int x1], s_hg g19)) rfl ?_
    by_cases hc0 : x1 = 0
    · rw [if_pos hc0] at hB
      refine s_Fin.nx (pc1 := 204) (L1 := [some (.ref 130), some (.int x1), some (.int x2), some (.int x3)]) (st1 := []) (h1 := s_hg g19) (by rw [hc0]; exact rfl) rfl ?_
      refine s_Fin.sg 2 (y := (206, [some (.ref 130), some (.int x1), some (.int x2), some (.int x3)], [.int x2, .ref 130], s_hg g19)) rfl ?_
      obtain ⟨v21, g20, hp, hB⟩ := s_bd2 hB
      refine s_Fin.cl (d := 4) (q1 := s_m261) (md := 261) (vs := [.ref 130, .int x2]) (rest := []) (h1 := s_hg g20) (u := some (.int v21)) (s_Ev.up (by omega) (fM_readDoes_130_s hp)) rfl rfl rfl rfl ?_
      by_cases hc : v21 = 0
      · rw [if_pos hc] at hB
        refine s_Fin.bt (c := v21 = 0) (tg := 223) (p2 := 209) (L1 := [some (.ref 130), some (.int x1), some (.int x2), some (.int x3)]) (st1 := []) hc rfl ?_
        refine s_Fin.sg 1 (y := (224, [some (.ref 130), some (.int x1), some (.int x2), some (.int x3)], [.int (0 : Int32)], s_hg g20)) rfl ?_
        have hB := Option.some.inj hB
        subst hB
        obtain ⟨rfl, rfl⟩ := hr
        exact s_Fin.rt rfl rfl
      · rw [if_neg hc] at hB
        refine s_Fin.bf (c := v21 = 0) (tg := 223) (p2 := 209) (L1 := [some (.ref 130), some (.int x1), some (.int x2), some (.int x3)]) (st1 := []) hc rfl ?_
        refine s_Fin.sg 1 (y := (213, [some (.ref 130), some (.int x1), some (.int x2), some (.int x3)], [.ref 130], s_hg g20)) rfl ?_
        obtain ⟨v23, g22, hp, hB⟩ := s_bd2 hB
        refine s_Fin.cl (d := 4) (q1 := s_m188) (md := 188) (vs := [.ref 130]) (rest := []) (h1 := s_hg g22) (u := some (.int v23)) (s_Ev.up (by omega) (fM_readEnd_130_s hp)) rfl rfl rfl rfl ?_
        by_cases hc : v23 = 0
        · rw [if_pos hc] at hB
          refine s_Fin.bt (c := v23 = 0) (tg := 223) (p2 := 216) (L1 := [some (.ref 130), some (.int x1), some (.int x2), some (.int x3)]) (st1 := []) hc rfl ?_
          refine s_Fin.sg 1 (y := (224, [some (.ref 130), some (.int x1), some (.int x2), some (.int x3)], [.int (0 : Int32)], s_hg g22)) rfl ?_
          have hB := Option.some.inj hB
          subst hB
          obtain ⟨rfl, rfl⟩ := hr
          exact s_Fin.rt rfl rfl
        · rw [if_neg hc] at hB
          refine s_Fin.bf (c := v23 = 0) (tg := 223) (p2 := 216) (L1 := [some (.ref 130), some (.int x1), some (.int x2), some (.int x3)]) (st1 := []) hc rfl ?_
          refine s_Fin.sg 2 (y := (224, [some (.ref 130), some (.int x1), some (.int x2), some (.int x3)], [.int (1 : Int32)], s_hg g22)) rfl ?_
          have hB := Option.some.inj hB
          subst hB
          obtain ⟨rfl, rfl⟩ := hr
          exact s_Fin.rt rfl rfl
    rw [if_neg hc0] at hB
    by_cases hc5 : x1 = 5
    · rw [if_pos hc5] at hB
      refine s_Fin.nx (pc1 := 225) (L1 := [some (.ref 130), some (.int x1), some (.int x2), some (.int x3)]) (st1 := []) (h1 := s_hg g19) (by rw [hc5]; exact rfl) rfl ?_
      refine s_Fin.sg 7 (y := (233, [some (.ref 130), some (.int x1), some (.int x2), some (.int x3)], [.int (60 : Int32), .int (1 : Int32), .ref 130, .int (x2 + (1 : Int32)), .ref 130], s_hg g19)) rfl ?_
      obtain ⟨v25, g24, hp, hB⟩ := s_bd2 hB
      refine s_Fin.cl (d := 4) (q1 := s_m180) (md := 180) (vs := [.ref 130, .int (1 : Int32), .int (60 : Int32)]) (rest := [.int (x2 + (1 : Int32)), .ref 130]) (h1 := s_hg g24) (u := some (.int v25)) (s_Ev.up (by omega) (fM_readNumber_130_s hp)) rfl rfl rfl rfl ?_
      obtain ⟨v27, g26, hp, hB⟩ := s_bd2 hB
      refine s_Fin.cl (d := 4) (q1 := s_m263) (md := 263) (vs := [.ref 130, .int (x2 + (1 : Int32)), .int v25]) (rest := []) (h1 := s_hg g26) (u := some (.int v27)) (s_Ev.up (by omega) (fM_keep_130_s hp)) rfl rfl rfl rfl ?_
      by_cases hc : v27 = 0
      · rw [if_pos hc] at hB
        refine s_Fin.bt (c := v27 = 0) (tg := 253) (p2 := 239) (L1 := [some (.ref 130), some (.int x1), some (.int x2), some (.int x3)]) (st1 := []) hc rfl ?_
        refine s_Fin.sg 1 (y := (254, [some (.ref 130), some (.int x1), some (.int x2), some (.int x3)], [.int (0 : Int32)], s_hg g26)) rfl ?_
        have hB := Option.some.inj hB
        subst hB
        obtain ⟨rfl, rfl⟩ := hr
        exact s_Fin.rt rfl rfl
      · rw [if_neg hc] at hB
        refine s_Fin.bf (c := v27 = 0) (tg := 253) (p2 := 239) (L1 := [some (.ref 130), some (.int x1), some (.int x2), some (.int x3)]) (st1 := []) hc rfl ?_
        refine s_Fin.sg 1 (y := (243, [some (.ref 130), some (.int x1), some (.int x2), some (.int x3)], [.ref 130], s_hg g26)) rfl ?_
        obtain ⟨v29, g28, hp, hB⟩ := s_bd2 hB
        refine s_Fin.cl (d := 4) (q1 := s_m188) (md := 188) (vs := [.ref 130]) (rest := []) (h1 := s_hg g28) (u := some (.int v29)) (s_Ev.up (by omega) (fM_readEnd_130_s hp)) rfl rfl rfl rfl ?_
        by_cases hc : v29 = 0
        · rw [if_pos hc] at hB
          refine s_Fin.bt (c := v29 = 0) (tg := 253) (p2 := 246) (L1 := [some (.ref 130), some (.int x1), some (.int x2), some (.int x3)]) (st1 := []) hc rfl ?_
          refine s_Fin.sg 1 (y := (254, [some (.ref 130), some (.int x1), some (.int x2), some (.int x3)], [.int (0 : Int32)], s_hg g28)) rfl ?_
          have hB := Option.some.inj hB
          subst hB
          obtain ⟨rfl, rfl⟩ := hr
          exact s_Fin.rt rfl rfl
        · rw [if_neg hc] at hB
          refine s_Fin.bf (c := v29 = 0) (tg := 253) (p2 := 246) (L1 := [some (.ref 130), some (.int x1), some (.int x2), some (.int x3)]) (st1 := []) hc rfl ?_
          refine s_Fin.sg 2 (y := (254, [some (.ref 130), some (.int x1), some (.int x2), some (.int x3)], [.int (1 : Int32)], s_hg g28)) rfl ?_
          have hB := Option.some.inj hB
          subst hB
          obtain ⟨rfl, rfl⟩ := hr
          exact s_Fin.rt rfl rfl
    rw [if_neg hc5] at hB
    refine s_Fin.nx (pc1 := 255) (L1 := [some (.ref 130), some (.int x1), some (.int x2), some (.int x3)]) (st1 := []) (h1 := s_hg g19) ((show _ = s_ls x1.toInt 176 [some (.ref 130), some (.int x1), some (.int x2), some (.int x3)] [] (s_hg g19) 79 [(0, 28), (5, 49)] from rfl).trans (s_ls_ms ⟨s_tne hc0 (by decide), s_tne hc5 (by decide), trivial⟩ (t := 255) rfl)) rfl ?_
    refine s_Fin.sg 1 (y := (256, [some (.ref 130), some (.int x1), some (.int x2), some (.int x3)], [.ref 130], s_hg g19)) rfl ?_
    obtain ⟨v31, g30, hp, hB⟩ := s_bd2 hB
    refine s_Fin.cl (d := 4) (q1 := s_m188) (md := 188) (vs := [.ref 130]) (rest := []) (h1 := s_hg g30) (u := some (.int v31)) (s_Ev.up (by omega) (fM_readEnd_130_s hp)) rfl rfl rfl rfl ?_
    have hc : v31 = 0 ∨ v31 = 1 := Classical.byContradiction fun h => (by rw [if_neg h] at hB; cases hB)
    rw [if_pos hc] at hB
    have hB := Option.some.inj hB
    subst hB
    obtain ⟨rfl, rfl⟩ := hr
    exact s_Fin.rt (by rcases hc with hc | hc <;> rw [hc] <;> exact rfl) rfl
noncomputable def fM_readBookLine_130_148 (x1 : Int32) (x2 : Int32) (t0 : Int32) (t1 : Int32) (g : s_G) : Option (Int32 × s_G) :=
  s_b1 (s_ix 200 t1) fun k16 => s_lp (fun x => fM_readBookLine_130_151 x1 x2 x.1 x.2) ((2 : Int32), (s_si g 149 k16 t0))
theorem fM_readBookLine_130_148_s {x1 : Int32} {x2 : Int32} {t0 : Int32} {t1 : Int32} {g : s_G} {z : Int32 × s_G} (hB : fM_readBookLine_130_148 x1 x2 t0 t1 g = some z) {v : Option Value} {h' : s_H} (hr : (fun (z : Int32 × s_G) (v : Option Value) (h' : s_H) => v = some (.int z.1) ∧ h' = s_hg z.2) z v h') : s_Fin 5 s_m260 (148, [some (.ref 130), some (.int x1), some (.int x2), none], [.int t0, .int t1, .ref 149], s_hg g) v h' := by
  unfold fM_readBookLine_130_148 at hB
  obtain ⟨k16, hk16, hB⟩ := s_bd hB
  refine s_Fin.ix (n := 200) (i := t1) (pc1 := 149) (L1 := [some (.ref 130), some (.int x1), some (.int x2), none]) (fun j15 => []) (fun j15 => s_hg (s_si g 149 j15 t0)) hk16 rfl rfl ?_
  refine s_Fin.sg 2 (y := (151, [some (.ref 130), some (.int x1), some (.int x2), some (.int (2 : Int32))], [], s_hg (s_si g 149 k16 t0))) rfl ?_
  exact s_Fin.more (L := [some (.ref 130), some (.int x1), some (.int x2), some (.int (2 : Int32))]) ⟨Or.inr rfl, Or.inr rfl, Or.inr rfl, Or.inr rfl, trivial⟩ (s_lp_s (P := (fun (x : Int32 × s_G) (v : Option Value) (h' : s_H) => s_Fin 5 s_m260 (151, [some (.ref 130), some (.int x1), some (.int x2), some (.int x.1)], [], s_hg x.2) v h')) (Q := (fun (z : Int32 × s_G) (v : Option Value) (h' : s_H) => v = some (.int z.1) ∧ h' = s_hg z.2)) (fun x z hB v h' hr => fM_readBookLine_130_151_s hB hr) hB _ _ hr)
noncomputable def fM_readBookLine_130_86 (x1 : Int32) (g : s_G) : Option (Int32 × s_G) :=
  if (g.1 130 41) = (40 : Int32) then (s_b2 (fM_bad_130 (4 : Int32) g) fun v11 g10 => if v11 = 0 ∨ v11 = 1 then some (v11, g10)
  else none)
  else s_b1 (s_ix 200 ((5 : Int32) * (g.1 130 41))) fun k13 => if x1 = 0 then (s_b1 (fM_findIn_137 (0 : Int32) (g.1 132 0) (g.2.1 130 12) (s_si g 149 k13 x1)) fun v14 => fM_readBookLine_130_148 x1 ((5 : Int32) * (g.1 130 41)) v14 (((5 : Int32) * (g.1 130 41)) + (1 : Int32)) (s_si g 149 k13 x1))
  else fM_readBookLine_130_148 x1 ((5 : Int32) * (g.1 130 41)) (0 : Int32) (((5 : Int32) * (g.1 130 41)) + (1 : Int32)) (s_si g 149 k13 x1)
theorem fM_readBookLine_130_86_s {x1 : Int32} {g : s_G} {z : Int32 × s_G} (hB : fM_readBookLine_130_86 x1 g = some z) {v : Option Value} {h' : s_H} (hr : (fun (z : Int32 × s_G) (v : Option Value) (h' : s_H) => v = some (.int z.1) ∧ h' = s_hg z.2) z v h') : s_Fin 5 s_m260 (86, [some (.ref 130), some (.int x1), none, none], [], s_hg g) v h' := by
  unfold fM_readBookLine_130_86 at hB
  refine s_Fin.sg 3 (y := (92, [some (.ref 130), some (.int x1), none, none], [.int (40 : Int32), .int (g.1 130 41)], s_hg g)) rfl ?_
  by_cases hc : (g.1 130 41) = (40 : Int32)
  · rw [if_pos hc] at hB
    refine s_Fin.bf (c := ¬ (g.1 130 41) = (40 : Int32)) (tg := 101) (p2 := 92) (L1 := [some (.ref 130), some (.int x1), none, none]) (st1 := []) (fun h => h hc) rfl ?_
    refine s_Fin.sg 2 (y := (97, [some (.ref 130), some (.int x1), none, none], [.int (4 : Int32), .ref 130], s_hg g)) rfl ?_
    obtain ⟨v11, g10, hp, hB⟩ := s_bd2 hB
    refine s_Fin.cl (d := 4) (q1 := s_m176) (md := 176) (vs := [.ref 130, .int (4 : Int32)]) (rest := []) (h1 := s_hg g10) (u := some (.int v11)) (s_Ev.up (by omega) (fM_bad_130_s hp)) rfl rfl rfl rfl ?_
    have hc : v11 = 0 ∨ v11 = 1 := Classical.byContradiction fun h => (by rw [if_neg h] at hB; cases hB)
    rw [if_pos hc] at hB
    have hB := Option.some.inj hB
    subst hB
    obtain ⟨rfl, rfl⟩ := hr
    exact s_Fin.rt (by rcases hc with hc | hc <;> rw [hc] <;> exact rfl) rfl
  · rw [if_neg hc] at hB
    refine s_Fin.bt (c := ¬ (g.1 130 41) = (40 : Int32)) (tg := 101) (p2 := 92) (L1 := [some (.ref 130), some (.int x1), none, none]) (st1 := []) hc rfl ?_
    refine s_Fin.sg 9 (y := (114, [some (.ref 130), some (.int x1), some (.int ((5 : Int32) * (g.1 130 41))), none], [.int x1, .int ((5 : Int32) * (g.1 130 41)), .ref 149], s_hg g)) rfl ?_
    obtain ⟨k13, hk13, hB⟩ := s_bd hB
    refine s_Fin.ix (n := 200) (i := (5 : Int32) * (g.1 130 41)) (pc1 := 115) (L1 := [some (.ref 130), some (.int x1), some (.int ((5 : Int32) * (g.1 130 41))), none]) (fun j12 => []) (fun j12 => s_hg (s_si g 149 j12 x1)) hk13 rfl rfl ?_
    refine s_Fin.sg 6 (y := (123, [some (.ref 130), some (.int x1), some (.int ((5 : Int32) * (g.1 130 41))), none], [.int x1, .int (((5 : Int32) * (g.1 130 41)) + (1 : Int32)), .ref 149], s_hg (s_si g 149 k13 x1))) rfl ?_
    by_cases hc : x1 = 0
    · rw [if_pos hc] at hB
      refine s_Fin.bf (c := ¬ x1 = 0) (tg := 147) (p2 := 123) (L1 := [some (.ref 130), some (.int x1), some (.int ((5 : Int32) * (g.1 130 41))), none]) (st1 := [.int (((5 : Int32) * (g.1 130 41)) + (1 : Int32)), .ref 149]) (fun h => h hc) rfl ?_
      refine s_Fin.sg 9 (y := (141, [some (.ref 130), some (.int x1), some (.int ((5 : Int32) * (g.1 130 41))), none], [.long (g.2.1 130 12), .int (g.1 132 0), .int (0 : Int32), .ref 137, .int (((5 : Int32) * (g.1 130 41)) + (1 : Int32)), .ref 149], s_hg (s_si g 149 k13 x1))) rfl ?_
      obtain ⟨v14, hp, hB⟩ := s_bd hB
      refine s_Fin.cl (d := 4) (q1 := s_m179) (md := 179) (vs := [.ref 137, .int (0 : Int32), .int (g.1 132 0), .long (g.2.1 130 12)]) (rest := [.int (((5 : Int32) * (g.1 130 41)) + (1 : Int32)), .ref 149]) (h1 := s_hg (s_si g 149 k13 x1)) (u := some (.int v14)) (s_Ev.up (by omega) (fM_findIn_137_s hp)) rfl rfl rfl rfl ?_
      refine s_Fin.sg 1 (y := (148, [some (.ref 130), some (.int x1), some (.int ((5 : Int32) * (g.1 130 41))), none], [.int v14, .int (((5 : Int32) * (g.1 130 41)) + (1 : Int32)), .ref 149], s_hg (s_si g 149 k13 x1))) rfl ?_
      exact s_Fin.more (L := [some (.ref 130), some (.int x1), some (.int ((5 : Int32) * (g.1 130 41))), none]) ⟨Or.inr rfl, Or.inr rfl, Or.inr rfl, Or.inl rfl, trivial⟩ (fM_readBookLine_130_148_s hB hr)
    · rw [if_neg hc] at hB
      refine s_Fin.bt (c := ¬ x1 = 0) (tg := 147) (p2 := 123) (L1 := [some (.ref 130), some (.int x1), some (.int ((5 : Int32) * (g.1 130 41))), none]) (st1 := [.int (((5 : Int32) * (g.1 130 41)) + (1 : Int32)), .ref 149]) hc rfl ?_
      refine s_Fin.sg 1 (y := (148, [some (.ref 130), some (.int x1), some (.int ((5 : Int32) * (g.1 130 41))), none], [.int (0 : Int32), .int (((5 : Int32) * (g.1 130 41)) + (1 : Int32)), .ref 149], s_hg (s_si g 149 k13 x1))) rfl ?_
      exact s_Fin.more (L := [some (.ref 130), some (.int x1), some (.int ((5 : Int32) * (g.1 130 41))), none]) ⟨Or.inr rfl, Or.inr rfl, Or.inr rfl, Or.inl rfl, trivial⟩ (fM_readBookLine_130_148_s hB hr)
noncomputable def fM_readBookLine_130_40 (t0 : Int32) (g : s_G) : Option (Int32 × s_G) :=
  if t0 = 0 then (s_b1 (fM_isName_130 g) fun v4 => if v4 = 0 then (s_b2 (fM_bad_130 (1 : Int32) g) fun v6 g5 => if v6 = 0 ∨ v6 = 1 then some (v6, g5)
  else none)
  else s_b1 (fM_findIn_137 (0 : Int32) (g.1 132 0) (g.2.1 130 12) g) fun v7 => if v7 = (-1 : Int32) then (s_b2 (fM_bad_130 (3 : Int32) g) fun v9 g8 => if v9 = 0 ∨ v9 = 1 then some (v9, g8)
  else none)
  else fM_readBookLine_130_86 t0 g)
  else fM_readBookLine_130_86 t0 g
theorem fM_readBookLine_130_40_s {t0 : Int32} {g : s_G} {z : Int32 × s_G} (hB : fM_readBookLine_130_40 t0 g = some z) {v : Option Value} {h' : s_H} (hr : (fun (z : Int32 × s_G) (v : Option Value) (h' : s_H) => v = some (.int z.1) ∧ h' = s_hg z.2) z v h') : s_Fin 5 s_m260 (40, [some (.ref 130), none, none, none], [.int t0], s_hg g) v h' := by
  unfold fM_readBookLine_130_40 at hB
  refine s_Fin.sg 2 (y := (42, [some (.ref 130), some (.int t0), none, none], [.int t0], s_hg g)) rfl ?_
  by_cases hc : t0 = 0
  · rw [if_pos hc] at hB
    refine s_Fin.bf (c := ¬ t0 = 0) (tg := 86) (p2 := 42) (L1 := [some (.ref 130), some (.int t0), none, none]) (st1 := []) (fun h => h hc) rfl ?_
    refine s_Fin.sg 1 (y := (46, [some (.ref 130), some (.int t0), none, none], [.ref 130], s_hg g)) rfl ?_
    obtain ⟨v4, hp, hB⟩ := s_bd hB
    refine s_Fin.cl (d := 4) (q1 := s_m178) (md := 178) (vs := [.ref 130]) (rest := []) (h1 := s_hg g) (u := some (.int v4)) (s_Ev.up (by omega) (fM_isName_130_s hp)) rfl rfl rfl rfl ?_
    by_cases hc : v4 = 0
    · rw [if_pos hc] at hB
      refine s_Fin.bf (c := ¬ v4 = 0) (tg := 58) (p2 := 49) (L1 := [some (.ref 130), some (.int t0), none, none]) (st1 := []) (fun h => h hc) rfl ?_
      refine s_Fin.sg 2 (y := (54, [some (.ref 130), some (.int t0), none, none], [.int (1 : Int32), .ref 130], s_hg g)) rfl ?_
      obtain ⟨v6, g5, hp, hB⟩ := s_bd2 hB
      refine s_Fin.cl (d := 4) (q1 := s_m176) (md := 176) (vs := [.ref 130, .int (1 : Int32)]) (rest := []) (h1 := s_hg g5) (u := some (.int v6)) (s_Ev.up (by omega) (fM_bad_130_s hp)) rfl rfl rfl rfl ?_
      have hc : v6 = 0 ∨ v6 = 1 := Classical.byContradiction fun h => (by rw [if_neg h] at hB; cases hB)
      rw [if_pos hc] at hB
      have hB := Option.some.inj hB
      subst hB
      obtain ⟨rfl, rfl⟩ := hr
      exact s_Fin.rt (by rcases hc with hc | hc <;> rw [hc] <;> exact rfl) rfl
    · rw [if_neg hc] at hB
      refine s_Fin.bt (c := ¬ v4 = 0) (tg := 58) (p2 := 49) (L1 := [some (.ref 130), some (.int t0), none, none]) (st1 := []) hc rfl ?_
      refine s_Fin.sg 9 (y := (73, [some (.ref 130), some (.int t0), none, none], [.long (g.2.1 130 12), .int (g.1 132 0), .int (0 : Int32), .ref 137], s_hg g)) rfl ?_
      obtain ⟨v7, hp, hB⟩ := s_bd hB
      refine s_Fin.cl (d := 4) (q1 := s_m179) (md := 179) (vs := [.ref 137, .int (0 : Int32), .int (g.1 132 0), .long (g.2.1 130 12)]) (rest := []) (h1 := s_hg g) (u := some (.int v7)) (s_Ev.up (by omega) (fM_findIn_137_s hp)) rfl rfl rfl rfl ?_
      refine s_Fin.sg 1 (y := (77, [some (.ref 130), some (.int t0), none, none], [.int (-1 : Int32), .int v7], s_hg g)) rfl ?_
      by_cases hc : v7 = (-1 : Int32)
      · rw [if_pos hc] at hB
        refine s_Fin.bf (c := ¬ v7 = (-1 : Int32)) (tg := 86) (p2 := 77) (L1 := [some (.ref 130), some (.int t0), none, none]) (st1 := []) (fun h => h hc) rfl ?_
        refine s_Fin.sg 2 (y := (82, [some (.ref 130), some (.int t0), none, none], [.int (3 : Int32), .ref 130], s_hg g)) rfl ?_
        obtain ⟨v9, g8, hp, hB⟩ := s_bd2 hB
        refine s_Fin.cl (d := 4) (q1 := s_m176) (md := 176) (vs := [.ref 130, .int (3 : Int32)]) (rest := []) (h1 := s_hg g8) (u := some (.int v9)) (s_Ev.up (by omega) (fM_bad_130_s hp)) rfl rfl rfl rfl ?_
        have hc : v9 = 0 ∨ v9 = 1 := Classical.byContradiction fun h => (by rw [if_neg h] at hB; cases hB)
        rw [if_pos hc] at hB
        have hB := Option.some.inj hB
        subst hB
        obtain ⟨rfl, rfl⟩ := hr
        exact s_Fin.rt (by rcases hc with hc | hc <;> rw [hc] <;> exact rfl) rfl
      · rw [if_neg hc] at hB
        refine s_Fin.bt (c := ¬ v7 = (-1 : Int32)) (tg := 86) (p2 := 77) (L1 := [some (.ref 130), some (.int t0), none, none]) (st1 := []) hc rfl ?_
        exact s_Fin.more (L := [some (.ref 130), some (.int t0), none, none]) ⟨Or.inr rfl, Or.inr rfl, Or.inl rfl, Or.inl rfl, trivial⟩ (fM_readBookLine_130_86_s hB hr)
  · rw [if_neg hc] at hB
    refine s_Fin.bt (c := ¬ t0 = 0) (tg := 86) (p2 := 42) (L1 := [some (.ref 130), some (.int t0), none, none]) (st1 := []) hc rfl ?_
    exact s_Fin.more (L := [some (.ref 130), some (.int t0), none, none]) ⟨Or.inr rfl, Or.inr rfl, Or.inl rfl, Or.inl rfl, trivial⟩ (fM_readBookLine_130_86_s hB hr)
noncomputable def fM_readBookLine_130 (g : s_G) : Option (Int32 × s_G) :=
  s_b1 (fM_isWord_130 (14 : Int32) g) fun v1 => if v1 = 0 then (s_b1 (fM_isWord_130 (15 : Int32) g) fun v2 => if v2 = 0 then (s_b1 (fM_isWord_130 (16 : Int32) g) fun v3 => if v3 = 0 then (fM_readBookLine_130_40 (0 : Int32) g)
  else fM_readBookLine_130_40 (5 : Int32) g)
  else fM_readBookLine_130_40 (4 : Int32) g)
  else fM_readBookLine_130_40 (3 : Int32) g
theorem fM_readBookLine_130_s {g : s_G} {z : Int32 × s_G} (hB : fM_readBookLine_130 g = some z) : s_Ev 5 s_m260 [.ref 130] (s_hg g) (some (.int z.1)) (s_hg z.2) := by
  unfold fM_readBookLine_130 at hB
  refine s_Ev.fin ((?_ : ∀ (v : Option Value) (h' : s_H), (fun (z : Int32 × s_G) (v : Option Value) (h' : s_H) => v = some (.int z.1) ∧ h' = s_hg z.2) z v h' → s_Fin 5 s_m260 (0, s_ent [.ref 130] (s_m260).2.2.1, [], s_hg g) v h') _ _ ⟨rfl, rfl⟩)
  intro v h' hr
  refine (show s_Fin 5 s_m260 (0, [some (.ref 130), none, none, none], [], s_hg g) v h' from ?_)
  refine s_Fin.sg 2 (y := (3, [some (.ref 130), none, none, none], [.int (14 : Int32), .ref 130], s_hg g)) rfl ?_
  obtain ⟨v1, hp, hB⟩ := s_bd hB
  refine s_Fin.cl (d := 4) (q1 := s_m171) (md := 171) (vs := [.ref 130, .int (14 : Int32)]) (rest := []) (h1 := s_hg g) (u := some (.int v1)) (s_Ev.up (by omega) (fM_isWord_130_s hp)) rfl rfl rfl rfl ?_
  by_cases hc : v1 = 0
  · rw [if_pos hc] at hB
    refine s_Fin.bt (c := v1 = 0) (tg := 13) (p2 := 6) (L1 := [some (.ref 130), none, none, none]) (st1 := []) hc rfl ?_
    refine s_Fin.sg 2 (y := (16, [some (.ref 130), none, none, none], [.int (15 : Int32), .ref 130], s_hg g)) rfl ?_
    obtain ⟨v2, hp, hB⟩ := s_bd hB
    refine s_Fin.cl (d := 4) (q1 := s_m171) (md := 171) (vs := [.ref 130, .int (15 : Int32)]) (rest := []) (h1 := s_hg g) (u := some (.int v2)) (s_Ev.up (by omega) (fM_isWord_130_s hp)) rfl rfl rfl rfl ?_
    by_cases hc : v2 = 0
    · rw [if_pos hc] at hB
      refine s_Fin.bt (c := v2 = 0) (tg := 26) (p2 := 19) (L1 := [some (.ref 130), none, none, none]) (st1 := []) hc rfl ?_
      refine s_Fin.sg 2 (y := (29, [some (.ref 130), none, none, none], [.int (16 : Int32), .ref 130], s_hg g)) rfl ?_
      obtain ⟨v3, hp, hB⟩ := s_bd hB
      refine s_Fin.cl (d := 4) (q1 := s_m171) (md := 171) (vs := [.ref 130, .int (16 : Int32)]) (rest := []) (h1 := s_hg g) (u := some (.int v3)) (s_Ev.up (by omega) (fM_isWord_130_s hp)) rfl rfl rfl rfl ?_
      by_cases hc : v3 = 0
      · rw [if_pos hc] at hB
        refine s_Fin.bt (c := v3 = 0) (tg := 39) (p2 := 32) (L1 := [some (.ref 130), none, none, none]) (st1 := []) hc rfl ?_
        refine s_Fin.sg 1 (y := (40, [some (.ref 130), none, none, none], [.int (0 : Int32)], s_hg g)) rfl ?_
        exact s_Fin.more (L := [some (.ref 130), none, none, none]) ⟨Or.inr rfl, Or.inl rfl, Or.inl rfl, Or.inl rfl, trivial⟩ (fM_readBookLine_130_40_s hB hr)
      · rw [if_neg hc] at hB
        refine s_Fin.bf (c := v3 = 0) (tg := 39) (p2 := 32) (L1 := [some (.ref 130), none, none, none]) (st1 := []) hc rfl ?_
        refine s_Fin.sg 2 (y := (40, [some (.ref 130), none, none, none], [.int (5 : Int32)], s_hg g)) rfl ?_
        exact s_Fin.more (L := [some (.ref 130), none, none, none]) ⟨Or.inr rfl, Or.inl rfl, Or.inl rfl, Or.inl rfl, trivial⟩ (fM_readBookLine_130_40_s hB hr)
    · rw [if_neg hc] at hB
      refine s_Fin.bf (c := v2 = 0) (tg := 26) (p2 := 19) (L1 := [some (.ref 130), none, none, none]) (st1 := []) hc rfl ?_
      refine s_Fin.sg 2 (y := (40, [some (.ref 130), none, none, none], [.int (4 : Int32)], s_hg g)) rfl ?_
      exact s_Fin.more (L := [some (.ref 130), none, none, none]) ⟨Or.inr rfl, Or.inl rfl, Or.inl rfl, Or.inl rfl, trivial⟩ (fM_readBookLine_130_40_s hB hr)
  · rw [if_neg hc] at hB
    refine s_Fin.bf (c := v1 = 0) (tg := 13) (p2 := 6) (L1 := [some (.ref 130), none, none, none]) (st1 := []) hc rfl ?_
    refine s_Fin.sg 2 (y := (40, [some (.ref 130), none, none, none], [.int (3 : Int32)], s_hg g)) rfl ?_
    exact s_Fin.more (L := [some (.ref 130), none, none, none]) ⟨Or.inr rfl, Or.inl rfl, Or.inl rfl, Or.inl rfl, trivial⟩ (fM_readBookLine_130_40_s hB hr)
