-- CampAshesModel.isKind
noncomputable def fM_isKind_130_23 (x1 : Int32) (g : s_G) : Option (Int32 × s_G) :=
  if (10 : Int32) < x1 then (s_b2 (fM_bad_130 (1 : Int32) g) fun v2 g1 => if v2 = 0 ∨ v2 = 1 then some (v2, g1)
  else none)
  else some ((1 : Int32), (s_si g 130 13 (x1 - (7 : Int32))))
theorem fM_isKind_130_23_s {x1 : Int32} {g : s_G} {z : Int32 × s_G} (hB : fM_isKind_130_23 x1 g = some z) {v : Option Value} {h' : s_H} (hr : (fun (z : Int32 × s_G) (v : Option Value) (h' : s_H) => v = some (.int z.1) ∧ h' = s_hg z.2) z v h') : s_Fin 3 s_m185 (23, [some (.ref 130), some (.int x1)], [], s_hg g) v h' := by
  unfold fM_isKind_130_23 at hB
  refine s_Fin.sg 2 (y := (26, [some (.ref 130), some (.int x1)], [.int (10 : Int32), .int x1], s_hg g)) rfl ?_
  by_cases hc : (10 : Int32) < x1
  · rw [if_pos hc] at hB
    refine s_Fin.bf (c := x1 ≤ (10 : Int32)) (tg := 35) (p2 := 26) (L1 := [some (.ref 130), some (.int x1)]) (st1 := []) (Int32.not_le.mpr hc) rfl ?_
    refine s_Fin.sg 2 (y := (31, [some (.ref 130), some (.int x1)], [.int (1 : Int32), .ref 130], s_hg g)) rfl ?_
    obtain ⟨v2, g1, hp, hB⟩ := s_bd2 hB
    refine s_Fin.cl (d := 2) (q1 := s_m176) (md := 176) (vs := [.ref 130, .int (1 : Int32)]) (rest := []) (h1 := s_hg g1) (u := some (.int v2)) (s_Ev.up (by omega) (fM_bad_130_s hp)) rfl rfl rfl rfl ?_
    have hc : v2 = 0 ∨ v2 = 1 := Classical.byContradiction fun h => (by rw [if_neg h] at hB; cases hB)
    rw [if_pos hc] at hB
    have hB := Option.some.inj hB
    subst hB
    obtain ⟨rfl, rfl⟩ := hr
    exact s_Fin.rt (by rcases hc with hc | hc <;> rw [hc] <;> exact rfl) rfl
  · rw [if_neg hc] at hB
    refine s_Fin.bt (c := x1 ≤ (10 : Int32)) (tg := 35) (p2 := 26) (L1 := [some (.ref 130), some (.int x1)]) (st1 := []) (Int32.not_lt.mp hc) rfl ?_
    refine s_Fin.sg 6 (y := (44, [some (.ref 130), some (.int x1)], [.int (1 : Int32)], s_hg (s_si g 130 13 (x1 - (7 : Int32))))) rfl ?_
    have hB := Option.some.inj hB
    subst hB
    obtain ⟨rfl, rfl⟩ := hr
    exact s_Fin.rt rfl rfl
noncomputable def fM_isKind_130_3 (x1 : Int32) (g : s_G) : Option ((Int32) ⊕ (Int32 × s_G)) :=
  if (10 : Int32) < x1 then (s_in (fM_isKind_130_23 x1 g))
  else s_b1 (fM_isWord_130 x1 g) fun v3 => if v3 = 0 then (some (.inl (x1 + (1 : Int32))))
  else s_in (fM_isKind_130_23 x1 g)
theorem fM_isKind_130_3_s {x1 : Int32} {g : s_G} {z : (Int32) ⊕ (Int32 × s_G)} (hB : fM_isKind_130_3 x1 g = some z) {v : Option Value} {h' : s_H} (hr : (s_sm (fun (x : Int32) (v : Option Value) (h' : s_H) => s_Fin 3 s_m185 (3, [some (.ref 130), some (.int x)], [], s_hg g) v h') (fun (z : Int32 × s_G) (v : Option Value) (h' : s_H) => v = some (.int z.1) ∧ h' = s_hg z.2)) z v h') : s_Fin 3 s_m185 (3, [some (.ref 130), some (.int x1)], [], s_hg g) v h' := by
  unfold fM_isKind_130_3 at hB
  refine s_Fin.sg 2 (y := (6, [some (.ref 130), some (.int x1)], [.int (10 : Int32), .int x1], s_hg g)) rfl ?_
  by_cases hc : (10 : Int32) < x1
  · rw [if_pos hc] at hB
    refine s_Fin.bt (c := (10 : Int32) < x1) (tg := 23) (p2 := 6) (L1 := [some (.ref 130), some (.int x1)]) (st1 := []) hc rfl ?_
    obtain ⟨_, hN, hz⟩ := s_in_of hB
    subst hz
    have hB := hN
    exact s_Fin.more (L := [some (.ref 130), some (.int x1)]) ⟨Or.inr rfl, Or.inr rfl, trivial⟩ (fM_isKind_130_23_s hB hr)
  · rw [if_neg hc] at hB
    refine s_Fin.bf (c := (10 : Int32) < x1) (tg := 23) (p2 := 6) (L1 := [some (.ref 130), some (.int x1)]) (st1 := []) hc rfl ?_
    refine s_Fin.sg 2 (y := (11, [some (.ref 130), some (.int x1)], [.int x1, .ref 130], s_hg g)) rfl ?_
    obtain ⟨v3, hp, hB⟩ := s_bd hB
    refine s_Fin.cl (d := 2) (q1 := s_m171) (md := 171) (vs := [.ref 130, .int x1]) (rest := []) (h1 := s_hg g) (u := some (.int v3)) (s_Ev.up (by omega) (fM_isWord_130_s hp)) rfl rfl rfl rfl ?_
    by_cases hc : v3 = 0
    · rw [if_pos hc] at hB
      refine s_Fin.bf (c := ¬ v3 = 0) (tg := 23) (p2 := 14) (L1 := [some (.ref 130), some (.int x1)]) (st1 := []) (fun h => h hc) rfl ?_
      refine s_Fin.sg 2 (y := (3, [some (.ref 130), some (.int (x1 + (1 : Int32)))], [], s_hg g)) rfl ?_
      have hB := Option.some.inj hB
      subst hB
      exact s_Fin.more (L := [some (.ref 130), some (.int (x1 + (1 : Int32)))]) ⟨Or.inr rfl, Or.inr rfl, trivial⟩ hr
    · rw [if_neg hc] at hB
      refine s_Fin.bt (c := ¬ v3 = 0) (tg := 23) (p2 := 14) (L1 := [some (.ref 130), some (.int x1)]) (st1 := []) hc rfl ?_
      obtain ⟨_, hN, hz⟩ := s_in_of hB
      subst hz
      have hB := hN
      exact s_Fin.more (L := [some (.ref 130), some (.int x1)]) ⟨Or.inr rfl, Or.inr rfl, trivial⟩ (fM_isKind_130_23_s hB hr)
noncomputable def fM_isKind_130 (g : s_G) : Option (Int32 × s_G) :=
  s_lp (fun x => fM_isKind_130_3 x g) (7 : Int32)
theorem fM_isKind_130_s {g : s_G} {z : Int32 × s_G} (hB : fM_isKind_130 g = some z) : s_Ev 3 s_m185 [.ref 130] (s_hg g) (some (.int z.1)) (s_hg z.2) := by
  unfold fM_isKind_130 at hB
  refine s_Ev.fin ((?_ : ∀ (v : Option Value) (h' : s_H), (fun (z : Int32 × s_G) (v : Option Value) (h' : s_H) => v = some (.int z.1) ∧ h' = s_hg z.2) z v h' → s_Fin 3 s_m185 (0, s_ent [.ref 130] (s_m185).2.2.1, [], s_hg g) v h') _ _ ⟨rfl, rfl⟩)
  intro v h' hr
  refine (show s_Fin 3 s_m185 (0, [some (.ref 130), none], [], s_hg g) v h' from ?_)
  refine s_Fin.sg 2 (y := (3, [some (.ref 130), some (.int (7 : Int32))], [], s_hg g)) rfl ?_
  exact s_Fin.more (L := [some (.ref 130), some (.int (7 : Int32))]) ⟨Or.inr rfl, Or.inr rfl, trivial⟩ (s_lp_s (P := (fun (x : Int32) (v : Option Value) (h' : s_H) => s_Fin 3 s_m185 (3, [some (.ref 130), some (.int x)], [], s_hg g) v h')) (Q := (fun (z : Int32 × s_G) (v : Option Value) (h' : s_H) => v = some (.int z.1) ∧ h' = s_hg z.2)) (fun x z hB v h' hr => fM_isKind_130_3_s hB hr) hB _ _ hr)
-- CampAshesModel.readTakes
noncomputable def fM_readTakes_130 (g : s_G) : Option (Int32 × s_G) :=
  s_b1 (fM_go_130 g) fun g1 => s_b2 (fM_isKind_130 g1) fun v3 g2 => if v3 = 0 then (some ((0 : Int32), g2))
  else s_b1 (s_ix 4 (g2.1 130 13)) fun k5 => if (g2.1 142 k5) = 0 then (s_b1 (fM_go_130 (s_si g2 142 k5 ((1 : Int32) &&& 1))) fun g7 => s_b2 (fM_readNumber_130 (0 : Int32) (9 : Int32) g7) fun v9 g8 => s_b2 (fM_put_130 ((6 : Int32) + (g2.1 130 13)) v9 g8) fun v11 g10 => if v11 = 0 ∨ v11 = 1 then some (v11, g10)
  else none)
  else s_b2 (fM_bad_130 (3 : Int32) g2) fun v13 g12 => if v13 = 0 ∨ v13 = 1 then some (v13, g12)
  else none
theorem fM_readTakes_130_s {g : s_G} {z : Int32 × s_G} (hB : fM_readTakes_130 g = some z) : s_Ev 4 s_m186 [.ref 130] (s_hg g) (some (.int z.1)) (s_hg z.2) := by
  unfold fM_readTakes_130 at hB
  refine s_Ev.fin ((?_ : ∀ (v : Option Value) (h' : s_H), (fun (z : Int32 × s_G) (v : Option Value) (h' : s_H) => v = some (.int z.1) ∧ h' = s_hg z.2) z v h' → s_Fin 4 s_m186 (0, s_ent [.ref 130] (s_m186).2.2.1, [], s_hg g) v h') _ _ ⟨rfl, rfl⟩)
  intro v h' hr
  refine (show s_Fin 4 s_m186 (0, [some (.ref 130), none], [], s_hg g) v h' from ?_)
  refine s_Fin.sg 1 (y := (1, [some (.ref 130), none], [.ref 130], s_hg g)) rfl ?_
  obtain ⟨g1, hp, hB⟩ := s_bd hB
  refine s_Fin.cl (d := 3) (q1 := s_m166) (md := 166) (vs := [.ref 130]) (rest := []) (h1 := s_hg g1) (u := none) (s_Ev.up (by omega) (fM_go_130_s hp)) rfl rfl rfl rfl ?_
  refine s_Fin.sg 1 (y := (5, [some (.ref 130), none], [.ref 130], s_hg g1)) rfl ?_
  obtain ⟨v3, g2, hp, hB⟩ := s_bd2 hB
  refine s_Fin.cl (d := 3) (q1 := s_m185) (md := 185) (vs := [.ref 130]) (rest := []) (h1 := s_hg g2) (u := some (.int v3)) (s_Ev.up (by omega) (fM_isKind_130_s hp)) rfl rfl rfl rfl ?_
  by_cases hc : v3 = 0
  · rw [if_pos hc] at hB
    refine s_Fin.bf (c := ¬ v3 = 0) (tg := 13) (p2 := 8) (L1 := [some (.ref 130), none]) (st1 := []) (fun h => h hc) rfl ?_
    refine s_Fin.sg 1 (y := (12, [some (.ref 130), none], [.int (0 : Int32)], s_hg g2)) rfl ?_
    have hB := Option.some.inj hB
    subst hB
    obtain ⟨rfl, rfl⟩ := hr
    exact s_Fin.rt rfl rfl
  · rw [if_neg hc] at hB
    refine s_Fin.bt (c := ¬ v3 = 0) (tg := 13) (p2 := 8) (L1 := [some (.ref 130), none]) (st1 := []) hc rfl ?_
    refine s_Fin.sg 6 (y := (23, [some (.ref 130), some (.int (g2.1 130 13))], [.int (g2.1 130 13), .ref 142], s_hg g2)) rfl ?_
    obtain ⟨k5, hk5, hB⟩ := s_bd hB
    refine s_Fin.ix (n := 4) (i := g2.1 130 13) (pc1 := 24) (L1 := [some (.ref 130), some (.int (g2.1 130 13))]) (fun j4 => [.int (g2.1 142 j4)]) (fun j4 => s_hg g2) hk5 rfl rfl ?_
    by_cases hc : (g2.1 142 k5) = 0
    · rw [if_pos hc] at hB
      refine s_Fin.bt (c := (g2.1 142 k5) = 0) (tg := 33) (p2 := 24) (L1 := [some (.ref 130), some (.int (g2.1 130 13))]) (st1 := []) hc rfl ?_
      refine s_Fin.sg 4 (y := (39, [some (.ref 130), some (.int (g2.1 130 13))], [.int (1 : Int32), .int (g2.1 130 13), .ref 142], s_hg g2)) rfl ?_
      refine s_Fin.ix (n := 4) (i := g2.1 130 13) (pc1 := 40) (L1 := [some (.ref 130), some (.int (g2.1 130 13))]) (fun j6 => []) (fun j6 => s_hg (s_si g2 142 j6 ((1 : Int32) &&& 1))) hk5 rfl rfl ?_
      refine s_Fin.sg 1 (y := (41, [some (.ref 130), some (.int (g2.1 130 13))], [.ref 130], s_hg (s_si g2 142 k5 ((1 : Int32) &&& 1)))) rfl ?_
      obtain ⟨g7, hp, hB⟩ := s_bd hB
      refine s_Fin.cl (d := 3) (q1 := s_m166) (md := 166) (vs := [.ref 130]) (rest := []) (h1 := s_hg g7) (u := none) (s_Ev.up (by omega) (fM_go_130_s hp)) rfl rfl rfl rfl ?_
      refine s_Fin.sg 7 (y := (53, [some (.ref 130), some (.int (g2.1 130 13))], [.int (9 : Int32), .int (0 : Int32), .ref 130, .int ((6 : Int32) + (g2.1 130 13)), .ref 130], s_hg g7)) rfl ?_
      obtain ⟨v9, g8, hp, hB⟩ := s_bd2 hB
      refine s_Fin.cl (d := 3) (q1 := s_m180) (md := 180) (vs := [.ref 130, .int (0 : Int32), .int (9 : Int32)]) (rest := [.int ((6 : Int32) + (g2.1 130 13)), .ref 130]) (h1 := s_hg g8) (u := some (.int v9)) (s_Ev.up (by omega) (fM_readNumber_130_s hp)) rfl rfl rfl rfl ?_
      obtain ⟨v11, g10, hp, hB⟩ := s_bd2 hB
      refine s_Fin.cl (d := 3) (q1 := s_m182) (md := 182) (vs := [.ref 130, .int ((6 : Int32) + (g2.1 130 13)), .int v9]) (rest := []) (h1 := s_hg g10) (u := some (.int v11)) (s_Ev.up (by omega) (fM_put_130_s hp)) rfl rfl rfl rfl ?_
      have hc : v11 = 0 ∨ v11 = 1 := Classical.byContradiction fun h => (by rw [if_neg h] at hB; cases hB)
      rw [if_pos hc] at hB
      have hB := Option.some.inj hB
      subst hB
      obtain ⟨rfl, rfl⟩ := hr
      exact s_Fin.rt (by rcases hc with hc | hc <;> rw [hc] <;> exact rfl) rfl
    · rw [if_neg hc] at hB
      refine s_Fin.bf (c := (g2.1 142 k5) = 0) (tg := 33) (p2 := 24) (L1 := [some (.ref 130), some (.int (g2.1 130 13))]) (st1 := []) hc rfl ?_
      refine s_Fin.sg 2 (y := (29, [some (.ref 130), some (.int (g2.1 130 13))], [.int (3 : Int32), .ref 130], s_hg g2)) rfl ?_
      obtain ⟨v13, g12, hp, hB⟩ := s_bd2 hB
      refine s_Fin.cl (d := 3) (q1 := s_m176) (md := 176) (vs := [.ref 130, .int (3 : Int32)]) (rest := []) (h1 := s_hg g12) (u := some (.int v13)) (s_Ev.up (by omega) (fM_bad_130_s hp)) rfl rfl rfl rfl ?_
      have hc : v13 = 0 ∨ v13 = 1 := Classical.byContradiction fun h => (by rw [if_neg h] at hB; cases hB)
      rw [if_pos hc] at hB
      have hB := Option.some.inj hB
      subst hB
      obtain ⟨rfl, rfl⟩ := hr
      exact s_Fin.rt (by rcases hc with hc | hc <;> rw [hc] <;> exact rfl) rfl
-- CampAshesModel.readFirst
noncomputable def fM_readFirst_130 (x1 : Int32) (x2 : Int32) (g : s_G) : Option (Int32 × s_G) :=
  s_b1 (s_ix 47 x1) fun k2 => if (g.1 133 k2) = x2 then (s_b2 (fM_bad_130 (4 : Int32) g) fun v4 g3 => if v4 = 0 ∨ v4 = 1 then some (v4, g3)
  else none)
  else s_b1 (fM_go_130 g) fun g5 => some ((1 : Int32), g5)
theorem fM_readFirst_130_s {x1 : Int32} {x2 : Int32} {g : s_G} {z : Int32 × s_G} (hB : fM_readFirst_130 x1 x2 g = some z) : s_Ev 2 s_m175 [.ref 130, .int x1, .int x2] (s_hg g) (some (.int z.1)) (s_hg z.2) := by
  unfold fM_readFirst_130 at hB
  refine s_Ev.fin ((?_ : ∀ (v : Option Value) (h' : s_H), (fun (z : Int32 × s_G) (v : Option Value) (h' : s_H) => v = some (.int z.1) ∧ h' = s_hg z.2) z v h' → s_Fin 2 s_m175 (0, s_ent [.ref 130, .int x1, .int x2] (s_m175).2.2.1, [], s_hg g) v h') _ _ ⟨rfl, rfl⟩)
  intro v h' hr
  refine (show s_Fin 2 s_m175 (0, [some (.ref 130), some (.int x1), some (.int x2)], [], s_hg g) v h' from ?_)
  refine s_Fin.sg 3 (y := (5, [some (.ref 130), some (.int x1), some (.int x2)], [.int x1, .ref 133], s_hg g)) rfl ?_
  obtain ⟨k2, hk2, hB⟩ := s_bd hB
  refine s_Fin.ix (n := 47) (i := x1) (pc1 := 6) (L1 := [some (.ref 130), some (.int x1), some (.int x2)]) (fun j1 => [.int (g.1 133 j1)]) (fun j1 => s_hg g) hk2 rfl rfl ?_
  refine s_Fin.sg 1 (y := (7, [some (.ref 130), some (.int x1), some (.int x2)], [.int x2, .int (g.1 133 k2)], s_hg g)) rfl ?_
  by_cases hc : (g.1 133 k2) = x2
  · rw [if_pos hc] at hB
    refine s_Fin.bf (c := ¬ (g.1 133 k2) = x2) (tg := 16) (p2 := 7) (L1 := [some (.ref 130), some (.int x1), some (.int x2)]) (st1 := []) (fun h => h hc) rfl ?_
    refine s_Fin.sg 2 (y := (12, [some (.ref 130), some (.int x1), some (.int x2)], [.int (4 : Int32), .ref 130], s_hg g)) rfl ?_
    obtain ⟨v4, g3, hp, hB⟩ := s_bd2 hB
    refine s_Fin.cl (d := 1) (q1 := s_m176) (md := 176) (vs := [.ref 130, .int (4 : Int32)]) (rest := []) (h1 := s_hg g3) (u := some (.int v4)) (s_Ev.up (by omega) (fM_bad_130_s hp)) rfl rfl rfl rfl ?_
    have hc : v4 = 0 ∨ v4 = 1 := Classical.byContradiction fun h => (by rw [if_neg h] at hB; cases hB)
    rw [if_pos hc] at hB
    have hB := Option.some.inj hB
    subst hB
    obtain ⟨rfl, rfl⟩ := hr
    exact s_Fin.rt (by rcases hc with hc | hc <;> rw [hc] <;> exact rfl) rfl
  · rw [if_neg hc] at hB
    refine s_Fin.bt (c := ¬ (g.1 133 k2) = x2) (tg := 16) (p2 := 7) (L1 := [some (.ref 130), some (.int x1), some (.int x2)]) (st1 := []) hc rfl ?_
    refine s_Fin.sg 1 (y := (17, [some (.ref 130), some (.int x1), some (.int x2)], [.ref 130], s_hg g)) rfl ?_
    obtain ⟨g5, hp, hB⟩ := s_bd hB
    refine s_Fin.cl (d := 1) (q1 := s_m166) (md := 166) (vs := [.ref 130]) (rest := []) (h1 := s_hg g5) (u := none) (s_Ev.up (by omega) (fM_go_130_s hp)) rfl rfl rfl rfl ?_
    refine s_Fin.sg 1 (y := (21, [some (.ref 130), some (.int x1), some (.int x2)], [.int (1 : Int32)], s_hg g5)) rfl ?_
    have hB := Option.some.inj hB
    subst hB
    obtain ⟨rfl, rfl⟩ := hr
    exact s_Fin.rt rfl rfl
-- CampAshesModel.isName
noncomputable def fM_isName_130_12 (x1 : Int32) (g : s_G) : Option ((Int32) ⊕ (Int32)) :=
  if (28 : Int32) < x1 then (s_in (some (1 : Int32)))
  else s_b1 (fM_wordOf_s x1 g) fun v1 => if (lg_cmp (g.2.1 130 12) v1) = 0 then (s_in (some (0 : Int32)))
  else some (.inl (x1 + (1 : Int32)))
theorem fM_isName_130_12_s {x1 : Int32} {g : s_G} {z : (Int32) ⊕ (Int32)} (hB : fM_isName_130_12 x1 g = some z) {v : Option Value} {h' : s_H} (hr : (s_sm (fun (x : Int32) (v : Option Value) (h' : s_H) => s_Fin 2 s_m178 (12, [some (.ref 130), some (.int x)], [], s_hg g) v h') (fun (z : Int32) (v : Option Value) (h' : s_H) => v = some (.int z) ∧ h' = s_hg g)) z v h') : s_Fin 2 s_m178 (12, [some (.ref 130), some (.int x1)], [], s_hg g) v h' := by
  unfold fM_isName_130_12 at hB
  refine s_Fin.sg 2 (y := (15, [some (.ref 130), some (.int x1)], [.int (28 : Int32), .int x1], s_hg g)) rfl ?_
  by_cases hc : (28 : Int32) < x1
  · rw [if_pos hc] at hB
    refine s_Fin.bt (c := (28 : Int32) < x1) (tg := 38) (p2 := 15) (L1 := [some (.ref 130), some (.int x1)]) (st1 := []) hc rfl ?_
    obtain ⟨_, hN, hz⟩ := s_in_of hB
    subst hz
    have hB := hN
    refine s_Fin.sg 1 (y := (39, [some (.ref 130), some (.int x1)], [.int (1 : Int32)], s_hg g)) rfl ?_
    have hB := Option.some.inj hB
    subst hB
    obtain ⟨rfl, rfl⟩ := hr
    exact s_Fin.rt rfl rfl
  · rw [if_neg hc] at hB
    refine s_Fin.bf (c := (28 : Int32) < x1) (tg := 38) (p2 := 15) (L1 := [some (.ref 130), some (.int x1)]) (st1 := []) hc rfl ?_
    refine s_Fin.sg 3 (y := (23, [some (.ref 130), some (.int x1)], [.int x1, .long (g.2.1 130 12)], s_hg g)) rfl ?_
    obtain ⟨v1, hp, hB⟩ := s_bd hB
    refine s_Fin.cl (d := 1) (q1 := s_m172) (md := 172) (vs := [.int x1]) (rest := [.long (g.2.1 130 12)]) (h1 := s_hg g) (u := some (.long v1)) (s_Ev.up (by omega) (fM_wordOf_s_s hp)) rfl rfl rfl rfl ?_
    refine s_Fin.sg 1 (y := (27, [some (.ref 130), some (.int x1)], [.int (lg_cmp (g.2.1 130 12) v1)], s_hg g)) rfl ?_
    by_cases hc : (lg_cmp (g.2.1 130 12) v1) = 0
    · rw [if_pos hc] at hB
      refine s_Fin.bf (c := ¬ (lg_cmp (g.2.1 130 12) v1) = 0) (tg := 32) (p2 := 27) (L1 := [some (.ref 130), some (.int x1)]) (st1 := []) (fun h => h hc) rfl ?_
      obtain ⟨_, hN, hz⟩ := s_in_of hB
      subst hz
      have hB := hN
      refine s_Fin.sg 1 (y := (31, [some (.ref 130), some (.int x1)], [.int (0 : Int32)], s_hg g)) rfl ?_
      have hB := Option.some.inj hB
      subst hB
      obtain ⟨rfl, rfl⟩ := hr
      exact s_Fin.rt rfl rfl
    · rw [if_neg hc] at hB
      refine s_Fin.bt (c := ¬ (lg_cmp (g.2.1 130 12) v1) = 0) (tg := 32) (p2 := 27) (L1 := [some (.ref 130), some (.int x1)]) (st1 := []) hc rfl ?_
      refine s_Fin.sg 2 (y := (12, [some (.ref 130), some (.int (x1 + (1 : Int32)))], [], s_hg g)) rfl ?_
      have hB := Option.some.inj hB
      subst hB
      exact s_Fin.more (L := [some (.ref 130), some (.int (x1 + (1 : Int32)))]) ⟨Or.inr rfl, Or.inr rfl, trivial⟩ hr
noncomputable def fM_isName_130 (g : s_G) : Option (Int32) :=
  if (g.1 130 7) = (2 : Int32) then (s_lp (fun x => fM_isName_130_12 x g) (0 : Int32))
  else some (0 : Int32)
theorem fM_isName_130_s {g : s_G} {z : Int32} (hB : fM_isName_130 g = some z) : s_Ev 2 s_m178 [.ref 130] (s_hg g) (some (.int z)) (s_hg g) := by
  unfold fM_isName_130 at hB
  refine s_Ev.fin ((?_ : ∀ (v : Option Value) (h' : s_H), (fun (z : Int32) (v : Option Value) (h' : s_H) => v = some (.int z) ∧ h' = s_hg g) z v h' → s_Fin 2 s_m178 (0, s_ent [.ref 130] (s_m178).2.2.1, [], s_hg g) v h') _ _ ⟨rfl, rfl⟩)
  intro v h' hr
  refine (show s_Fin 2 s_m178 (0, [some (.ref 130), none], [], s_hg g) v h' from ?_)
  refine s_Fin.sg 3 (y := (5, [some (.ref 130), none], [.int (2 : Int32), .int (g.1 130 7)], s_hg g)) rfl ?_
  by_cases hc : (g.1 130 7) = (2 : Int32)
  · rw [if_pos hc] at hB
    refine s_Fin.bt (c := (g.1 130 7) = (2 : Int32)) (tg := 10) (p2 := 5) (L1 := [some (.ref 130), none]) (st1 := []) hc rfl ?_
    refine s_Fin.sg 2 (y := (12, [some (.ref 130), some (.int (0 : Int32))], [], s_hg g)) rfl ?_
    exact s_Fin.more (L := [some (.ref 130), some (.int (0 : Int32))]) ⟨Or.inr rfl, Or.inr rfl, trivial⟩ (s_lp_s (P := (fun (x : Int32) (v : Option Value) (h' : s_H) => s_Fin 2 s_m178 (12, [some (.ref 130), some (.int x)], [], s_hg g) v h')) (Q := (fun (z : Int32) (v : Option Value) (h' : s_H) => v = some (.int z) ∧ h' = s_hg g)) (fun x z hB v h' hr => fM_isName_130_12_s hB hr) hB _ _ hr)
  · rw [if_neg hc] at hB
    refine s_Fin.bf (c := (g.1 130 7) = (2 : Int32)) (tg := 10) (p2 := 5) (L1 := [some (.ref 130), none]) (st1 := []) hc rfl ?_
    refine s_Fin.sg 1 (y := (9, [some (.ref 130), none], [.int (0 : Int32)], s_hg g)) rfl ?_
    have hB := Option.some.inj hB
    subst hB
    obtain ⟨rfl, rfl⟩ := hr
    exact s_Fin.rt rfl rfl
-- CampAshesModel.findIn
noncomputable def fM_findIn_138_3 (x1 : Int32) (x2 : Int32) (x3 : Int64) (x5 : Int32) (g : s_G) : Option ((Int32) ⊕ (Int32)) :=
  if x5 < x2 then (s_b1 (s_ix 17 (x1 + x5)) fun k2 => if (lg_cmp (g.2.1 138 k2) x3) = 0 then (s_in (some x5))
  else some (.inl (x5 + (1 : Int32))))
  else s_in (some (-1 : Int32))
theorem fM_findIn_138_3_s {x1 : Int32} {x2 : Int32} {x3 : Int64} {x5 : Int32} {g : s_G} {z : (Int32) ⊕ (Int32)} (hB : fM_findIn_138_3 x1 x2 x3 x5 g = some z) {v : Option Value} {h' : s_H} (hr : (s_sm (fun (x : Int32) (v : Option Value) (h' : s_H) => s_Fin 0 s_m179 (3, [some (.ref 138), some (.int x1), some (.int x2), some (.long x3), none, some (.int x)], [], s_hg g) v h') (fun (z : Int32) (v : Option Value) (h' : s_H) => v = some (.int z) ∧ h' = s_hg g)) z v h') : s_Fin 0 s_m179 (3, [some (.ref 138), some (.int x1), some (.int x2), some (.long x3), none, some (.int x5)], [], s_hg g) v h' := by
  unfold fM_findIn_138_3 at hB
  refine s_Fin.sg 2 (y := (6, [some (.ref 138), some (.int x1), some (.int x2), some (.long x3), none, some (.int x5)], [.int x2, .int x5], s_hg g)) rfl ?_
  by_cases hc : x5 < x2
  · rw [if_pos hc] at hB
    refine s_Fin.bf (c := x2 ≤ x5) (tg := 29) (p2 := 6) (L1 := [some (.ref 138), some (.int x1), some (.int x2), some (.long x3), none, some (.int x5)]) (st1 := []) (Int32.not_le.mpr hc) rfl ?_
    refine s_Fin.sg 4 (y := (14, [some (.ref 138), some (.int x1), some (.int x2), some (.long x3), none, some (.int x5)], [.int (x1 + x5), .ref 138], s_hg g)) rfl ?_
    obtain ⟨k2, hk2, hB⟩ := s_bd hB
    refine s_Fin.ix (n := 17) (i := x1 + x5) (pc1 := 15) (L1 := [some (.ref 138), some (.int x1), some (.int x2), some (.long x3), none, some (.int x5)]) (fun j1 => [.long (g.2.1 138 j1)]) (fun j1 => s_hg g) hk2 rfl rfl ?_
    refine s_Fin.sg 2 (y := (17, [some (.ref 138), some (.int x1), some (.int x2), some (.long x3), none, some (.int x5)], [.int (lg_cmp (g.2.1 138 k2) x3)], s_hg g)) rfl ?_
    by_cases hc : (lg_cmp (g.2.1 138 k2) x3) = 0
    · rw [if_pos hc] at hB
      refine s_Fin.bf (c := ¬ (lg_cmp (g.2.1 138 k2) x3) = 0) (tg := 23) (p2 := 17) (L1 := [some (.ref 138), some (.int x1), some (.int x2), some (.long x3), none, some (.int x5)]) (st1 := []) (fun h => h hc) rfl ?_
      obtain ⟨_, hN, hz⟩ := s_in_of hB
      subst hz
      have hB := hN
      refine s_Fin.sg 1 (y := (22, [some (.ref 138), some (.int x1), some (.int x2), some (.long x3), none, some (.int x5)], [.int x5], s_hg g)) rfl ?_
      have hB := Option.some.inj hB
      subst hB
      obtain ⟨rfl, rfl⟩ := hr
      exact s_Fin.rt rfl rfl
    · rw [if_neg hc] at hB
      refine s_Fin.bt (c := ¬ (lg_cmp (g.2.1 138 k2) x3) = 0) (tg := 23) (p2 := 17) (L1 := [some (.ref 138), some (.int x1), some (.int x2), some (.long x3), none, some (.int x5)]) (st1 := []) hc rfl ?_
      refine s_Fin.sg 2 (y := (3, [some (.ref 138), some (.int x1), some (.int x2), some (.long x3), none, some (.int (x5 + (1 : Int32)))], [], s_hg g)) rfl ?_
      have hB := Option.some.inj hB
      subst hB
      exact s_Fin.more (L := [some (.ref 138), some (.int x1), some (.int x2), some (.long x3), none, some (.int (x5 + (1 : Int32)))]) ⟨Or.inr rfl, Or.inr rfl, Or.inr rfl, Or.inr rfl, Or.inl rfl, Or.inr rfl, trivial⟩ hr
  · rw [if_neg hc] at hB
    refine s_Fin.bt (c := x2 ≤ x5) (tg := 29) (p2 := 6) (L1 := [some (.ref 138), some (.int x1), some (.int x2), some (.long x3), none, some (.int x5)]) (st1 := []) (Int32.not_lt.mp hc) rfl ?_
    obtain ⟨_, hN, hz⟩ := s_in_of hB
    subst hz
    have hB := hN
    refine s_Fin.sg 1 (y := (30, [some (.ref 138), some (.int x1), some (.int x2), some (.long x3), none, some (.int x5)], [.int (-1 : Int32)], s_hg g)) rfl ?_
    have hB := Option.some.inj hB
    subst hB
    obtain ⟨rfl, rfl⟩ := hr
    exact s_Fin.rt rfl rfl
noncomputable def fM_findIn_138 (x1 : Int32) (x2 : Int32) (x3 : Int64) (g : s_G) : Option (Int32) :=
  s_lp (fun x => fM_findIn_138_3 x1 x2 x3 x g) (0 : Int32)
theorem fM_findIn_138_s {x1 : Int32} {x2 : Int32} {x3 : Int64} {g : s_G} {z : Int32} (hB : fM_findIn_138 x1 x2 x3 g = some z) : s_Ev 0 s_m179 [.ref 138, .int x1, .int x2, .long x3] (s_hg g) (some (.int z)) (s_hg g) := by
  unfold fM_findIn_138 at hB
  refine s_Ev.fin ((?_ : ∀ (v : Option Value) (h' : s_H), (fun (z : Int32) (v : Option Value) (h' : s_H) => v = some (.int z) ∧ h' = s_hg g) z v h' → s_Fin 0 s_m179 (0, s_ent [.ref 138, .int x1, .int x2, .long x3] (s_m179).2.2.1, [], s_hg g) v h') _ _ ⟨rfl, rfl⟩)
  intro v h' hr
  refine (show s_Fin 0 s_m179 (0, [some (.ref 138), some (.int x1), some (.int x2), some (.long x3), none, none], [], s_hg g) v h' from ?_)
  refine s_Fin.sg 2 (y := (3, [some (.ref 138), some (.int x1), some (.int x2), some (.long x3), none, some (.int (0 : Int32))], [], s_hg g)) rfl ?_
  exact s_Fin.more (L := [some (.ref 138), some (.int x1), some (.int x2), some (.long x3), none, some (.int (0 : Int32))]) ⟨Or.inr rfl, Or.inr rfl, Or.inr rfl, Or.inr rfl, Or.inl rfl, Or.inr rfl, trivial⟩ (s_lp_s (P := (fun (x : Int32) (v : Option Value) (h' : s_H) => s_Fin 0 s_m179 (3, [some (.ref 138), some (.int x1), some (.int x2), some (.long x3), none, some (.int x)], [], s_hg g) v h')) (Q := (fun (z : Int32) (v : Option Value) (h' : s_H) => v = some (.int z) ∧ h' = s_hg g)) (fun x z hB v h' hr => fM_findIn_138_3_s hB hr) hB _ _ hr)
-- CampAshesModel.readNew
noncomputable def fM_readNew_130 (x1 : Int32) (g : s_G) : Option (Int32 × s_G) :=
  s_b1 (fM_isName_130 g) fun v1 => if v1 = 0 then (s_b2 (fM_bad_130 (1 : Int32) g) fun v3 g2 => if v3 = 0 ∨ v3 = 1 then some (v3, g2)
  else none)
  else s_b1 (fM_findIn_138 (0 : Int32) (g.1 133 0) (g.2.1 130 12) g) fun v4 => if v4 = (-1 : Int32) then (s_b1 (fM_findIn_138 (7 : Int32) (g.1 133 1) (g.2.1 130 12) g) fun v5 => if v5 = (-1 : Int32) then (s_b1 (s_ix 17 x1) fun k7 => s_b1 (fM_go_130 (s_sl g 138 k7 (g.2.1 130 12))) fun g8 => some ((1 : Int32), g8))
  else s_b2 (fM_bad_130 (3 : Int32) g) fun v10 g9 => if v10 = 0 ∨ v10 = 1 then some (v10, g9)
  else none)
  else s_b2 (fM_bad_130 (3 : Int32) g) fun v12 g11 => if v12 = 0 ∨ v12 = 1 then some (v12, g11)
  else none
theorem fM_readNew_130_s {x1 : Int32} {g : s_G} {z : Int32 × s_G} (hB : fM_readNew_130 x1 g = some z) : s_Ev 3 s_m177 [.ref 130, .int x1] (s_hg g) (some (.int z.1)) (s_hg z.2) := by
  unfold fM_readNew_130 at hB
  refine s_Ev.fin ((?_ : ∀ (v : Option Value) (h' : s_H), (fun (z : Int32 × s_G) (v : Option Value) (h' : s_H) => v = some (.int z.1) ∧ h' = s_hg z.2) z v h' → s_Fin 3 s_m177 (0, s_ent [.ref 130, .int x1] (s_m177).2.2.1, [], s_hg g) v h') _ _ ⟨rfl, rfl⟩)
  intro v h' hr
  refine (show s_Fin 3 s_m177 (0, [some (.ref 130), some (.int x1)], [], s_hg g) v h' from ?_)
  refine s_Fin.sg 1 (y := (1, [some (.ref 130), some (.int x1)], [.ref 130], s_hg g)) rfl ?_
  obtain ⟨v1, hp, hB⟩ := s_bd hB
  refine s_Fin.cl (d := 2) (q1 := s_m178) (md := 178) (vs := [.ref 130]) (rest := []) (h1 := s_hg g) (u := some (.int v1)) (s_Ev.up (by omega) (fM_isName_130_s hp)) rfl rfl rfl rfl ?_
  by_cases hc : v1 = 0
  · rw [if_pos hc] at hB
    refine s_Fin.bf (c := ¬ v1 = 0) (tg := 13) (p2 := 4) (L1 := [some (.ref 130), some (.int x1)]) (st1 := []) (fun h => h hc) rfl ?_
    refine s_Fin.sg 2 (y := (9, [some (.ref 130), some (.int x1)], [.int (1 : Int32), .ref 130], s_hg g)) rfl ?_
    obtain ⟨v3, g2, hp, hB⟩ := s_bd2 hB
    refine s_Fin.cl (d := 2) (q1 := s_m176) (md := 176) (vs := [.ref 130, .int (1 : Int32)]) (rest := []) (h1 := s_hg g2) (u := some (.int v3)) (s_Ev.up (by omega) (fM_bad_130_s hp)) rfl rfl rfl rfl ?_
    have hc : v3 = 0 ∨ v3 = 1 := Classical.byContradiction fun h => (by rw [if_neg h] at hB; cases hB)
    rw [if_pos hc] at hB
    have hB := Option.some.inj hB
    subst hB
    obtain ⟨rfl, rfl⟩ := hr
    exact s_Fin.rt (by rcases hc with hc | hc <;> rw [hc] <;> exact rfl) rfl
  · rw [if_neg hc] at hB
    refine s_Fin.bt (c := ¬ v1 = 0) (tg := 13) (p2 := 4) (L1 := [some (.ref 130), some (.int x1)]) (st1 := []) hc rfl ?_
    refine s_Fin.sg 9 (y := (28, [some (.ref 130), some (.int x1)], [.long (g.2.1 130 12), .int (g.1 133 0), .int (0 : Int32), .ref 138], s_hg g)) rfl ?_
    obtain ⟨v4, hp, hB⟩ := s_bd hB
    refine s_Fin.cl (d := 2) (q1 := s_m179) (md := 179) (vs := [.ref 138, .int (0 : Int32), .int (g.1 133 0), .long (g.2.1 130 12)]) (rest := []) (h1 := s_hg g) (u := some (.int v4)) (s_Ev.up (by omega) (fM_findIn_138_s hp)) rfl rfl rfl rfl ?_
    refine s_Fin.sg 1 (y := (32, [some (.ref 130), some (.int x1)], [.int (-1 : Int32), .int v4], s_hg g)) rfl ?_
    by_cases hc : v4 = (-1 : Int32)
    · rw [if_pos hc] at hB
      refine s_Fin.bf (c := ¬ v4 = (-1 : Int32)) (tg := 58) (p2 := 32) (L1 := [some (.ref 130), some (.int x1)]) (st1 := []) (fun h => h hc) rfl ?_
      refine s_Fin.sg 9 (y := (51, [some (.ref 130), some (.int x1)], [.long (g.2.1 130 12), .int (g.1 133 1), .int (7 : Int32), .ref 138], s_hg g)) rfl ?_
      obtain ⟨v5, hp, hB⟩ := s_bd hB
      refine s_Fin.cl (d := 2) (q1 := s_m179) (md := 179) (vs := [.ref 138, .int (7 : Int32), .int (g.1 133 1), .long (g.2.1 130 12)]) (rest := []) (h1 := s_hg g) (u := some (.int v5)) (s_Ev.up (by omega) (fM_findIn_138_s hp)) rfl rfl rfl rfl ?_
      refine s_Fin.sg 1 (y := (55, [some (.ref 130), some (.int x1)], [.int (-1 : Int32), .int v5], s_hg g)) rfl ?_
      by_cases hc : v5 = (-1 : Int32)
      · rw [if_pos hc] at hB
        refine s_Fin.bt (c := v5 = (-1 : Int32)) (tg := 64) (p2 := 55) (L1 := [some (.ref 130), some (.int x1)]) (st1 := []) hc rfl ?_
        refine s_Fin.sg 5 (y := (73, [some (.ref 130), some (.int x1)], [.long (g.2.1 130 12), .int x1, .ref 138], s_hg g)) rfl ?_
        obtain ⟨k7, hk7, hB⟩ := s_bd hB
        refine s_Fin.ix (n := 17) (i := x1) (pc1 := 74) (L1 := [some (.ref 130), some (.int x1)]) (fun j6 => []) (fun j6 => s_hg (s_sl g 138 j6 (g.2.1 130 12))) hk7 rfl rfl ?_
        refine s_Fin.sg 1 (y := (75, [some (.ref 130), some (.int x1)], [.ref 130], s_hg (s_sl g 138 k7 (g.2.1 130 12)))) rfl ?_
        obtain ⟨g8, hp, hB⟩ := s_bd hB
        refine s_Fin.cl (d := 2) (q1 := s_m166) (md := 166) (vs := [.ref 130]) (rest := []) (h1 := s_hg g8) (u := none) (s_Ev.up (by omega) (fM_go_130_s hp)) rfl rfl rfl rfl ?_
        refine s_Fin.sg 1 (y := (79, [some (.ref 130), some (.int x1)], [.int (1 : Int32)], s_hg g8)) rfl ?_
        have hB := Option.some.inj hB
        subst hB
        obtain ⟨rfl, rfl⟩ := hr
        exact s_Fin.rt rfl rfl
      · rw [if_neg hc] at hB
        refine s_Fin.bf (c := v5 = (-1 : Int32)) (tg := 64) (p2 := 55) (L1 := [some (.ref 130), some (.int x1)]) (st1 := []) hc rfl ?_
        refine s_Fin.sg 2 (y := (60, [some (.ref 130), some (.int x1)], [.int (3 : Int32), .ref 130], s_hg g)) rfl ?_
        obtain ⟨v10, g9, hp, hB⟩ := s_bd2 hB
        refine s_Fin.cl (d := 2) (q1 := s_m176) (md := 176) (vs := [.ref 130, .int (3 : Int32)]) (rest := []) (h1 := s_hg g9) (u := some (.int v10)) (s_Ev.up (by omega) (fM_bad_130_s hp)) rfl rfl rfl rfl ?_
        have hc : v10 = 0 ∨ v10 = 1 := Classical.byContradiction fun h => (by rw [if_neg h] at hB; cases hB)
        rw [if_pos hc] at hB
        have hB := Option.some.inj hB
        subst hB
        obtain ⟨rfl, rfl⟩ := hr
        exact s_Fin.rt (by rcases hc with hc | hc <;> rw [hc] <;> exact rfl) rfl
    · rw [if_neg hc] at hB
      refine s_Fin.bt (c := ¬ v4 = (-1 : Int32)) (tg := 58) (p2 := 32) (L1 := [some (.ref 130), some (.int x1)]) (st1 := []) hc rfl ?_
      refine s_Fin.sg 2 (y := (60, [some (.ref 130), some (.int x1)], [.int (3 : Int32), .ref 130], s_hg g)) rfl ?_
      obtain ⟨v12, g11, hp, hB⟩ := s_bd2 hB
      refine s_Fin.cl (d := 2) (q1 := s_m176) (md := 176) (vs := [.ref 130, .int (3 : Int32)]) (rest := []) (h1 := s_hg g11) (u := some (.int v12)) (s_Ev.up (by omega) (fM_bad_130_s hp)) rfl rfl rfl rfl ?_
      have hc : v12 = 0 ∨ v12 = 1 := Classical.byContradiction fun h => (by rw [if_neg h] at hB; cases hB)
      rw [if_pos hc] at hB
      have hB := Option.some.inj hB
      subst hB
      obtain ⟨rfl, rfl⟩ := hr
      exact s_Fin.rt (by rcases hc with hc | hc <;> rw [hc] <;> exact rfl) rfl
-- CampAshesModel.readWhose
noncomputable def fM_readWhose_130 (x1 : Int32) (g : s_G) : Option (Int32 × s_G) :=
  s_b1 (fM_isName_130 g) fun v1 => if v1 = 0 then (s_b2 (fM_bad_130 (1 : Int32) g) fun v3 g2 => if v3 = 0 ∨ v3 = 1 then some (v3, g2)
  else none)
  else s_b1 (fM_findIn_138 (0 : Int32) (g.1 133 0) (g.2.1 130 12) g) fun v4 => s_b1 (s_ix 47 ((17 : Int32) + x1)) fun k6 => if ((s_si g 133 k6 v4).1 133 k6) = (-1 : Int32) then (s_b2 (fM_bad_130 (3 : Int32) (s_si g 133 k6 v4)) fun v9 g8 => if v9 = 0 ∨ v9 = 1 then some (v9, g8)
  else none)
  else s_b1 (fM_go_130 (s_si g 133 k6 v4)) fun g10 => some ((1 : Int32), g10)
theorem fM_readWhose_130_s {x1 : Int32} {g : s_G} {z : Int32 × s_G} (hB : fM_readWhose_130 x1 g = some z) : s_Ev 3 s_m184 [.ref 130, .int x1] (s_hg g) (some (.int z.1)) (s_hg z.2) := by
  unfold fM_readWhose_130 at hB
  refine s_Ev.fin ((?_ : ∀ (v : Option Value) (h' : s_H), (fun (z : Int32 × s_G) (v : Option Value) (h' : s_H) => v = some (.int z.1) ∧ h' = s_hg z.2) z v h' → s_Fin 3 s_m184 (0, s_ent [.ref 130, .int x1] (s_m184).2.2.1, [], s_hg g) v h') _ _ ⟨rfl, rfl⟩)
  intro v h' hr
  refine (show s_Fin 3 s_m184 (0, [some (.ref 130), some (.int x1)], [], s_hg g) v h' from ?_)
  refine s_Fin.sg 1 (y := (1, [some (.ref 130), some (.int x1)], [.ref 130], s_hg g)) rfl ?_
  obtain ⟨v1, hp, hB⟩ := s_bd hB
  refine s_Fin.cl (d := 2) (q1 := s_m178) (md := 178) (vs := [.ref 130]) (rest := []) (h1 := s_hg g) (u := some (.int v1)) (s_Ev.up (by omega) (fM_isName_130_s hp)) rfl rfl rfl rfl ?_
  by_cases hc : v1 = 0
  · rw [if_pos hc] at hB
    refine s_Fin.bf (c := ¬ v1 = 0) (tg := 13) (p2 := 4) (L1 := [some (.ref 130), some (.int x1)]) (st1 := []) (fun h => h hc) rfl ?_
    refine s_Fin.sg 2 (y := (9, [some (.ref 130), some (.int x1)], [.int (1 : Int32), .ref 130], s_hg g)) rfl ?_
    obtain ⟨v3, g2, hp, hB⟩ := s_bd2 hB
    refine s_Fin.cl (d := 2) (q1 := s_m176) (md := 176) (vs := [.ref 130, .int (1 : Int32)]) (rest := []) (h1 := s_hg g2) (u := some (.int v3)) (s_Ev.up (by omega) (fM_bad_130_s hp)) rfl rfl rfl rfl ?_
    have hc : v3 = 0 ∨ v3 = 1 := Classical.byContradiction fun h => (by rw [if_neg h] at hB; cases hB)
    rw [if_pos hc] at hB
    have hB := Option.some.inj hB
    subst hB
    obtain ⟨rfl, rfl⟩ := hr
    exact s_Fin.rt (by rcases hc with hc | hc <;> rw [hc] <;> exact rfl) rfl
  · rw [if_neg hc] at hB
    refine s_Fin.bt (c := ¬ v1 = 0) (tg := 13) (p2 := 4) (L1 := [some (.ref 130), some (.int x1)]) (st1 := []) hc rfl ?_
    refine s_Fin.sg 14 (y := (36, [some (.ref 130), some (.int x1)], [.long (g.2.1 130 12), .int (g.1 133 0), .int (0 : Int32), .ref 138, .int ((17 : Int32) + x1), .ref 133], s_hg g)) rfl ?_
    obtain ⟨v4, hp, hB⟩ := s_bd hB
    refine s_Fin.cl (d := 2) (q1 := s_m179) (md := 179) (vs := [.ref 138, .int (0 : Int32), .int (g.1 133 0), .long (g.2.1 130 12)]) (rest := [.int ((17 : Int32) + x1), .ref 133]) (h1 := s_hg g) (u := some (.int v4)) (s_Ev.up (by omega) (fM_findIn_138_s hp)) rfl rfl rfl rfl ?_
    obtain ⟨k6, hk6, hB⟩ := s_bd hB
    refine s_Fin.ix (n := 47) (i := (17 : Int32) + x1) (pc1 := 40) (L1 := [some (.ref 130), some (.int x1)]) (fun j5 => []) (fun j5 => s_hg (s_si g 133 j5 v4)) hk6 rfl rfl ?_
    refine s_Fin.sg 5 (y := (48, [some (.ref 130), some (.int x1)], [.int ((17 : Int32) + x1), .ref 133], s_hg (s_si g 133 k6 v4))) rfl ?_
    refine s_Fin.ix (n := 47) (i := (17 : Int32) + x1) (pc1 := 49) (L1 := [some (.ref 130), some (.int x1)]) (fun j7 => [.int ((s_si g 133 k6 v4).1 133 j7)]) (fun j7 => s_hg (s_si g 133 k6 v4)) hk6 rfl rfl ?_
    refine s_Fin.sg 1 (y := (50, [some (.ref 130), some (.int x1)], [.int (-1 : Int32), .int ((s_si g 133 k6 v4).1 133 k6)], s_hg (s_si g 133 k6 v4))) rfl ?_
    by_cases hc : ((s_si g 133 k6 v4).1 133 k6) = (-1 : Int32)
    · rw [if_pos hc] at hB
      refine s_Fin.bf (c := ¬ ((s_si g 133 k6 v4).1 133 k6) = (-1 : Int32)) (tg := 59) (p2 := 50) (L1 := [some (.ref 130), some (.int x1)]) (st1 := []) (fun h => h hc) rfl ?_
      refine s_Fin.sg 2 (y := (55, [some (.ref 130), some (.int x1)], [.int (3 : Int32), .ref 130], s_hg (s_si g 133 k6 v4))) rfl ?_
      obtain ⟨v9, g8, hp, hB⟩ := s_bd2 hB
      refine s_Fin.cl (d := 2) (q1 := s_m176) (md := 176) (vs := [.ref 130, .int (3 : Int32)]) (rest := []) (h1 := s_hg g8) (u := some (.int v9)) (s_Ev.up (by omega) (fM_bad_130_s hp)) rfl rfl rfl rfl ?_
      have hc : v9 = 0 ∨ v9 = 1 := Classical.byContradiction fun h => (by rw [if_neg h] at hB; cases hB)
      rw [if_pos hc] at hB
      have hB := Option.some.inj hB
      subst hB
      obtain ⟨rfl, rfl⟩ := hr
      exact s_Fin.rt (by rcases hc with hc | hc <;> rw [hc] <;> exact rfl) rfl
    · rw [if_neg hc] at hB
      refine s_Fin.bt (c := ¬ ((s_si g 133 k6 v4).1 133 k6) = (-1 : Int32)) (tg := 59) (p2 := 50) (L1 := [some (.ref 130), some (.int x1)]) (st1 := []) hc rfl ?_
      refine s_Fin.sg 1 (y := (60, [some (.ref 130), some (.int x1)], [.ref 130], s_hg (s_si g 133 k6 v4))) rfl ?_
      obtain ⟨g10, hp, hB⟩ := s_bd hB
      refine s_Fin.cl (d := 2) (q1 := s_m166) (md := 166) (vs := [.ref 130]) (rest := []) (h1 := s_hg g10) (u := none) (s_Ev.up (by omega) (fM_go_130_s hp)) rfl rfl rfl rfl ?_
      refine s_Fin.sg 1 (y := (64, [some (.ref 130), some (.int x1)], [.int (1 : Int32)], s_hg g10)) rfl ?_
      have hB := Option.some.inj hB
      subst hB
      obtain ⟨rfl, rfl⟩ := hr
      exact s_Fin.rt rfl rfl
-- CampAshesModel.readEvent
noncomputable def fM_readEvent_130 (g : s_G) : Option (Int32 × s_G) :=
  s_b2 (fM_readFirst_130 (1 : Int32) (10 : Int32) g) fun v2 g1 => if v2 = 0 then (some ((0 : Int32), g1))
  else s_b2 (fM_readNew_130 ((7 : Int32) + (g1.1 133 1)) g1) fun v4 g3 => if v4 = 0 then (some ((0 : Int32), g3))
  else s_b2 (fM_readWhose_130 (g1.1 133 1) g3) fun v6 g5 => if v6 = 0 then (some ((0 : Int32), g5))
  else s_b2 (fM_isKind_130 g5) fun v8 g7 => s_b2 (fM_put_130 ((27 : Int32) + (g1.1 133 1)) v8 g7) fun v10 g9 => if v10 = 0 then (some ((0 : Int32), g9))
  else s_b1 (fM_go_130 g9) fun g11 => s_b2 (fM_readNumber_130 (1 : Int32) (40 : Int32) g11) fun v13 g12 => s_b2 (fM_put_130 ((37 : Int32) + (g1.1 133 1)) v13 g12) fun v15 g14 => if v15 = 0 then (some ((0 : Int32), g14))
  else some ((1 : Int32), (s_si g14 133 1 ((g14.1 133 1) + (1 : Int32))))
theorem fM_readEvent_130_s {g : s_G} {z : Int32 × s_G} (hB : fM_readEvent_130 g = some z) : s_Ev 4 s_m183 [.ref 130] (s_hg g) (some (.int z.1)) (s_hg z.2) := by
  unfold fM_readEvent_130 at hB
  refine s_Ev.fin ((?_ : ∀ (v : Option Value) (h' : s_H), (fun (z : Int32 × s_G) (v : Option Value) (h' : s_H) => v = some (.int z.1) ∧ h' = s_hg z.2) z v h' → s_Fin 4 s_m183 (0, s_ent [.ref 130] (s_m183).2.2.1, [], s_hg g) v h') _ _ ⟨rfl, rfl⟩)
  intro v h' hr
  refine (show s_Fin 4 s_m183 (0, [some (.ref 130), none], [], s_hg g) v h' from ?_)
  refine s_Fin.sg 3 (y := (4, [some (.ref 130), none], [.int (10 : Int32), .int (1 : Int32), .ref 130], s_hg g)) rfl ?_
  obtain ⟨v2, g1, hp, hB⟩ := s_bd2 hB
  refine s_Fin.cl (d := 3) (q1 := s_m175) (md := 175) (vs := [.ref 130, .int (1 : Int32), .int (10 : Int32)]) (rest := []) (h1 := s_hg g1) (u := some (.int v2)) (s_Ev.up (by omega) (fM_readFirst_130_s hp)) rfl rfl rfl rfl ?_
  by_cases hc : v2 = 0
  · rw [if_pos hc] at hB
    refine s_Fin.bf (c := ¬ v2 = 0) (tg := 12) (p2 := 7) (L1 := [some (.ref 130), none]) (st1 := []) (fun h => h hc) rfl ?_
    refine s_Fin.sg 1 (y := (11, [some (.ref 130), none], [.int (0 : Int32)], s_hg g1)) rfl ?_
    have hB := Option.some.inj hB
    subst hB
    obtain ⟨rfl, rfl⟩ := hr
    exact s_Fin.rt rfl rfl
  · rw [if_neg hc] at hB
    refine s_Fin.bt (c := ¬ v2 = 0) (tg := 12) (p2 := 7) (L1 := [some (.ref 130), none]) (st1 := []) hc rfl ?_
    refine s_Fin.sg 9 (y := (24, [some (.ref 130), some (.int (g1.1 133 1))], [.int ((7 : Int32) + (g1.1 133 1)), .ref 130], s_hg g1)) rfl ?_
    obtain ⟨v4, g3, hp, hB⟩ := s_bd2 hB
    refine s_Fin.cl (d := 3) (q1 := s_m177) (md := 177) (vs := [.ref 130, .int ((7 : Int32) + (g1.1 133 1))]) (rest := []) (h1 := s_hg g3) (u := some (.int v4)) (s_Ev.up (by omega) (fM_readNew_130_s hp)) rfl rfl rfl rfl ?_
    by_cases hc : v4 = 0
    · rw [if_pos hc] at hB
      refine s_Fin.bt (c := v4 = 0) (tg := 53) (p2 := 27) (L1 := [some (.ref 130), some (.int (g1.1 133 1))]) (st1 := []) hc rfl ?_
      refine s_Fin.sg 1 (y := (54, [some (.ref 130), some (.int (g1.1 133 1))], [.int (0 : Int32)], s_hg g3)) rfl ?_
      have hB := Option.some.inj hB
      subst hB
      obtain ⟨rfl, rfl⟩ := hr
      exact s_Fin.rt rfl rfl
    · rw [if_neg hc] at hB
      refine s_Fin.bf (c := v4 = 0) (tg := 53) (p2 := 27) (L1 := [some (.ref 130), some (.int (g1.1 133 1))]) (st1 := []) hc rfl ?_
      refine s_Fin.sg 2 (y := (32, [some (.ref 130), some (.int (g1.1 133 1))], [.int (g1.1 133 1), .ref 130], s_hg g3)) rfl ?_
      obtain ⟨v6, g5, hp, hB⟩ := s_bd2 hB
      refine s_Fin.cl (d := 3) (q1 := s_m184) (md := 184) (vs := [.ref 130, .int (g1.1 133 1)]) (rest := []) (h1 := s_hg g5) (u := some (.int v6)) (s_Ev.up (by omega) (fM_readWhose_130_s hp)) rfl rfl rfl rfl ?_
      by_cases hc : v6 = 0
      · rw [if_pos hc] at hB
        refine s_Fin.bt (c := v6 = 0) (tg := 53) (p2 := 35) (L1 := [some (.ref 130), some (.int (g1.1 133 1))]) (st1 := []) hc rfl ?_
        refine s_Fin.sg 1 (y := (54, [some (.ref 130), some (.int (g1.1 133 1))], [.int (0 : Int32)], s_hg g5)) rfl ?_
        have hB := Option.some.inj hB
        subst hB
        obtain ⟨rfl, rfl⟩ := hr
        exact s_Fin.rt rfl rfl
      · rw [if_neg hc] at hB
        refine s_Fin.bf (c := v6 = 0) (tg := 53) (p2 := 35) (L1 := [some (.ref 130), some (.int (g1.1 133 1))]) (st1 := []) hc rfl ?_
        refine s_Fin.sg 5 (y := (44, [some (.ref 130), some (.int (g1.1 133 1))], [.ref 130, .int ((27 : Int32) + (g1.1 133 1)), .ref 130], s_hg g5)) rfl ?_
        obtain ⟨v8, g7, hp, hB⟩ := s_bd2 hB
        refine s_Fin.cl (d := 3) (q1 := s_m185) (md := 185) (vs := [.ref 130]) (rest := [.int ((27 : Int32) + (g1.1 133 1)), .ref 130]) (h1 := s_hg g7) (u := some (.int v8)) (s_Ev.up (by omega) (fM_isKind_130_s hp)) rfl rfl rfl rfl ?_
        obtain ⟨v10, g9, hp, hB⟩ := s_bd2 hB
        refine s_Fin.cl (d := 3) (q1 := s_m182) (md := 182) (vs := [.ref 130, .int ((27 : Int32) + (g1.1 133 1)), .int v8]) (rest := []) (h1 := s_hg g9) (u := some (.int v10)) (s_Ev.up (by omega) (fM_put_130_s hp)) rfl rfl rfl rfl ?_
        by_cases hc : v10 = 0
        · rw [if_pos hc] at hB
          refine s_Fin.bf (c := ¬ v10 = 0) (tg := 55) (p2 := 50) (L1 := [some (.ref 130), some (.int (g1.1 133 1))]) (st1 := []) (fun h => h hc) rfl ?_
          refine s_Fin.sg 1 (y := (54, [some (.ref 130), some (.int (g1.1 133 1))], [.int (0 : Int32)], s_hg g9)) rfl ?_
          have hB := Option.some.inj hB
          subst hB
          obtain ⟨rfl, rfl⟩ := hr
          exact s_Fin.rt rfl rfl
        · rw [if_neg hc] at hB
          refine s_Fin.bt (c := ¬ v10 = 0) (tg := 55) (p2 := 50) (L1 := [some (.ref 130), some (.int (g1.1 133 1))]) (st1 := []) hc rfl ?_
          refine s_Fin.sg 1 (y := (56, [some (.ref 130), some (.int (g1.1 133 1))], [.ref 130], s_hg g9)) rfl ?_
          obtain ⟨g11, hp, hB⟩ := s_bd hB
          refine s_Fin.cl (d := 3) (q1 := s_m166) (md := 166) (vs := [.ref 130]) (rest := []) (h1 := s_hg g11) (u := none) (s_Ev.up (by omega) (fM_go_130_s hp)) rfl rfl rfl rfl ?_
          refine s_Fin.sg 7 (y := (68, [some (.ref 130), some (.int (g1.1 133 1))], [.int (40 : Int32), .int (1 : Int32), .ref 130, .int ((37 : Int32) + (g1.1 133 1)), .ref 130], s_hg g11)) rfl ?_
          obtain ⟨v13, g12, hp, hB⟩ := s_bd2 hB
          refine s_Fin.cl (d := 3) (q1 := s_m180) (md := 180) (vs := [.ref 130, .int (1 : Int32), .int (40 : Int32)]) (rest := [.int ((37 : Int32) + (g1.1 133 1)), .ref 130]) (h1 := s_hg g12) (u := some (.int v13)) (s_Ev.up (by omega) (fM_readNumber_130_s hp)) rfl rfl rfl rfl ?_
          obtain ⟨v15, g14, hp, hB⟩ := s_bd2 hB
          refine s_Fin.cl (d := 3) (q1 := s_m182) (md := 182) (vs := [.ref 130, .int ((37 : Int32) + (g1.1 133 1)), .int v13]) (rest := []) (h1 := s_hg g14) (u := some (.int v15)) (s_Ev.up (by omega) (fM_put_130_s hp)) rfl rfl rfl rfl ?_
          by_cases hc : v15 = 0
          · rw [if_pos hc] at hB
            refine s_Fin.bf (c := ¬ v15 = 0) (tg := 79) (p2 := 74) (L1 := [some (.ref 130), some (.int (g1.1 133 1))]) (st1 := []) (fun h => h hc) rfl ?_
            refine s_Fin.sg 1 (y := (78, [some (.ref 130), some (.int (g1.1 133 1))], [.int (0 : Int32)], s_hg g14)) rfl ?_
            have hB := Option.some.inj hB
            subst hB
            obtain ⟨rfl, rfl⟩ := hr
            exact s_Fin.rt rfl rfl
          · rw [if_neg hc] at hB
            refine s_Fin.bt (c := ¬ v15 = 0) (tg := 79) (p2 := 74) (L1 := [some (.ref 130), some (.int (g1.1 133 1))]) (st1 := []) hc rfl ?_
            refine s_Fin.sg 9 (y := (90, [some (.ref 130), some (.int (g1.1 133 1))], [.int (1 : Int32)], s_hg (s_si g14 133 1 ((g14.1 133 1) + (1 : Int32))))) rfl ?_
            have hB := Option.some.inj hB
            subst hB
            obtain ⟨rfl, rfl⟩ := hr
            exact s_Fin.rt rfl rfl
-- CampAshesModel.readBoy
noncomputable def fM_readBoy_130 (g : s_G) : Option (Int32 × s_G) :=
  s_b2 (fM_readFirst_130 (0 : Int32) (7 : Int32) g) fun v2 g1 => if v2 = 0 then (some ((0 : Int32), g1))
  else s_b2 (fM_readNew_130 (g1.1 133 0) g1) fun v4 g3 => if v4 = 0 then (some ((0 : Int32), g3))
  else s_b2 (fM_readNumber_130 (1 : Int32) (60 : Int32) g3) fun v6 g5 => s_b2 (fM_put_130 ((10 : Int32) + (g1.1 133 0)) v6 g5) fun v8 g7 => if v8 = 0 then (some ((0 : Int32), g7))
  else some ((1 : Int32), (s_si g7 133 0 ((g7.1 133 0) + (1 : Int32))))
theorem fM_readBoy_130_s {g : s_G} {z : Int32 × s_G} (hB : fM_readBoy_130 g = some z) : s_Ev 4 s_m174 [.ref 130] (s_hg g) (some (.int z.1)) (s_hg z.2) := by
  unfold fM_readBoy_130 at hB
  refine s_Ev.fin ((?_ : ∀ (v : Option Value) (h' : s_H), (fun (z : Int32 × s_G) (v : Option Value) (h' : s_H) => v = some (.int z.1) ∧ h' = s_hg z.2) z v h' → s_Fin 4 s_m174 (0, s_ent [.ref 130] (s_m174).2.2.1, [], s_hg g) v h') _ _ ⟨rfl, rfl⟩)
  intro v h' hr
  refine (show s_Fin 4 s_m174 (0, [some (.ref 130), none], [], s_hg g) v h' from ?_)
  refine s_Fin.sg 3 (y := (4, [some (.ref 130), none], [.int (7 : Int32), .int (0 : Int32), .ref 130], s_hg g)) rfl ?_
  obtain ⟨v2, g1, hp, hB⟩ := s_bd2 hB
  refine s_Fin.cl (d := 3) (q1 := s_m175) (md := 175) (vs := [.ref 130, .int (0 : Int32), .int (7 : Int32)]) (rest := []) (h1 := s_hg g1) (u := some (.int v2)) (s_Ev.up (by omega) (fM_readFirst_130_s hp)) rfl rfl rfl rfl ?_
  by_cases hc : v2 = 0
  · rw [if_pos hc] at hB
    refine s_Fin.bf (c := ¬ v2 = 0) (tg := 12) (p2 := 7) (L1 := [some (.ref 130), none]) (st1 := []) (fun h => h hc) rfl ?_
    refine s_Fin.sg 1 (y := (11, [some (.ref 130), none], [.int (0 : Int32)], s_hg g1)) rfl ?_
    have hB := Option.some.inj hB
    subst hB
    obtain ⟨rfl, rfl⟩ := hr
    exact s_Fin.rt rfl rfl
  · rw [if_neg hc] at hB
    refine s_Fin.bt (c := ¬ v2 = 0) (tg := 12) (p2 := 7) (L1 := [some (.ref 130), none]) (st1 := []) hc rfl ?_
    refine s_Fin.sg 7 (y := (21, [some (.ref 130), some (.int (g1.1 133 0))], [.int (g1.1 133 0), .ref 130], s_hg g1)) rfl ?_
    obtain ⟨v4, g3, hp, hB⟩ := s_bd2 hB
    refine s_Fin.cl (d := 3) (q1 := s_m177) (md := 177) (vs := [.ref 130, .int (g1.1 133 0)]) (rest := []) (h1 := s_hg g3) (u := some (.int v4)) (s_Ev.up (by omega) (fM_readNew_130_s hp)) rfl rfl rfl rfl ?_
    by_cases hc : v4 = 0
    · rw [if_pos hc] at hB
      refine s_Fin.bt (c := v4 = 0) (tg := 45) (p2 := 24) (L1 := [some (.ref 130), some (.int (g1.1 133 0))]) (st1 := []) hc rfl ?_
      refine s_Fin.sg 1 (y := (46, [some (.ref 130), some (.int (g1.1 133 0))], [.int (0 : Int32)], s_hg g3)) rfl ?_
      have hB := Option.some.inj hB
      subst hB
      obtain ⟨rfl, rfl⟩ := hr
      exact s_Fin.rt rfl rfl
    · rw [if_neg hc] at hB
      refine s_Fin.bf (c := v4 = 0) (tg := 45) (p2 := 24) (L1 := [some (.ref 130), some (.int (g1.1 133 0))]) (st1 := []) hc rfl ?_
      refine s_Fin.sg 7 (y := (36, [some (.ref 130), some (.int (g1.1 133 0))], [.int (60 : Int32), .int (1 : Int32), .ref 130, .int ((10 : Int32) + (g1.1 133 0)), .ref 130], s_hg g3)) rfl ?_
      obtain ⟨v6, g5, hp, hB⟩ := s_bd2 hB
      refine s_Fin.cl (d := 3) (q1 := s_m180) (md := 180) (vs := [.ref 130, .int (1 : Int32), .int (60 : Int32)]) (rest := [.int ((10 : Int32) + (g1.1 133 0)), .ref 130]) (h1 := s_hg g5) (u := some (.int v6)) (s_Ev.up (by omega) (fM_readNumber_130_s hp)) rfl rfl rfl rfl ?_
      obtain ⟨v8, g7, hp, hB⟩ := s_bd2 hB
      refine s_Fin.cl (d := 3) (q1 := s_m182) (md := 182) (vs := [.ref 130, .int ((10 : Int32) + (g1.1 133 0)), .int v6]) (rest := []) (h1 := s_hg g7) (u := some (.int v8)) (s_Ev.up (by omega) (fM_put_130_s hp)) rfl rfl rfl rfl ?_
      by_cases hc : v8 = 0
      · rw [if_pos hc] at hB
        refine s_Fin.bf (c := ¬ v8 = 0) (tg := 47) (p2 := 42) (L1 := [some (.ref 130), some (.int (g1.1 133 0))]) (st1 := []) (fun h => h hc) rfl ?_
        refine s_Fin.sg 1 (y := (46, [some (.ref 130), some (.int (g1.1 133 0))], [.int (0 : Int32)], s_hg g7)) rfl ?_
        have hB := Option.some.inj hB
        subst hB
        obtain ⟨rfl, rfl⟩ := hr
        exact s_Fin.rt rfl rfl
      · rw [if_neg hc] at hB
        refine s_Fin.bt (c := ¬ v8 = 0) (tg := 47) (p2 := 42) (L1 := [some (.ref 130), some (.int (g1.1 133 0))]) (st1 := []) hc rfl ?_
        refine s_Fin.sg 9 (y := (58, [some (.ref 130), some (.int (g1.1 133 0))], [.int (1 : Int32)], s_hg (s_si g7 133 0 ((g7.1 133 0) + (1 : Int32))))) rfl ?_
        have hB := Option.some.inj hB
        subst hB
        obtain ⟨rfl, rfl⟩ := hr
        exact s_Fin.rt rfl rfl
