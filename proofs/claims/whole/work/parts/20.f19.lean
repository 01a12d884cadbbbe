-- CampAshes$Laws.leftBehind
noncomputable def fL_leftBehind_s (x0 : Int32) (x1 : Int32) (x2 : Int32) (g : s_G) : Option (Int32) :=
  some (if (0 : Int32) < ((x2 - x0) - (x1 / (5 : Int32))) then ((x2 - x0) - (x1 / (5 : Int32))) else (0 : Int32))
theorem fL_leftBehind_s_s {x0 : Int32} {x1 : Int32} {x2 : Int32} {g : s_G} {z : Int32} (hB : fL_leftBehind_s x0 x1 x2 g = some z) : s_Ev 0 s_m106 [.int x0, .int x1, .int x2] (s_hg g) (some (.int z)) (s_hg g) := by
  unfold fL_leftBehind_s at hB
  refine s_Ev.fin ((?_ : ∀ (v : Option Value) (h' : s_H), (fun (z : Int32) (v : Option Value) (h' : s_H) => v = some (.int z) ∧ h' = s_hg g) z v h' → s_Fin 0 s_m106 (0, s_ent [.int x0, .int x1, .int x2] (s_m106).2.2.1, [], s_hg g) v h') _ _ ⟨rfl, rfl⟩)
  intro v h' hr
  refine (show s_Fin 0 s_m106 (0, [some (.int x0), some (.int x1), some (.int x2)], [], s_hg g) v h' from ?_)
  refine s_Fin.sg 9 (y := (11, [some (.int x0), some (.int x1), some (.int x2)], [.int (if (0 : Int32) < ((x2 - x0) - (x1 / (5 : Int32))) then ((x2 - x0) - (x1 / (5 : Int32))) else (0 : Int32))], s_hg g)) rfl ?_
  have hB := Option.some.inj hB
  subst hB
  obtain ⟨rfl, rfl⟩ := hr
  exact s_Fin.rt rfl rfl
-- CampAshes$Laws.findLaws
noncomputable def fL_findLaws_127_1_70 (x2 : Int32) (x3 : Int32) (x4 : Int32) (x5 : Int32) (x6 : Int32) (g : s_G) : Option ((Int32 × Int32) ⊕ ((Int32 × Int32) ⊕ (Int32 × s_G))) :=
  if x6 < (10 : Int32) then (s_b1 (s_ix 940 (x4 + (1 : Int32))) fun k4 => s_b1 (fL_leftBehind_s x6 x5 ((g.1 2 k4) &&& (255 : Int32)) g) fun v5 => s_b1 (s_ix 940 (x4 + (2 : Int32))) fun k7 => if v5 = ((g.1 2 k7) &&& (255 : Int32)) then (some (.inl (x3, x6 + (1 : Int32))))
  else s_b1 (some (x3 &&& (((1 : Int32) <<< (x6 &&& 31)) ^^^ (-1 : Int32)))) fun v8 => some (.inl (v8, x6 + (1 : Int32))))
  else s_in (some (.inl (x3, x4 + (3 : Int32))))
theorem fL_findLaws_127_1_70_s {x2 : Int32} {x3 : Int32} {x4 : Int32} {x5 : Int32} {x6 : Int32} {g : s_G} {z : (Int32 × Int32) ⊕ ((Int32 × Int32) ⊕ (Int32 × s_G))} (hB : fL_findLaws_127_1_70 x2 x3 x4 x5 x6 g = some z) {v : Option Value} {h' : s_H} (hr : (s_sm (fun (x : Int32 × Int32) (v : Option Value) (h' : s_H) => s_Fin 1 s_m105 (70, [some (.ref 127), some (.ref 1), some (.int x2), some (.int x.1), some (.int x4), some (.int x5), some (.int x.2)], [], s_hg g) v h') (s_sm (fun (x : Int32 × Int32) (v : Option Value) (h' : s_H) => s_Fin 1 s_m105 (31, [some (.ref 127), some (.ref 1), some (.int x2), some (.int x.1), some (.int x.2), none, none], [], s_hg g) v h') (fun (z : Int32 × s_G) (v : Option Value) (h' : s_H) => v = some (.int z.1) ∧ h' = s_hg z.2))) z v h') : s_Fin 1 s_m105 (70, [some (.ref 127), some (.ref 1), some (.int x2), some (.int x3), some (.int x4), some (.int x5), some (.int x6)], [], s_hg g) v h' := by
  unfold fL_findLaws_127_1_70 at hB
  refine s_Fin.sg 2 (y := (74, [some (.ref 127), some (.ref 1), some (.int x2), some (.int x3), some (.int x4), some (.int x5), some (.int x6)], [.int (10 : Int32), .int x6], s_hg g)) rfl ?_
  by_cases hc : x6 < (10 : Int32)
  · rw [if_pos hc] at hB
    refine s_Fin.bf (c := (10 : Int32) ≤ x6) (tg := 128) (p2 := 74) (L1 := [some (.ref 127), some (.ref 1), some (.int x2), some (.int x3), some (.int x4), some (.int x5), some (.int x6)]) (st1 := []) (Int32.not_le.mpr hc) rfl ?_
    refine s_Fin.sg 7 (y := (89, [some (.ref 127), some (.ref 1), some (.int x2), some (.int x3), some (.int x4), some (.int x5), some (.int x6)], [.int (x4 + (1 : Int32)), .ref 2, .int x5, .int x6], s_hg g)) rfl ?_
    obtain ⟨k4, hk4, hB⟩ := s_bd hB
    refine s_Fin.ix (n := 940) (i := x4 + (1 : Int32)) (pc1 := 90) (L1 := [some (.ref 127), some (.ref 1), some (.int x2), some (.int x3), some (.int x4), some (.int x5), some (.int x6)]) (fun j3 => [.int (g.1 2 j3), .int x5, .int x6]) (fun j3 => s_hg g) hk4 rfl rfl ?_
    refine s_Fin.sg 2 (y := (94, [some (.ref 127), some (.ref 1), some (.int x2), some (.int x3), some (.int x4), some (.int x5), some (.int x6)], [.int ((g.1 2 k4) &&& (255 : Int32)), .int x5, .int x6], s_hg g)) rfl ?_
    obtain ⟨v5, hp, hB⟩ := s_bd hB
    refine s_Fin.cl (d := 0) (q1 := s_m106) (md := 106) (vs := [.int x6, .int x5, .int ((g.1 2 k4) &&& (255 : Int32))]) (rest := []) (h1 := s_hg g) (u := some (.int v5)) (s_Ev.up (by omega) (fL_leftBehind_s_s hp)) rfl rfl rfl rfl ?_
    refine s_Fin.sg 5 (y := (105, [some (.ref 127), some (.ref 1), some (.int x2), some (.int x3), some (.int x4), some (.int x5), some (.int x6)], [.int (x4 + (2 : Int32)), .ref 2, .int v5], s_hg g)) rfl ?_
    obtain ⟨k7, hk7, hB⟩ := s_bd hB
    refine s_Fin.ix (n := 940) (i := x4 + (2 : Int32)) (pc1 := 106) (L1 := [some (.ref 127), some (.ref 1), some (.int x2), some (.int x3), some (.int x4), some (.int x5), some (.int x6)]) (fun j6 => [.int (g.1 2 j6), .int v5]) (fun j6 => s_hg g) hk7 rfl rfl ?_
    refine s_Fin.sg 2 (y := (110, [some (.ref 127), some (.ref 1), some (.int x2), some (.int x3), some (.int x4), some (.int x5), some (.int x6)], [.int ((g.1 2 k7) &&& (255 : Int32)), .int v5], s_hg g)) rfl ?_
    by_cases hc : v5 = ((g.1 2 k7) &&& (255 : Int32))
    · rw [if_pos hc] at hB
      refine s_Fin.bt (c := v5 = ((g.1 2 k7) &&& (255 : Int32))) (tg := 122) (p2 := 110) (L1 := [some (.ref 127), some (.ref 1), some (.int x2), some (.int x3), some (.int x4), some (.int x5), some (.int x6)]) (st1 := []) hc rfl ?_
      refine s_Fin.sg 2 (y := (70, [some (.ref 127), some (.ref 1), some (.int x2), some (.int x3), some (.int x4), some (.int x5), some (.int (x6 + (1 : Int32)))], [], s_hg g)) rfl ?_
      have hB := Option.some.inj hB
      subst hB
      exact s_Fin.more (L := [some (.ref 127), some (.ref 1), some (.int x2), some (.int x3), some (.int x4), some (.int x5), some (.int (x6 + (1 : Int32)))]) ⟨Or.inr rfl, Or.inr rfl, Or.inr rfl, Or.inr rfl, Or.inr rfl, Or.inr rfl, Or.inr rfl, trivial⟩ hr
    · rw [if_neg hc] at hB
      refine s_Fin.bf (c := v5 = ((g.1 2 k7) &&& (255 : Int32))) (tg := 122) (p2 := 110) (L1 := [some (.ref 127), some (.ref 1), some (.int x2), some (.int x3), some (.int x4), some (.int x5), some (.int x6)]) (st1 := []) hc rfl ?_
      refine s_Fin.sg 7 (y := (121, [some (.ref 127), some (.ref 1), some (.int x2), some (.int x3), some (.int x4), some (.int x5), some (.int x6)], [.int (x3 &&& (((1 : Int32) <<< (x6 &&& 31)) ^^^ (-1 : Int32)))], s_hg g)) rfl ?_
      obtain ⟨v8, hx, hB⟩ := s_bd hB
      have hx := Option.some.inj hx
      rw [hx]
      refine s_Fin.sg 3 (y := (70, [some (.ref 127), some (.ref 1), some (.int x2), some (.int v8), some (.int x4), some (.int x5), some (.int (x6 + (1 : Int32)))], [], s_hg g)) rfl ?_
      have hB := Option.some.inj hB
      subst hB
      exact s_Fin.more (L := [some (.ref 127), some (.ref 1), some (.int x2), some (.int v8), some (.int x4), some (.int x5), some (.int (x6 + (1 : Int32)))]) ⟨Or.inr rfl, Or.inr rfl, Or.inr rfl, Or.inr rfl, Or.inr rfl, Or.inr rfl, Or.inr rfl, trivial⟩ hr
  · rw [if_neg hc] at hB
    refine s_Fin.bt (c := (10 : Int32) ≤ x6) (tg := 128) (p2 := 74) (L1 := [some (.ref 127), some (.ref 1), some (.int x2), some (.int x3), some (.int x4), some (.int x5), some (.int x6)]) (st1 := []) (Int32.not_lt.mp hc) rfl ?_
    obtain ⟨_, hN, hz⟩ := s_in_of hB
    subst hz
    have hB := hN
    refine s_Fin.sg 2 (y := (31, [some (.ref 127), some (.ref 1), some (.int x2), some (.int x3), some (.int (x4 + (3 : Int32))), some (.int x5), some (.int x6)], [], s_hg g)) rfl ?_
    have hB := Option.some.inj hB
    subst hB
    exact s_Fin.more (L := [some (.ref 127), some (.ref 1), some (.int x2), some (.int x3), some (.int (x4 + (3 : Int32))), none, none]) ⟨Or.inr rfl, Or.inr rfl, Or.inr rfl, Or.inr rfl, Or.inr rfl, Or.inl rfl, Or.inl rfl, trivial⟩ hr
noncomputable def fL_findLaws_127_1_31 (x2 : Int32) (x3 : Int32) (x4 : Int32) (g : s_G) : Option ((Int32 × Int32) ⊕ (Int32 × s_G)) :=
  if (x4 + (2 : Int32)) < x2 then (s_b1 (s_ix 940 x4) fun k2 => if ((g.1 2 k2) &&& (255 : Int32)) < (1 : Int32) then (s_in (some ((-1 : Int32), g)))
  else if (30 : Int32) < ((g.1 2 k2) &&& (255 : Int32)) then (s_in (some ((-1 : Int32), g)))
  else s_lp (fun x => fL_findLaws_127_1_70 x2 x.1 x4 ((g.1 2 k2) &&& (255 : Int32)) x.2 g) (x3, (0 : Int32)))
  else s_in (if 0 < x3 then (some (x3, (s_si g 127 0 x3)))
  else some (x3, g))
theorem fL_findLaws_127_1_31_s {x2 : Int32} {x3 : Int32} {x4 : Int32} {g : s_G} {z : (Int32 × Int32) ⊕ (Int32 × s_G)} (hB : fL_findLaws_127_1_31 x2 x3 x4 g = some z) {v : Option Value} {h' : s_H} (hr : (s_sm (fun (x : Int32 × Int32) (v : Option Value) (h' : s_H) => s_Fin 1 s_m105 (31, [some (.ref 127), some (.ref 1), some (.int x2), some (.int x.1), some (.int x.2), none, none], [], s_hg g) v h') (fun (z : Int32 × s_G) (v : Option Value) (h' : s_H) => v = some (.int z.1) ∧ h' = s_hg z.2)) z v h') : s_Fin 1 s_m105 (31, [some (.ref 127), some (.ref 1), some (.int x2), some (.int x3), some (.int x4), none, none], [], s_hg g) v h' := by
  unfold fL_findLaws_127_1_31 at hB
  refine s_Fin.sg 4 (y := (36, [some (.ref 127), some (.ref 1), some (.int x2), some (.int x3), some (.int x4), none, none], [.int x2, .int (x4 + (2 : Int32))], s_hg g)) rfl ?_
  by_cases hc : (x4 + (2 : Int32)) < x2
  · rw [if_pos hc] at hB
    refine s_Fin.bf (c := x2 ≤ (x4 + (2 : Int32))) (tg := 134) (p2 := 36) (L1 := [some (.ref 127), some (.ref 1), some (.int x2), some (.int x3), some (.int x4), none, none]) (st1 := []) (Int32.not_le.mpr hc) rfl ?_
    refine s_Fin.sg 3 (y := (45, [some (.ref 127), some (.ref 1), some (.int x2), some (.int x3), some (.int x4), none, none], [.int x4, .ref 2], s_hg g)) rfl ?_
    obtain ⟨k2, hk2, hB⟩ := s_bd hB
    refine s_Fin.ix (n := 940) (i := x4) (pc1 := 46) (L1 := [some (.ref 127), some (.ref 1), some (.int x2), some (.int x3), some (.int x4), none, none]) (fun j1 => [.int (g.1 2 j1)]) (fun j1 => s_hg g) hk2 rfl rfl ?_
    refine s_Fin.sg 5 (y := (55, [some (.ref 127), some (.ref 1), some (.int x2), some (.int x3), some (.int x4), some (.int ((g.1 2 k2) &&& (255 : Int32))), none], [.int (1 : Int32), .int ((g.1 2 k2) &&& (255 : Int32))], s_hg g)) rfl ?_
    by_cases hc : ((g.1 2 k2) &&& (255 : Int32)) < (1 : Int32)
    · rw [if_pos hc] at hB
      refine s_Fin.bt (c := ((g.1 2 k2) &&& (255 : Int32)) < (1 : Int32)) (tg := 65) (p2 := 55) (L1 := [some (.ref 127), some (.ref 1), some (.int x2), some (.int x3), some (.int x4), some (.int ((g.1 2 k2) &&& (255 : Int32))), none]) (st1 := []) hc rfl ?_
      obtain ⟨_, hN, hz⟩ := s_in_of hB
      subst hz
      have hB := hN
      refine s_Fin.sg 1 (y := (66, [some (.ref 127), some (.ref 1), some (.int x2), some (.int x3), some (.int x4), some (.int ((g.1 2 k2) &&& (255 : Int32))), none], [.int (-1 : Int32)], s_hg g)) rfl ?_
      have hB := Option.some.inj hB
      subst hB
      obtain ⟨rfl, rfl⟩ := hr
      exact s_Fin.rt rfl rfl
    · rw [if_neg hc] at hB
      refine s_Fin.bf (c := ((g.1 2 k2) &&& (255 : Int32)) < (1 : Int32)) (tg := 65) (p2 := 55) (L1 := [some (.ref 127), some (.ref 1), some (.int x2), some (.int x3), some (.int x4), some (.int ((g.1 2 k2) &&& (255 : Int32))), none]) (st1 := []) hc rfl ?_
      refine s_Fin.sg 2 (y := (62, [some (.ref 127), some (.ref 1), some (.int x2), some (.int x3), some (.int x4), some (.int ((g.1 2 k2) &&& (255 : Int32))), none], [.int (30 : Int32), .int ((g.1 2 k2) &&& (255 : Int32))], s_hg g)) rfl ?_
      by_cases hc : (30 : Int32) < ((g.1 2 k2) &&& (255 : Int32))
      · rw [if_pos hc] at hB
        refine s_Fin.bf (c := ((g.1 2 k2) &&& (255 : Int32)) ≤ (30 : Int32)) (tg := 67) (p2 := 62) (L1 := [some (.ref 127), some (.ref 1), some (.int x2), some (.int x3), some (.int x4), some (.int ((g.1 2 k2) &&& (255 : Int32))), none]) (st1 := []) (Int32.not_le.mpr hc) rfl ?_
        obtain ⟨_, hN, hz⟩ := s_in_of hB
        subst hz
        have hB := hN
        refine s_Fin.sg 1 (y := (66, [some (.ref 127), some (.ref 1), some (.int x2), some (.int x3), some (.int x4), some (.int ((g.1 2 k2) &&& (255 : Int32))), none], [.int (-1 : Int32)], s_hg g)) rfl ?_
        have hB := Option.some.inj hB
        subst hB
        obtain ⟨rfl, rfl⟩ := hr
        exact s_Fin.rt rfl rfl
      · rw [if_neg hc] at hB
        refine s_Fin.bt (c := ((g.1 2 k2) &&& (255 : Int32)) ≤ (30 : Int32)) (tg := 67) (p2 := 62) (L1 := [some (.ref 127), some (.ref 1), some (.int x2), some (.int x3), some (.int x4), some (.int ((g.1 2 k2) &&& (255 : Int32))), none]) (st1 := []) (Int32.not_lt.mp hc) rfl ?_
        refine s_Fin.sg 2 (y := (70, [some (.ref 127), some (.ref 1), some (.int x2), some (.int x3), some (.int x4), some (.int ((g.1 2 k2) &&& (255 : Int32))), some (.int (0 : Int32))], [], s_hg g)) rfl ?_
        exact s_Fin.more (L := [some (.ref 127), some (.ref 1), some (.int x2), some (.int x3), some (.int x4), some (.int ((g.1 2 k2) &&& (255 : Int32))), some (.int (0 : Int32))]) ⟨Or.inr rfl, Or.inr rfl, Or.inr rfl, Or.inr rfl, Or.inr rfl, Or.inr rfl, Or.inr rfl, trivial⟩ (s_lp_s (P := (fun (x : Int32 × Int32) (v : Option Value) (h' : s_H) => s_Fin 1 s_m105 (70, [some (.ref 127), some (.ref 1), some (.int x2), some (.int x.1), some (.int x4), some (.int ((g.1 2 k2) &&& (255 : Int32))), some (.int x.2)], [], s_hg g) v h')) (Q := (s_sm (fun (x : Int32 × Int32) (v : Option Value) (h' : s_H) => s_Fin 1 s_m105 (31, [some (.ref 127), some (.ref 1), some (.int x2), some (.int x.1), some (.int x.2), none, none], [], s_hg g) v h') (fun (z : Int32 × s_G) (v : Option Value) (h' : s_H) => v = some (.int z.1) ∧ h' = s_hg z.2))) (fun x z hB v h' hr => fL_findLaws_127_1_70_s hB hr) hB _ _ hr)
  · rw [if_neg hc] at hB
    refine s_Fin.bt (c := x2 ≤ (x4 + (2 : Int32))) (tg := 134) (p2 := 36) (L1 := [some (.ref 127), some (.ref 1), some (.int x2), some (.int x3), some (.int x4), none, none]) (st1 := []) (Int32.not_lt.mp hc) rfl ?_
    obtain ⟨_, hN, hz⟩ := s_in_of hB
    subst hz
    have hB := hN
    refine s_Fin.sg 1 (y := (135, [some (.ref 127), some (.ref 1), some (.int x2), some (.int x3), some (.int x4), none, none], [.int x3], s_hg g)) rfl ?_
    by_cases hc : 0 < x3
    · rw [if_pos hc] at hB
      refine s_Fin.bf (c := x3 ≤ 0) (tg := 143) (p2 := 135) (L1 := [some (.ref 127), some (.ref 1), some (.int x2), some (.int x3), some (.int x4), none, none]) (st1 := []) (Int32.not_le.mpr hc) rfl ?_
      refine s_Fin.sg 4 (y := (144, [some (.ref 127), some (.ref 1), some (.int x2), some (.int x3), some (.int x4), none, none], [.int x3], s_hg (s_si g 127 0 x3))) rfl ?_
      have hB := Option.some.inj hB
      subst hB
      obtain ⟨rfl, rfl⟩ := hr
      exact s_Fin.rt rfl rfl
    · rw [if_neg hc] at hB
      refine s_Fin.bt (c := x3 ≤ 0) (tg := 143) (p2 := 135) (L1 := [some (.ref 127), some (.ref 1), some (.int x2), some (.int x3), some (.int x4), none, none]) (st1 := []) (Int32.not_lt.mp hc) rfl ?_
      refine s_Fin.sg 1 (y := (144, [some (.ref 127), some (.ref 1), some (.int x2), some (.int x3), some (.int x4), none, none], [.int x3], s_hg g)) rfl ?_
      have hB := Option.some.inj hB
      subst hB
      obtain ⟨rfl, rfl⟩ := hr
      exact s_Fin.rt rfl rfl
noncomputable def fL_findLaws_127_1 (g : s_G) : Option (Int32 × s_G) :=
  if (g.1 1 1) < (3 : Int32) then (some ((-1 : Int32), g))
  else if (18 : Int32) < (g.1 1 1) then (some ((-1 : Int32), g))
  else if ((g.1 1 1) - (g.1 1 1) / (3 : Int32) * (3 : Int32)) = 0 then (s_lp (fun x => fL_findLaws_127_1_31 (g.1 1 1) x.1 x.2 g) ((1023 : Int32), (0 : Int32)))
  else some ((-1 : Int32), g)
theorem fL_findLaws_127_1_s {g : s_G} {z : Int32 × s_G} (hB : fL_findLaws_127_1 g = some z) : s_Ev 1 s_m105 [.ref 127, .ref 1] (s_hg g) (some (.int z.1)) (s_hg z.2) := by
  unfold fL_findLaws_127_1 at hB
  refine s_Ev.fin ((?_ : ∀ (v : Option Value) (h' : s_H), (fun (z : Int32 × s_G) (v : Option Value) (h' : s_H) => v = some (.int z.1) ∧ h' = s_hg z.2) z v h' → s_Fin 1 s_m105 (0, s_ent [.ref 127, .ref 1] (s_m105).2.2.1, [], s_hg g) v h') _ _ ⟨rfl, rfl⟩)
  intro v h' hr
  refine (show s_Fin 1 s_m105 (0, [some (.ref 127), some (.ref 1), none, none, none, none, none], [], s_hg g) v h' from ?_)
  refine s_Fin.sg 5 (y := (7, [some (.ref 127), some (.ref 1), some (.int (g.1 1 1)), none, none, none, none], [.int (3 : Int32), .int (g.1 1 1)], s_hg g)) rfl ?_
  by_cases hc : (g.1 1 1) < (3 : Int32)
  · rw [if_pos hc] at hB
    refine s_Fin.bt (c := (g.1 1 1) < (3 : Int32)) (tg := 22) (p2 := 7) (L1 := [some (.ref 127), some (.ref 1), some (.int (g.1 1 1)), none, none, none, none]) (st1 := []) hc rfl ?_
    refine s_Fin.sg 1 (y := (23, [some (.ref 127), some (.ref 1), some (.int (g.1 1 1)), none, none, none, none], [.int (-1 : Int32)], s_hg g)) rfl ?_
    have hB := Option.some.inj hB
    subst hB
    obtain ⟨rfl, rfl⟩ := hr
    exact s_Fin.rt rfl rfl
  · rw [if_neg hc] at hB
    refine s_Fin.bf (c := (g.1 1 1) < (3 : Int32)) (tg := 22) (p2 := 7) (L1 := [some (.ref 127), some (.ref 1), some (.int (g.1 1 1)), none, none, none, none]) (st1 := []) hc rfl ?_
    refine s_Fin.sg 2 (y := (13, [some (.ref 127), some (.ref 1), some (.int (g.1 1 1)), none, none, none, none], [.int (18 : Int32), .int (g.1 1 1)], s_hg g)) rfl ?_
    by_cases hc : (18 : Int32) < (g.1 1 1)
    · rw [if_pos hc] at hB
      refine s_Fin.bt (c := (18 : Int32) < (g.1 1 1)) (tg := 22) (p2 := 13) (L1 := [some (.ref 127), some (.ref 1), some (.int (g.1 1 1)), none, none, none, none]) (st1 := []) hc rfl ?_
      refine s_Fin.sg 1 (y := (23, [some (.ref 127), some (.ref 1), some (.int (g.1 1 1)), none, none, none, none], [.int (-1 : Int32)], s_hg g)) rfl ?_
      have hB := Option.some.inj hB
      subst hB
      obtain ⟨rfl, rfl⟩ := hr
      exact s_Fin.rt rfl rfl
    · rw [if_neg hc] at hB
      refine s_Fin.bf (c := (18 : Int32) < (g.1 1 1)) (tg := 22) (p2 := 13) (L1 := [some (.ref 127), some (.ref 1), some (.int (g.1 1 1)), none, none, none, none]) (st1 := []) hc rfl ?_
      refine s_Fin.sg 3 (y := (19, [some (.ref 127), some (.ref 1), some (.int (g.1 1 1)), none, none, none, none], [.int ((g.1 1 1) - (g.1 1 1) / (3 : Int32) * (3 : Int32))], s_hg g)) rfl ?_
      by_cases hc : ((g.1 1 1) - (g.1 1 1) / (3 : Int32) * (3 : Int32)) = 0
      · rw [if_pos hc] at hB
        refine s_Fin.bt (c := ((g.1 1 1) - (g.1 1 1) / (3 : Int32) * (3 : Int32)) = 0) (tg := 24) (p2 := 19) (L1 := [some (.ref 127), some (.ref 1), some (.int (g.1 1 1)), none, none, none, none]) (st1 := []) hc rfl ?_
        refine s_Fin.sg 4 (y := (31, [some (.ref 127), some (.ref 1), some (.int (g.1 1 1)), some (.int (1023 : Int32)), some (.int (0 : Int32)), none, none], [], s_hg g)) rfl ?_
        exact s_Fin.more (L := [some (.ref 127), some (.ref 1), some (.int (g.1 1 1)), some (.int (1023 : Int32)), some (.int (0 : Int32)), none, none]) ⟨Or.inr rfl, Or.inr rfl, Or.inr rfl, Or.inr rfl, Or.inr rfl, Or.inl rfl, Or.inl rfl, trivial⟩ (s_lp_s (P := (fun (x : Int32 × Int32) (v : Option Value) (h' : s_H) => s_Fin 1 s_m105 (31, [some (.ref 127), some (.ref 1), some (.int (g.1 1 1)), some (.int x.1), some (.int x.2), none, none], [], s_hg g) v h')) (Q := (fun (z : Int32 × s_G) (v : Option Value) (h' : s_H) => v = some (.int z.1) ∧ h' = s_hg z.2)) (fun x z hB v h' hr => fL_findLaws_127_1_31_s hB hr) hB _ _ hr)
      · rw [if_neg hc] at hB
        refine s_Fin.bf (c := ((g.1 1 1) - (g.1 1 1) / (3 : Int32) * (3 : Int32)) = 0) (tg := 24) (p2 := 19) (L1 := [some (.ref 127), some (.ref 1), some (.int (g.1 1 1)), none, none, none, none]) (st1 := []) hc rfl ?_
        refine s_Fin.sg 1 (y := (23, [some (.ref 127), some (.ref 1), some (.int (g.1 1 1)), none, none, none, none], [.int (-1 : Int32)], s_hg g)) rfl ?_
        have hB := Option.some.inj hB
        subst hB
        obtain ⟨rfl, rfl⟩ := hr
        exact s_Fin.rt rfl rfl
-- CampAshes.laws
noncomputable def fC_laws_0 (g : s_G) : Option (Int32 × s_G) :=
  s_b2 (fL_findLaws_127_1 g) fun v2 g1 => some (v2, (s_si g1 1 1 (0 : Int32)))
theorem fC_laws_0_s {g : s_G} {z : Int32 × s_G} (hB : fC_laws_0 g = some z) : s_Ev 2 s_m104 [.ref 0] (s_hg g) (some (.int z.1)) (s_hg z.2) := by
  unfold fC_laws_0 at hB
  refine s_Ev.fin ((?_ : ∀ (v : Option Value) (h' : s_H), (fun (z : Int32 × s_G) (v : Option Value) (h' : s_H) => v = some (.int z.1) ∧ h' = s_hg z.2) z v h' → s_Fin 2 s_m104 (0, s_ent [.ref 0] (s_m104).2.2.1, [], s_hg g) v h') _ _ ⟨rfl, rfl⟩)
  intro v h' hr
  refine (show s_Fin 2 s_m104 (0, [some (.ref 0), none], [], s_hg g) v h' from ?_)
  refine s_Fin.sg 4 (y := (8, [some (.ref 0), none], [.ref 1, .ref 127], s_hg g)) rfl ?_
  obtain ⟨v2, g1, hp, hB⟩ := s_bd2 hB
  refine s_Fin.cl (d := 1) (q1 := s_m105) (md := 105) (vs := [.ref 127, .ref 1]) (rest := []) (h1 := s_hg g1) (u := some (.int v2)) (s_Ev.up (by omega) (fL_findLaws_127_1_s hp)) rfl rfl rfl rfl ?_
  refine s_Fin.sg 6 (y := (21, [some (.ref 0), some (.int v2)], [.int v2], s_hg (s_si g1 1 1 (0 : Int32)))) rfl ?_
  have hB := Option.some.inj hB
  subst hB
  obtain ⟨rfl, rfl⟩ := hr
  exact s_Fin.rt rfl rfl
-- CampAshesModel.watch
noncomputable def fM_watch_130 (g : s_G) : Option (Int32 × s_G) :=
  some (g.1 130 34, (s_si g 130 0 (0 : Int32)))
theorem fM_watch_130_s {g : s_G} {z : Int32 × s_G} (hB : fM_watch_130 g = some z) : s_Ev 0 s_m244 [.ref 130] (s_hg g) (some (.int z.1)) (s_hg z.2) := by
  unfold fM_watch_130 at hB
  refine s_Ev.fin ((?_ : ∀ (v : Option Value) (h' : s_H), (fun (z : Int32 × s_G) (v : Option Value) (h' : s_H) => v = some (.int z.1) ∧ h' = s_hg z.2) z v h' → s_Fin 0 s_m244 (0, s_ent [.ref 130] (s_m244).2.2.1, [], s_hg g) v h') _ _ ⟨rfl, rfl⟩)
  intro v h' hr
  refine (show s_Fin 0 s_m244 (0, [some (.ref 130)], [], s_hg g) v h' from ?_)
  refine s_Fin.sg 5 (y := (9, [some (.ref 130)], [.int (g.1 130 34)], s_hg (s_si g 130 0 (0 : Int32)))) rfl ?_
  have hB := Option.some.inj hB
  subst hB
  obtain ⟨rfl, rfl⟩ := hr
  exact s_Fin.rt rfl rfl
-- CampAshes$Laws.mostAlike
noncomputable def fL_mostAlike_127_46 (x1 : Int32) (x2 : Int32) (x3 : Int32) (x4 : Int32) (x5 : Int32) (t0 : Int32) (g : s_G) : Option ((Int32 × Int32) ⊕ ((Int32 × Int32) ⊕ (Int32))) :=
  if t0 = 0 then (some (.inl (x4, x5 + (1 : Int32))))
  else if (((g.1 127 0) >>> (x3 &&& 31)) &&& (1 : Int32)) = (1 : Int32) then (if (((g.1 127 0) >>> (x5 &&& 31)) &&& (1 : Int32)) = (1 : Int32) then (some (.inl (x4 + (1 : Int32), x5 + (1 : Int32))))
  else some (.inl (x4, x5 + (1 : Int32))))
  else some (.inl (x4, x5 + (1 : Int32)))
theorem fL_mostAlike_127_46_s {x1 : Int32} {x2 : Int32} {x3 : Int32} {x4 : Int32} {x5 : Int32} {t0 : Int32} {g : s_G} {z : (Int32 × Int32) ⊕ ((Int32 × Int32) ⊕ (Int32))} (hB : fL_mostAlike_127_46 x1 x2 x3 x4 x5 t0 g = some z) {v : Option Value} {h' : s_H} (hr : (s_sm (fun (x : Int32 × Int32) (v : Option Value) (h' : s_H) => s_Fin 1 s_m109 (16, [some (.ref 127), some (.int x1), some (.int x2), some (.int x3), some (.int x.1), some (.int x.2), none], [], s_hg g) v h') (s_sm (fun (x : Int32 × Int32) (v : Option Value) (h' : s_H) => s_Fin 1 s_m109 (4, [some (.ref 127), some (.int x1), some (.int x.1), some (.int x.2), none, none, none], [], s_hg g) v h') (fun (z : Int32) (v : Option Value) (h' : s_H) => v = some (.int z) ∧ h' = s_hg g))) z v h') : s_Fin 1 s_m109 (46, [some (.ref 127), some (.int x1), some (.int x2), some (.int x3), some (.int x4), some (.int x5), none], [.int t0], s_hg g) v h' := by
  unfold fL_mostAlike_127_46 at hB
  refine s_Fin.sg 2 (y := (50, [some (.ref 127), some (.int x1), some (.int x2), some (.int x3), some (.int x4), some (.int x5), some (.int t0)], [.int t0], s_hg g)) rfl ?_
  by_cases hc : t0 = 0
  · rw [if_pos hc] at hB
    refine s_Fin.bt (c := t0 = 0) (tg := 81) (p2 := 50) (L1 := [some (.ref 127), some (.int x1), some (.int x2), some (.int x3), some (.int x4), some (.int x5), some (.int t0)]) (st1 := []) hc rfl ?_
    refine s_Fin.sg 2 (y := (16, [some (.ref 127), some (.int x1), some (.int x2), some (.int x3), some (.int x4), some (.int (x5 + (1 : Int32))), some (.int t0)], [], s_hg g)) rfl ?_
    have hB := Option.some.inj hB
    subst hB
    exact s_Fin.more (L := [some (.ref 127), some (.int x1), some (.int x2), some (.int x3), some (.int x4), some (.int (x5 + (1 : Int32))), none]) ⟨Or.inr rfl, Or.inr rfl, Or.inr rfl, Or.inr rfl, Or.inr rfl, Or.inr rfl, Or.inl rfl, trivial⟩ hr
  · rw [if_neg hc] at hB
    refine s_Fin.bf (c := t0 = 0) (tg := 81) (p2 := 50) (L1 := [some (.ref 127), some (.int x1), some (.int x2), some (.int x3), some (.int x4), some (.int x5), some (.int t0)]) (st1 := []) hc rfl ?_
    refine s_Fin.sg 7 (y := (62, [some (.ref 127), some (.int x1), some (.int x2), some (.int x3), some (.int x4), some (.int x5), some (.int t0)], [.int (1 : Int32), .int (((g.1 127 0) >>> (x3 &&& 31)) &&& (1 : Int32))], s_hg g)) rfl ?_
    by_cases hc : (((g.1 127 0) >>> (x3 &&& 31)) &&& (1 : Int32)) = (1 : Int32)
    · rw [if_pos hc] at hB
      refine s_Fin.bf (c := ¬ (((g.1 127 0) >>> (x3 &&& 31)) &&& (1 : Int32)) = (1 : Int32)) (tg := 81) (p2 := 62) (L1 := [some (.ref 127), some (.int x1), some (.int x2), some (.int x3), some (.int x4), some (.int x5), some (.int t0)]) (st1 := []) (fun h => h hc) rfl ?_
      refine s_Fin.sg 7 (y := (75, [some (.ref 127), some (.int x1), some (.int x2), some (.int x3), some (.int x4), some (.int x5), some (.int t0)], [.int (1 : Int32), .int (((g.1 127 0) >>> (x5 &&& 31)) &&& (1 : Int32))], s_hg g)) rfl ?_
      by_cases hc : (((g.1 127 0) >>> (x5 &&& 31)) &&& (1 : Int32)) = (1 : Int32)
      · rw [if_pos hc] at hB
        refine s_Fin.bf (c := ¬ (((g.1 127 0) >>> (x5 &&& 31)) &&& (1 : Int32)) = (1 : Int32)) (tg := 81) (p2 := 75) (L1 := [some (.ref 127), some (.int x1), some (.int x2), some (.int x3), some (.int x4), some (.int x5), some (.int t0)]) (st1 := []) (fun h => h hc) rfl ?_
        refine s_Fin.sg 3 (y := (16, [some (.ref 127), some (.int x1), some (.int x2), some (.int x3), some (.int (x4 + (1 : Int32))), some (.int (x5 + (1 : Int32))), some (.int t0)], [], s_hg g)) rfl ?_
        have hB := Option.some.inj hB
        subst hB
        exact s_Fin.more (L := [some (.ref 127), some (.int x1), some (.int x2), some (.int x3), some (.int (x4 + (1 : Int32))), some (.int (x5 + (1 : Int32))), none]) ⟨Or.inr rfl, Or.inr rfl, Or.inr rfl, Or.inr rfl, Or.inr rfl, Or.inr rfl, Or.inl rfl, trivial⟩ hr
      · rw [if_neg hc] at hB
        refine s_Fin.bt (c := ¬ (((g.1 127 0) >>> (x5 &&& 31)) &&& (1 : Int32)) = (1 : Int32)) (tg := 81) (p2 := 75) (L1 := [some (.ref 127), some (.int x1), some (.int x2), some (.int x3), some (.int x4), some (.int x5), some (.int t0)]) (st1 := []) hc rfl ?_
        refine s_Fin.sg 2 (y := (16, [some (.ref 127), some (.int x1), some (.int x2), some (.int x3), some (.int x4), some (.int (x5 + (1 : Int32))), some (.int t0)], [], s_hg g)) rfl ?_
        have hB := Option.some.inj hB
        subst hB
        exact s_Fin.more (L := [some (.ref 127), some (.int x1), some (.int x2), some (.int x3), some (.int x4), some (.int (x5 + (1 : Int32))), none]) ⟨Or.inr rfl, Or.inr rfl, Or.inr rfl, Or.inr rfl, Or.inr rfl, Or.inr rfl, Or.inl rfl, trivial⟩ hr
    · rw [if_neg hc] at hB
      refine s_Fin.bt (c := ¬ (((g.1 127 0) >>> (x3 &&& 31)) &&& (1 : Int32)) = (1 : Int32)) (tg := 81) (p2 := 62) (L1 := [some (.ref 127), some (.int x1), some (.int x2), some (.int x3), some (.int x4), some (.int x5), some (.int t0)]) (st1 := []) hc rfl ?_
      refine s_Fin.sg 2 (y := (16, [some (.ref 127), some (.int x1), some (.int x2), some (.int x3), some (.int x4), some (.int (x5 + (1 : Int32))), some (.int t0)], [], s_hg g)) rfl ?_
      have hB := Option.some.inj hB
      subst hB
      exact s_Fin.more (L := [some (.ref 127), some (.int x1), some (.int x2), some (.int x3), some (.int x4), some (.int (x5 + (1 : Int32))), none]) ⟨Or.inr rfl, Or.inr rfl, Or.inr rfl, Or.inr rfl, Or.inr rfl, Or.inr rfl, Or.inl rfl, trivial⟩ hr
noncomputable def fL_mostAlike_127_16 (x1 : Int32) (x2 : Int32) (x3 : Int32) (x4 : Int32) (x5 : Int32) (g : s_G) : Option ((Int32 × Int32) ⊕ ((Int32 × Int32) ⊕ (Int32))) :=
  if x5 < (10 : Int32) then (s_b1 (fL_leftBehind_s x3 (10 : Int32) x1 g) fun v1 => s_b1 (fL_leftBehind_s x5 (10 : Int32) x1 g) fun v2 => if v1 = v2 then (fL_mostAlike_127_46 x1 x2 x3 x4 x5 (1 : Int32) g)
  else fL_mostAlike_127_46 x1 x2 x3 x4 x5 (0 : Int32) g)
  else s_in (some (.inl (if x2 < x4 then x4 else x2, x3 + (1 : Int32))))
theorem fL_mostAlike_127_16_s {x1 : Int32} {x2 : Int32} {x3 : Int32} {x4 : Int32} {x5 : Int32} {g : s_G} {z : (Int32 × Int32) ⊕ ((Int32 × Int32) ⊕ (Int32))} (hB : fL_mostAlike_127_16 x1 x2 x3 x4 x5 g = some z) {v : Option Value} {h' : s_H} (hr : (s_sm (fun (x : Int32 × Int32) (v : Option Value) (h' : s_H) => s_Fin 1 s_m109 (16, [some (.ref 127), some (.int x1), some (.int x2), some (.int x3), some (.int x.1), some (.int x.2), none], [], s_hg g) v h') (s_sm (fun (x : Int32 × Int32) (v : Option Value) (h' : s_H) => s_Fin 1 s_m109 (4, [some (.ref 127), some (.int x1), some (.int x.1), some (.int x.2), none, none, none], [], s_hg g) v h') (fun (z : Int32) (v : Option Value) (h' : s_H) => v = some (.int z) ∧ h' = s_hg g))) z v h') : s_Fin 1 s_m109 (16, [some (.ref 127), some (.int x1), some (.int x2), some (.int x3), some (.int x4), some (.int x5), none], [], s_hg g) v h' := by
  unfold fL_mostAlike_127_16 at hB
  refine s_Fin.sg 2 (y := (20, [some (.ref 127), some (.int x1), some (.int x2), some (.int x3), some (.int x4), some (.int x5), none], [.int (10 : Int32), .int x5], s_hg g)) rfl ?_
  by_cases hc : x5 < (10 : Int32)
  · rw [if_pos hc] at hB
    refine s_Fin.bf (c := (10 : Int32) ≤ x5) (tg := 87) (p2 := 20) (L1 := [some (.ref 127), some (.int x1), some (.int x2), some (.int x3), some (.int x4), some (.int x5), none]) (st1 := []) (Int32.not_le.mpr hc) rfl ?_
    refine s_Fin.sg 3 (y := (27, [some (.ref 127), some (.int x1), some (.int x2), some (.int x3), some (.int x4), some (.int x5), none], [.int x1, .int (10 : Int32), .int x3], s_hg g)) rfl ?_
    obtain ⟨v1, hp, hB⟩ := s_bd hB
    refine s_Fin.cl (d := 0) (q1 := s_m106) (md := 106) (vs := [.int x3, .int (10 : Int32), .int x1]) (rest := []) (h1 := s_hg g) (u := some (.int v1)) (s_Ev.up (by omega) (fL_leftBehind_s_s hp)) rfl rfl rfl rfl ?_
    refine s_Fin.sg 3 (y := (35, [some (.ref 127), some (.int x1), some (.int x2), some (.int x3), some (.int x4), some (.int x5), none], [.int x1, .int (10 : Int32), .int x5, .int v1], s_hg g)) rfl ?_
    obtain ⟨v2, hp, hB⟩ := s_bd hB
    refine s_Fin.cl (d := 0) (q1 := s_m106) (md := 106) (vs := [.int x5, .int (10 : Int32), .int x1]) (rest := [.int v1]) (h1 := s_hg g) (u := some (.int v2)) (s_Ev.up (by omega) (fL_leftBehind_s_s hp)) rfl rfl rfl rfl ?_
    by_cases hc : v1 = v2
    · rw [if_pos hc] at hB
      refine s_Fin.bf (c := ¬ v1 = v2) (tg := 45) (p2 := 38) (L1 := [some (.ref 127), some (.int x1), some (.int x2), some (.int x3), some (.int x4), some (.int x5), none]) (st1 := []) (fun h => h hc) rfl ?_
      refine s_Fin.sg 2 (y := (46, [some (.ref 127), some (.int x1), some (.int x2), some (.int x3), some (.int x4), some (.int x5), none], [.int (1 : Int32)], s_hg g)) rfl ?_
      exact s_Fin.more (L := [some (.ref 127), some (.int x1), some (.int x2), some (.int x3), some (.int x4), some (.int x5), none]) ⟨Or.inr rfl, Or.inr rfl, Or.inr rfl, Or.inr rfl, Or.inr rfl, Or.inr rfl, Or.inl rfl, trivial⟩ (fL_mostAlike_127_46_s hB hr)
    · rw [if_neg hc] at hB
      refine s_Fin.bt (c := ¬ v1 = v2) (tg := 45) (p2 := 38) (L1 := [some (.ref 127), some (.int x1), some (.int x2), some (.int x3), some (.int x4), some (.int x5), none]) (st1 := []) hc rfl ?_
      refine s_Fin.sg 1 (y := (46, [some (.ref 127), some (.int x1), some (.int x2), some (.int x3), some (.int x4), some (.int x5), none], [.int (0 : Int32)], s_hg g)) rfl ?_
      exact s_Fin.more (L := [some (.ref 127), some (.int x1), some (.int x2), some (.int x3), some (.int x4), some (.int x5), none]) ⟨Or.inr rfl, Or.inr rfl, Or.inr rfl, Or.inr rfl, Or.inr rfl, Or.inr rfl, Or.inl rfl, trivial⟩ (fL_mostAlike_127_46_s hB hr)
  · rw [if_neg hc] at hB
    refine s_Fin.bt (c := (10 : Int32) ≤ x5) (tg := 87) (p2 := 20) (L1 := [some (.ref 127), some (.int x1), some (.int x2), some (.int x3), some (.int x4), some (.int x5), none]) (st1 := []) (Int32.not_lt.mp hc) rfl ?_
    obtain ⟨_, hN, hz⟩ := s_in_of hB
    subst hz
    have hB := hN
    refine s_Fin.sg 6 (y := (4, [some (.ref 127), some (.int x1), some (.int (if x2 < x4 then x4 else x2)), some (.int (x3 + (1 : Int32))), some (.int x4), some (.int x5), none], [], s_hg g)) rfl ?_
    have hB := Option.some.inj hB
    subst hB
    exact s_Fin.more (L := [some (.ref 127), some (.int x1), some (.int (if x2 < x4 then x4 else x2)), some (.int (x3 + (1 : Int32))), none, none, none]) ⟨Or.inr rfl, Or.inr rfl, Or.inr rfl, Or.inr rfl, Or.inl rfl, Or.inl rfl, Or.inl rfl, trivial⟩ hr
noncomputable def fL_mostAlike_127_4 (x1 : Int32) (x2 : Int32) (x3 : Int32) (g : s_G) : Option ((Int32 × Int32) ⊕ (Int32)) :=
  if x3 < (10 : Int32) then (s_lp (fun x => fL_mostAlike_127_16 x1 x2 x3 x.1 x.2 g) ((0 : Int32), (0 : Int32)))
  else s_in (some x2)
theorem fL_mostAlike_127_4_s {x1 : Int32} {x2 : Int32} {x3 : Int32} {g : s_G} {z : (Int32 × Int32) ⊕ (Int32)} (hB : fL_mostAlike_127_4 x1 x2 x3 g = some z) {v : Option Value} {h' : s_H} (hr : (s_sm (fun (x : Int32 × Int32) (v : Option Value) (h' : s_H) => s_Fin 1 s_m109 (4, [some (.ref 127), some (.int x1), some (.int x.1), some (.int x.2), none, none, none], [], s_hg g) v h') (fun (z : Int32) (v : Option Value) (h' : s_H) => v = some (.int z) ∧ h' = s_hg g)) z v h') : s_Fin 1 s_m109 (4, [some (.ref 127), some (.int x1), some (.int x2), some (.int x3), none, none, none], [], s_hg g) v h' := by
  unfold fL_mostAlike_127_4 at hB
  refine s_Fin.sg 2 (y := (7, [some (.ref 127), some (.int x1), some (.int x2), some (.int x3), none, none, none], [.int (10 : Int32), .int x3], s_hg g)) rfl ?_
  by_cases hc : x3 < (10 : Int32)
  · rw [if_pos hc] at hB
    refine s_Fin.bf (c := (10 : Int32) ≤ x3) (tg := 100) (p2 := 7) (L1 := [some (.ref 127), some (.int x1), some (.int x2), some (.int x3), none, none, none]) (st1 := []) (Int32.not_le.mpr hc) rfl ?_
    refine s_Fin.sg 4 (y := (16, [some (.ref 127), some (.int x1), some (.int x2), some (.int x3), some (.int (0 : Int32)), some (.int (0 : Int32)), none], [], s_hg g)) rfl ?_
    exact s_Fin.more (L := [some (.ref 127), some (.int x1), some (.int x2), some (.int x3), some (.int (0 : Int32)), some (.int (0 : Int32)), none]) ⟨Or.inr rfl, Or.inr rfl, Or.inr rfl, Or.inr rfl, Or.inr rfl, Or.inr rfl, Or.inl rfl, trivial⟩ (s_lp_s (P := (fun (x : Int32 × Int32) (v : Option Value) (h' : s_H) => s_Fin 1 s_m109 (16, [some (.ref 127), some (.int x1), some (.int x2), some (.int x3), some (.int x.1), some (.int x.2), none], [], s_hg g) v h')) (Q := (s_sm (fun (x : Int32 × Int32) (v : Option Value) (h' : s_H) => s_Fin 1 s_m109 (4, [some (.ref 127), some (.int x1), some (.int x.1), some (.int x.2), none, none, none], [], s_hg g) v h') (fun (z : Int32) (v : Option Value) (h' : s_H) => v = some (.int z) ∧ h' = s_hg g))) (fun x z hB v h' hr => fL_mostAlike_127_16_s hB hr) hB _ _ hr)
  · rw [if_neg hc] at hB
    refine s_Fin.bt (c := (10 : Int32) ≤ x3) (tg := 100) (p2 := 7) (L1 := [some (.ref 127), some (.int x1), some (.int x2), some (.int x3), none, none, none]) (st1 := []) (Int32.not_lt.mp hc) rfl ?_
    obtain ⟨_, hN, hz⟩ := s_in_of hB
    subst hz
    have hB := hN
    refine s_Fin.sg 1 (y := (101, [some (.ref 127), some (.int x1), some (.int x2), some (.int x3), none, none, none], [.int x2], s_hg g)) rfl ?_
    have hB := Option.some.inj hB
    subst hB
    obtain ⟨rfl, rfl⟩ := hr
    exact s_Fin.rt rfl rfl
noncomputable def fL_mostAlike_127 (x1 : Int32) (g : s_G) : Option (Int32) :=
  s_lp (fun x => fL_mostAlike_127_4 x1 x.1 x.2 g) ((0 : Int32), (0 : Int32))
theorem fL_mostAlike_127_s {x1 : Int32} {g : s_G} {z : Int32} (hB : fL_mostAlike_127 x1 g = some z) : s_Ev 1 s_m109 [.ref 127, .int x1] (s_hg g) (some (.int z)) (s_hg g) := by
  unfold fL_mostAlike_127 at hB
  refine s_Ev.fin ((?_ : ∀ (v : Option Value) (h' : s_H), (fun (z : Int32) (v : Option Value) (h' : s_H) => v = some (.int z) ∧ h' = s_hg g) z v h' → s_Fin 1 s_m109 (0, s_ent [.ref 127, .int x1] (s_m109).2.2.1, [], s_hg g) v h') _ _ ⟨rfl, rfl⟩)
  intro v h' hr
  refine (show s_Fin 1 s_m109 (0, [some (.ref 127), some (.int x1), none, none, none, none, none], [], s_hg g) v h' from ?_)
  refine s_Fin.sg 4 (y := (4, [some (.ref 127), some (.int x1), some (.int (0 : Int32)), some (.int (0 : Int32)), none, none, none], [], s_hg g)) rfl ?_
  exact s_Fin.more (L := [some (.ref 127), some (.int x1), some (.int (0 : Int32)), some (.int (0 : Int32)), none, none, none]) ⟨Or.inr rfl, Or.inr rfl, Or.inr rfl, Or.inr rfl, Or.inl rfl, Or.inl rfl, Or.inl rfl, trivial⟩ (s_lp_s (P := (fun (x : Int32 × Int32) (v : Option Value) (h' : s_H) => s_Fin 1 s_m109 (4, [some (.ref 127), some (.int x1), some (.int x.1), some (.int x.2), none, none, none], [], s_hg g) v h')) (Q := (fun (z : Int32) (v : Option Value) (h' : s_H) => v = some (.int z) ∧ h' = s_hg g)) (fun x z hB v h' hr => fL_mostAlike_127_4_s hB hr) hB _ _ hr)
-- CampAshes$Laws.findWatch
noncomputable def fL_findWatch_127_16 (x1 : Int32) (x2 : Int32) (x3 : Int32) (g : s_G) : Option ((Int32 × Int32 × Int32) ⊕ (Int32)) :=
  if (40 : Int32) < x3 then (s_in (some x1))
  else s_b1 (fL_mostAlike_127 x3 g) fun v1 => if v1 < x2 then (some (.inl (x3, v1, x3 + (1 : Int32))))
  else some (.inl (x1, x2, x3 + (1 : Int32)))
theorem fL_findWatch_127_16_s {x1 : Int32} {x2 : Int32} {x3 : Int32} {g : s_G} {z : (Int32 × Int32 × Int32) ⊕ (Int32)} (hB : fL_findWatch_127_16 x1 x2 x3 g = some z) {v : Option Value} {h' : s_H} (hr : (s_sm (fun (x : Int32 × Int32 × Int32) (v : Option Value) (h' : s_H) => s_Fin 2 s_m108 (16, [some (.ref 127), some (.int x.1), some (.int x.2.1), some (.int x.2.2), none], [], s_hg g) v h') (fun (z : Int32) (v : Option Value) (h' : s_H) => v = some (.int z) ∧ h' = s_hg g)) z v h') : s_Fin 2 s_m108 (16, [some (.ref 127), some (.int x1), some (.int x2), some (.int x3), none], [], s_hg g) v h' := by
  unfold fL_findWatch_127_16 at hB
  refine s_Fin.sg 2 (y := (19, [some (.ref 127), some (.int x1), some (.int x2), some (.int x3), none], [.int (40 : Int32), .int x3], s_hg g)) rfl ?_
  by_cases hc : (40 : Int32) < x3
  · rw [if_pos hc] at hB
    refine s_Fin.bt (c := (40 : Int32) < x3) (tg := 46) (p2 := 19) (L1 := [some (.ref 127), some (.int x1), some (.int x2), some (.int x3), none]) (st1 := []) hc rfl ?_
    obtain ⟨_, hN, hz⟩ := s_in_of hB
    subst hz
    have hB := hN
    refine s_Fin.sg 1 (y := (47, [some (.ref 127), some (.int x1), some (.int x2), some (.int x3), none], [.int x1], s_hg g)) rfl ?_
    have hB := Option.some.inj hB
    subst hB
    obtain ⟨rfl, rfl⟩ := hr
    exact s_Fin.rt rfl rfl
  · rw [if_neg hc] at hB
    refine s_Fin.bf (c := (40 : Int32) < x3) (tg := 46) (p2 := 19) (L1 := [some (.ref 127), some (.int x1), some (.int x2), some (.int x3), none]) (st1 := []) hc rfl ?_
    refine s_Fin.sg 2 (y := (24, [some (.ref 127), some (.int x1), some (.int x2), some (.int x3), none], [.int x3, .ref 127], s_hg g)) rfl ?_
    obtain ⟨v1, hp, hB⟩ := s_bd hB
    refine s_Fin.cl (d := 1) (q1 := s_m109) (md := 109) (vs := [.ref 127, .int x3]) (rest := []) (h1 := s_hg g) (u := some (.int v1)) (s_Ev.up (by omega) (fL_mostAlike_127_s hp)) rfl rfl rfl rfl ?_
    refine s_Fin.sg 3 (y := (32, [some (.ref 127), some (.int x1), some (.int x2), some (.int x3), some (.int v1)], [.int x2, .int v1], s_hg g)) rfl ?_
    by_cases hc : v1 < x2
    · rw [if_pos hc] at hB
      refine s_Fin.bf (c := x2 ≤ v1) (tg := 40) (p2 := 32) (L1 := [some (.ref 127), some (.int x1), some (.int x2), some (.int x3), some (.int v1)]) (st1 := []) (Int32.not_le.mpr hc) rfl ?_
      refine s_Fin.sg 6 (y := (16, [some (.ref 127), some (.int x3), some (.int v1), some (.int (x3 + (1 : Int32))), some (.int v1)], [], s_hg g)) rfl ?_
      have hB := Option.some.inj hB
      subst hB
      exact s_Fin.more (L := [some (.ref 127), some (.int x3), some (.int v1), some (.int (x3 + (1 : Int32))), none]) ⟨Or.inr rfl, Or.inr rfl, Or.inr rfl, Or.inr rfl, Or.inl rfl, trivial⟩ hr
    · rw [if_neg hc] at hB
      refine s_Fin.bt (c := x2 ≤ v1) (tg := 40) (p2 := 32) (L1 := [some (.ref 127), some (.int x1), some (.int x2), some (.int x3), some (.int v1)]) (st1 := []) (Int32.not_lt.mp hc) rfl ?_
      refine s_Fin.sg 2 (y := (16, [some (.ref 127), some (.int x1), some (.int x2), some (.int (x3 + (1 : Int32))), some (.int v1)], [], s_hg g)) rfl ?_
      have hB := Option.some.inj hB
      subst hB
      exact s_Fin.more (L := [some (.ref 127), some (.int x1), some (.int x2), some (.int (x3 + (1 : Int32))), none]) ⟨Or.inr rfl, Or.inr rfl, Or.inr rfl, Or.inr rfl, Or.inl rfl, trivial⟩ hr
noncomputable def fL_findWatch_127 (g : s_G) : Option (Int32) :=
  if (g.1 127 0) = 0 then (some (-1 : Int32))
  else s_lp (fun x => fL_findWatch_127_16 x.1 x.2.1 x.2.2 g) ((1 : Int32), (11 : Int32), (1 : Int32))
theorem fL_findWatch_127_s {g : s_G} {z : Int32} (hB : fL_findWatch_127 g = some z) : s_Ev 2 s_m108 [.ref 127] (s_hg g) (some (.int z)) (s_hg g) := by
  unfold fL_findWatch_127 at hB
  refine s_Ev.fin ((?_ : ∀ (v : Option Value) (h' : s_H), (fun (z : Int32) (v : Option Value) (h' : s_H) => v = some (.int z) ∧ h' = s_hg g) z v h' → s_Fin 2 s_m108 (0, s_ent [.ref 127] (s_m108).2.2.1, [], s_hg g) v h') _ _ ⟨rfl, rfl⟩)
  intro v h' hr
  refine (show s_Fin 2 s_m108 (0, [some (.ref 127), none, none, none, none], [], s_hg g) v h' from ?_)
  refine s_Fin.sg 2 (y := (4, [some (.ref 127), none, none, none, none], [.int (g.1 127 0)], s_hg g)) rfl ?_
  by_cases hc : (g.1 127 0) = 0
  · rw [if_pos hc] at hB
    refine s_Fin.bf (c := ¬ (g.1 127 0) = 0) (tg := 9) (p2 := 4) (L1 := [some (.ref 127), none, none, none, none]) (st1 := []) (fun h => h hc) rfl ?_
    refine s_Fin.sg 1 (y := (8, [some (.ref 127), none, none, none, none], [.int (-1 : Int32)], s_hg g)) rfl ?_
    have hB := Option.some.inj hB
    subst hB
    obtain ⟨rfl, rfl⟩ := hr
    exact s_Fin.rt rfl rfl
  · rw [if_neg hc] at hB
    refine s_Fin.bt (c := ¬ (g.1 127 0) = 0) (tg := 9) (p2 := 4) (L1 := [some (.ref 127), none, none, none, none]) (st1 := []) hc rfl ?_
    refine s_Fin.sg 6 (y := (16, [some (.ref 127), some (.int (1 : Int32)), some (.int (11 : Int32)), some (.int (1 : Int32)), none], [], s_hg g)) rfl ?_
    exact s_Fin.more (L := [some (.ref 127), some (.int (1 : Int32)), some (.int (11 : Int32)), some (.int (1 : Int32)), none]) ⟨Or.inr rfl, Or.inr rfl, Or.inr rfl, Or.inr rfl, Or.inl rfl, trivial⟩ (s_lp_s (P := (fun (x : Int32 × Int32 × Int32) (v : Option Value) (h' : s_H) => s_Fin 2 s_m108 (16, [some (.ref 127), some (.int x.1), some (.int x.2.1), some (.int x.2.2), none], [], s_hg g) v h')) (Q := (fun (z : Int32) (v : Option Value) (h' : s_H) => v = some (.int z) ∧ h' = s_hg g)) (fun x z hB v h' hr => fL_findWatch_127_16_s hB hr) hB _ _ hr)
-- CampAshes.watch
noncomputable def fC_watch_0 (g : s_G) : Option (Int32) :=
  s_b1 (fL_findWatch_127 g) fun v1 => some v1
theorem fC_watch_0_s {g : s_G} {z : Int32} (hB : fC_watch_0 g = some z) : s_Ev 3 s_m107 [.ref 0] (s_hg g) (some (.int z)) (s_hg g) := by
  unfold fC_watch_0 at hB
  refine s_Ev.fin ((?_ : ∀ (v : Option Value) (h' : s_H), (fun (z : Int32) (v : Option Value) (h' : s_H) => v = some (.int z) ∧ h' = s_hg g) z v h' → s_Fin 3 s_m107 (0, s_ent [.ref 0] (s_m107).2.2.1, [], s_hg g) v h') _ _ ⟨rfl, rfl⟩)
  intro v h' hr
  refine (show s_Fin 3 s_m107 (0, [some (.ref 0)], [], s_hg g) v h' from ?_)
  refine s_Fin.sg 2 (y := (4, [some (.ref 0)], [.ref 127], s_hg g)) rfl ?_
  obtain ⟨v1, hp, hB⟩ := s_bd hB
  refine s_Fin.cl (d := 2) (q1 := s_m108) (md := 108) (vs := [.ref 127]) (rest := []) (h1 := s_hg g) (u := some (.int v1)) (s_Ev.up (by omega) (fL_findWatch_127_s hp)) rfl rfl rfl rfl ?_
  have hB := Option.some.inj hB
  subst hB
  obtain ⟨rfl, rfl⟩ := hr
  exact s_Fin.rt rfl rfl
-- CampAshesModel.layAside
noncomputable def fM_layAside_130_2 (x1 : Int32) (g : s_G) : Option ((Int32 × s_G) ⊕ (s_G)) :=
  if x1 < (86 : Int32) then (s_b1 (s_ix 375 ((47 : Int32) + x1)) fun k2 => s_b1 (s_ix 86 x1) fun k4 => some (.inl (x1 + (1 : Int32), (s_si g 136 k4 (g.1 132 k2)))))
  else s_in (some g)
theorem fM_layAside_130_2_s {x1 : Int32} {g : s_G} {z : (Int32 × s_G) ⊕ (s_G)} (hB : fM_layAside_130_2 x1 g = some z) {v : Option Value} {h' : s_H} (hr : (s_sm (fun (x : Int32 × s_G) (v : Option Value) (h' : s_H) => s_Fin 0 s_m246 (2, [some (.ref 130), some (.int x.1)], [], s_hg x.2) v h') (fun (z : s_G) (v : Option Value) (h' : s_H) => v = none ∧ h' = s_hg z)) z v h') : s_Fin 0 s_m246 (2, [some (.ref 130), some (.int x1)], [], s_hg g) v h' := by
  unfold fM_layAside_130_2 at hB
  refine s_Fin.sg 2 (y := (5, [some (.ref 130), some (.int x1)], [.int (86 : Int32), .int x1], s_hg g)) rfl ?_
  by_cases hc : x1 < (86 : Int32)
  · rw [if_pos hc] at hB
    refine s_Fin.bf (c := (86 : Int32) ≤ x1) (tg := 29) (p2 := 5) (L1 := [some (.ref 130), some (.int x1)]) (st1 := []) (Int32.not_le.mpr hc) rfl ?_
    refine s_Fin.sg 8 (y := (21, [some (.ref 130), some (.int x1)], [.int ((47 : Int32) + x1), .ref 132, .int x1, .ref 136], s_hg g)) rfl ?_
    obtain ⟨k2, hk2, hB⟩ := s_bd hB
    refine s_Fin.ix (n := 375) (i := (47 : Int32) + x1) (pc1 := 22) (L1 := [some (.ref 130), some (.int x1)]) (fun j1 => [.int (g.1 132 j1), .int x1, .ref 136]) (fun j1 => s_hg g) hk2 rfl rfl ?_
    obtain ⟨k4, hk4, hB⟩ := s_bd hB
    refine s_Fin.ix (n := 86) (i := x1) (pc1 := 23) (L1 := [some (.ref 130), some (.int x1)]) (fun j3 => []) (fun j3 => s_hg (s_si g 136 j3 (g.1 132 k2))) hk4 rfl rfl ?_
    refine s_Fin.sg 2 (y := (2, [some (.ref 130), some (.int (x1 + (1 : Int32)))], [], s_hg (s_si g 136 k4 (g.1 132 k2)))) rfl ?_
    have hB := Option.some.inj hB
    subst hB
    exact s_Fin.more (L := [some (.ref 130), some (.int (x1 + (1 : Int32)))]) ⟨Or.inr rfl, Or.inr rfl, trivial⟩ hr
  · rw [if_neg hc] at hB
    refine s_Fin.bt (c := (86 : Int32) ≤ x1) (tg := 29) (p2 := 5) (L1 := [some (.ref 130), some (.int x1)]) (st1 := []) (Int32.not_lt.mp hc) rfl ?_
    obtain ⟨_, hN, hz⟩ := s_in_of hB
    subst hz
    have hB := hN
    have hB := Option.some.inj hB
    subst hB
    obtain ⟨rfl, rfl⟩ := hr
    exact s_Fin.rt rfl rfl
noncomputable def fM_layAside_130 (g : s_G) : Option (s_G) :=
  s_lp (fun x => fM_layAside_130_2 x.1 x.2) ((0 : Int32), g)
theorem fM_layAside_130_s {g : s_G} {z : s_G} (hB : fM_layAside_130 g = some z) : s_Ev 0 s_m246 [.ref 130] (s_hg g) (none) (s_hg z) := by
  unfold fM_layAside_130 at hB
  refine s_Ev.fin ((?_ : ∀ (v : Option Value) (h' : s_H), (fun (z : s_G) (v : Option Value) (h' : s_H) => v = none ∧ h' = s_hg z) z v h' → s_Fin 0 s_m246 (0, s_ent [.ref 130] (s_m246).2.2.1, [], s_hg g) v h') _ _ ⟨rfl, rfl⟩)
  intro v h' hr
  refine (show s_Fin 0 s_m246 (0, [some (.ref 130), none], [], s_hg g) v h' from ?_)
  refine s_Fin.sg 2 (y := (2, [some (.ref 130), some (.int (0 : Int32))], [], s_hg g)) rfl ?_
  exact s_Fin.more (L := [some (.ref 130), some (.int (0 : Int32))]) ⟨Or.inr rfl, Or.inr rfl, trivial⟩ (s_lp_s (P := (fun (x : Int32 × s_G) (v : Option Value) (h' : s_H) => s_Fin 0 s_m246 (2, [some (.ref 130), some (.int x.1)], [], s_hg x.2) v h')) (Q := (fun (z : s_G) (v : Option Value) (h' : s_H) => v = none ∧ h' = s_hg z)) (fun x z hB v h' hr => fM_layAside_130_2_s hB hr) hB _ _ hr)
-- CampAshesModel.takeBack
noncomputable def fM_takeBack_130_2 (x1 : Int32) (g : s_G) : Option ((Int32 × s_G) ⊕ (s_G)) :=
  if x1 < (86 : Int32) then (s_b1 (s_ix 86 x1) fun k2 => s_b1 (s_ix 375 ((47 : Int32) + x1)) fun k4 => some (.inl (x1 + (1 : Int32), (s_si g 132 k4 (g.1 136 k2)))))
  else s_in (some g)
theorem fM_takeBack_130_2_s {x1 : Int32} {g : s_G} {z : (Int32 × s_G) ⊕ (s_G)} (hB : fM_takeBack_130_2 x1 g = some z) {v : Option Value} {h' : s_H} (hr : (s_sm (fun (x : Int32 × s_G) (v : Option Value) (h' : s_H) => s_Fin 0 s_m247 (2, [some (.ref 130), some (.int x.1)], [], s_hg x.2) v h') (fun (z : s_G) (v : Option Value) (h' : s_H) => v = none ∧ h' = s_hg z)) z v h') : s_Fin 0 s_m247 (2, [some (.ref 130), some (.int x1)], [], s_hg g) v h' := by
  unfold fM_takeBack_130_2 at hB
  refine s_Fin.sg 2 (y := (5, [some (.ref 130), some (.int x1)], [.int (86 : Int32), .int x1], s_hg g)) rfl ?_
  by_cases hc : x1 < (86 : Int32)
  · rw [if_pos hc] at hB
    refine s_Fin.bf (c := (86 : Int32) ≤ x1) (tg := 29) (p2 := 5) (L1 := [some (.ref 130), some (.int x1)]) (st1 := []) (Int32.not_le.mpr hc) rfl ?_
    refine s_Fin.sg 8 (y := (21, [some (.ref 130), some (.int x1)], [.int x1, .ref 136, .int ((47 : Int32) + x1), .ref 132], s_hg g)) rfl ?_
    obtain ⟨k2, hk2, hB⟩ := s_bd hB
    refine s_Fin.ix (n := 86) (i := x1) (pc1 := 22) (L1 := [some (.ref 130), some (.int x1)]) (fun j1 => [.int (g.1 136 j1), .int ((47 : Int32) + x1), .ref 132]) (fun j1 => s_hg g) hk2 rfl rfl ?_
    obtain ⟨k4, hk4, hB⟩ := s_bd hB
    refine s_Fin.ix (n := 375) (i := (47 : Int32) + x1) (pc1 := 23) (L1 := [some (.ref 130), some (.int x1)]) (fun j3 => []) (fun j3 => s_hg (s_si g 132 j3 (g.1 136 k2))) hk4 rfl rfl ?_
    refine s_Fin.sg 2 (y := (2, [some (.ref 130), some (.int (x1 + (1 : Int32)))], [], s_hg (s_si g 132 k4 (g.1 136 k2)))) rfl ?_
    have hB := Option.some.inj hB
    subst hB
    exact s_Fin.more (L := [some (.ref 130), some (.int (x1 + (1 : Int32)))]) ⟨Or.inr rfl, Or.inr rfl, trivial⟩ hr
  · rw [if_neg hc] at hB
    refine s_Fin.bt (c := (86 : Int32) ≤ x1) (tg := 29) (p2 := 5) (L1 := [some (.ref 130), some (.int x1)]) (st1 := []) (Int32.not_lt.mp hc) rfl ?_
    obtain ⟨_, hN, hz⟩ := s_in_of hB
    subst hz
    have hB := hN
    have hB := Option.some.inj hB
    subst hB
    obtain ⟨rfl, rfl⟩ := hr
    exact s_Fin.rt rfl rfl
noncomputable def fM_takeBack_130 (g : s_G) : Option (s_G) :=
  s_lp (fun x => fM_takeBack_130_2 x.1 x.2) ((0 : Int32), g)
theorem fM_takeBack_130_s {g : s_G} {z : s_G} (hB : fM_takeBack_130 g = some z) : s_Ev 0 s_m247 [.ref 130] (s_hg g) (none) (s_hg z) := by
  unfold fM_takeBack_130 at hB
  refine s_Ev.fin ((?_ : ∀ (v : Option Value) (h' : s_H), (fun (z : s_G) (v : Option Value) (h' : s_H) => v = none ∧ h' = s_hg z) z v h' → s_Fin 0 s_m247 (0, s_ent [.ref 130] (s_m247).2.2.1, [], s_hg g) v h') _ _ ⟨rfl, rfl⟩)
  intro v h' hr
  refine (show s_Fin 0 s_m247 (0, [some (.ref 130), none], [], s_hg g) v h' from ?_)
  refine s_Fin.sg 2 (y := (2, [some (.ref 130), some (.int (0 : Int32))], [], s_hg g)) rfl ?_
  exact s_Fin.more (L := [some (.ref 130), some (.int (0 : Int32))]) ⟨Or.inr rfl, Or.inr rfl, trivial⟩ (s_lp_s (P := (fun (x : Int32 × s_G) (v : Option Value) (h' : s_H) => s_Fin 0 s_m247 (2, [some (.ref 130), some (.int x.1)], [], s_hg x.2) v h')) (Q := (fun (z : s_G) (v : Option Value) (h' : s_H) => v = none ∧ h' = s_hg z)) (fun x z hB v h' hr => fM_takeBack_130_2_s hB hr) hB _ _ hr)
