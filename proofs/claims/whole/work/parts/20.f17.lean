-- CampAshes$Advice.findSaying
noncomputable def fA_findSaying_122_3_17_17 (x3 : Int32) (x4 : Int32) (x5 : Int32) (x6 : Int32) (x7 : Int32) (x8 : Int32) (g : s_G) : Option ((Int32 × Int32 × Int32) ⊕ (Int32 × s_G)) :=
  if x8 < ((1 : Int32) <<< ((g.1 3 1) &&& 31)) then (s_b1 (fJ_bitCount_s x8 g) fun v2 => if (x8 &&& (x5 ^^^ (-1 : Int32))) = 0 then (if v2 < x6 then (s_b1 (fA_weightOf_3_17 x3 x8 g) fun v3 => if v3 = x4 then (some (.inl (v2, x8, x8 + (1 : Int32))))
  else some (.inl (x6, x7, x8 + (1 : Int32))))
  else some (.inl (x6, x7, x8 + (1 : Int32))))
  else some (.inl (x6, x7, x8 + (1 : Int32))))
  else s_in (if x7 = 0 then (some ((-1 : Int32), g))
  else some (x6, (s_si g 122 4 x7)))
theorem fA_findSaying_122_3_17_17_s {x3 : Int32} {x4 : Int32} {x5 : Int32} {x6 : Int32} {x7 : Int32} {x8 : Int32} {g : s_G} {z : (Int32 × Int32 × Int32) ⊕ (Int32 × s_G)} (hB : fA_findSaying_122_3_17_17 x3 x4 x5 x6 x7 x8 g = some z) {v : Option Value} {h' : s_H} (hr : (s_sm (fun (x : Int32 × Int32 × Int32) (v : Option Value) (h' : s_H) => s_Fin 2 s_m97 (17, [some (.ref 122), some (.ref 3), some (.ref 17), some (.int x3), some (.int x4), some (.int x5), some (.int x.1), some (.int x.2.1), some (.int x.2.2), none], [], s_hg g) v h') (fun (z : Int32 × s_G) (v : Option Value) (h' : s_H) => v = some (.int z.1) ∧ h' = s_hg z.2)) z v h') : s_Fin 2 s_m97 (17, [some (.ref 122), some (.ref 3), some (.ref 17), some (.int x3), some (.int x4), some (.int x5), some (.int x6), some (.int x7), some (.int x8), none], [], s_hg g) v h' := by
  unfold fA_findSaying_122_3_17_17 at hB
  refine s_Fin.sg 5 (y := (25, [some (.ref 122), some (.ref 3), some (.ref 17), some (.int x3), some (.int x4), some (.int x5), some (.int x6), some (.int x7), some (.int x8), none], [.int ((1 : Int32) <<< ((g.1 3 1) &&& 31)), .int x8], s_hg g)) rfl ?_
  by_cases hc : x8 < ((1 : Int32) <<< ((g.1 3 1) &&& 31))
  · rw [if_pos hc] at hB
    refine s_Fin.bf (c := ((1 : Int32) <<< ((g.1 3 1) &&& 31)) ≤ x8) (tg := 79) (p2 := 25) (L1 := [some (.ref 122), some (.ref 3), some (.ref 17), some (.int x3), some (.int x4), some (.int x5), some (.int x6), some (.int x7), some (.int x8), none]) (st1 := []) (Int32.not_le.mpr hc) rfl ?_
    refine s_Fin.sg 1 (y := (30, [some (.ref 122), some (.ref 3), some (.ref 17), some (.int x3), some (.int x4), some (.int x5), some (.int x6), some (.int x7), some (.int x8), none], [.int x8], s_hg g)) rfl ?_
    obtain ⟨v2, hp, hB⟩ := s_bd hB
    refine s_Fin.cl (d := 1) (q1 := s_m89) (md := 89) (vs := [.int x8]) (rest := []) (h1 := s_hg g) (u := some (.int v2)) (s_Ev.up (by omega) (fJ_bitCount_s_s hp)) rfl rfl rfl rfl ?_
    refine s_Fin.sg 6 (y := (42, [some (.ref 122), some (.ref 3), some (.ref 17), some (.int x3), some (.int x4), some (.int x5), some (.int x6), some (.int x7), some (.int x8), some (.int v2)], [.int (x8 &&& (x5 ^^^ (-1 : Int32)))], s_hg g)) rfl ?_
    by_cases hc : (x8 &&& (x5 ^^^ (-1 : Int32))) = 0
    · rw [if_pos hc] at hB
      refine s_Fin.bf (c := ¬ (x8 &&& (x5 ^^^ (-1 : Int32))) = 0) (tg := 73) (p2 := 42) (L1 := [some (.ref 122), some (.ref 3), some (.ref 17), some (.int x3), some (.int x4), some (.int x5), some (.int x6), some (.int x7), some (.int x8), some (.int v2)]) (st1 := []) (fun h => h hc) rfl ?_
      refine s_Fin.sg 2 (y := (49, [some (.ref 122), some (.ref 3), some (.ref 17), some (.int x3), some (.int x4), some (.int x5), some (.int x6), some (.int x7), some (.int x8), some (.int v2)], [.int x6, .int v2], s_hg g)) rfl ?_
      by_cases hc : v2 < x6
      · rw [if_pos hc] at hB
        refine s_Fin.bf (c := x6 ≤ v2) (tg := 73) (p2 := 49) (L1 := [some (.ref 122), some (.ref 3), some (.ref 17), some (.int x3), some (.int x4), some (.int x5), some (.int x6), some (.int x7), some (.int x8), some (.int v2)]) (st1 := []) (Int32.not_le.mpr hc) rfl ?_
        refine s_Fin.sg 4 (y := (57, [some (.ref 122), some (.ref 3), some (.ref 17), some (.int x3), some (.int x4), some (.int x5), some (.int x6), some (.int x7), some (.int x8), some (.int v2)], [.int x8, .int x3, .ref 17, .ref 3], s_hg g)) rfl ?_
        obtain ⟨v3, hp, hB⟩ := s_bd hB
        refine s_Fin.cl (d := 1) (q1 := s_m99) (md := 99) (vs := [.ref 3, .ref 17, .int x3, .int x8]) (rest := []) (h1 := s_hg g) (u := some (.int v3)) (s_Ev.up (by omega) (fA_weightOf_3_17_s hp)) rfl rfl rfl rfl ?_
        refine s_Fin.sg 1 (y := (62, [some (.ref 122), some (.ref 3), some (.ref 17), some (.int x3), some (.int x4), some (.int x5), some (.int x6), some (.int x7), some (.int x8), some (.int v2)], [.int x4, .int v3], s_hg g)) rfl ?_
        by_cases hc : v3 = x4
        · rw [if_pos hc] at hB
          refine s_Fin.bf (c := ¬ v3 = x4) (tg := 73) (p2 := 62) (L1 := [some (.ref 122), some (.ref 3), some (.ref 17), some (.int x3), some (.int x4), some (.int x5), some (.int x6), some (.int x7), some (.int x8), some (.int v2)]) (st1 := []) (fun h => h hc) rfl ?_
          refine s_Fin.sg 6 (y := (17, [some (.ref 122), some (.ref 3), some (.ref 17), some (.int x3), some (.int x4), some (.int x5), some (.int v2), some (.int x8), some (.int (x8 + (1 : Int32))), some (.int v2)], [], s_hg g)) rfl ?_
          have hB := Option.some.inj hB
          subst hB
          exact s_Fin.more (L := [some (.ref 122), some (.ref 3), some (.ref 17), some (.int x3), some (.int x4), some (.int x5), some (.int v2), some (.int x8), some (.int (x8 + (1 : Int32))), none]) ⟨Or.inr rfl, Or.inr rfl, Or.inr rfl, Or.inr rfl, Or.inr rfl, Or.inr rfl, Or.inr rfl, Or.inr rfl, Or.inr rfl, Or.inl rfl, trivial⟩ hr
        · rw [if_neg hc] at hB
          refine s_Fin.bt (c := ¬ v3 = x4) (tg := 73) (p2 := 62) (L1 := [some (.ref 122), some (.ref 3), some (.ref 17), some (.int x3), some (.int x4), some (.int x5), some (.int x6), some (.int x7), some (.int x8), some (.int v2)]) (st1 := []) hc rfl ?_
          refine s_Fin.sg 2 (y := (17, [some (.ref 122), some (.ref 3), some (.ref 17), some (.int x3), some (.int x4), some (.int x5), some (.int x6), some (.int x7), some (.int (x8 + (1 : Int32))), some (.int v2)], [], s_hg g)) rfl ?_
          have hB := Option.some.inj hB
          subst hB
          exact s_Fin.more (L := [some (.ref 122), some (.ref 3), some (.ref 17), some (.int x3), some (.int x4), some (.int x5), some (.int x6), some (.int x7), some (.int (x8 + (1 : Int32))), none]) ⟨Or.inr rfl, Or.inr rfl, Or.inr rfl, Or.inr rfl, Or.inr rfl, Or.inr rfl, Or.inr rfl, Or.inr rfl, Or.inr rfl, Or.inl rfl, trivial⟩ hr
      · rw [if_neg hc] at hB
        refine s_Fin.bt (c := x6 ≤ v2) (tg := 73) (p2 := 49) (L1 := [some (.ref 122), some (.ref 3), some (.ref 17), some (.int x3), some (.int x4), some (.int x5), some (.int x6), some (.int x7), some (.int x8), some (.int v2)]) (st1 := []) (Int32.not_lt.mp hc) rfl ?_
        refine s_Fin.sg 2 (y := (17, [some (.ref 122), some (.ref 3), some (.ref 17), some (.int x3), some (.int x4), some (.int x5), some (.int x6), some (.int x7), some (.int (x8 + (1 : Int32))), some (.int v2)], [], s_hg g)) rfl ?_
        have hB := Option.some.inj hB
        subst hB
        exact s_Fin.more (L := [some (.ref 122), some (.ref 3), some (.ref 17), some (.int x3), some (.int x4), some (.int x5), some (.int x6), some (.int x7), some (.int (x8 + (1 : Int32))), none]) ⟨Or.inr rfl, Or.inr rfl, Or.inr rfl, Or.inr rfl, Or.inr rfl, Or.inr rfl, Or.inr rfl, Or.inr rfl, Or.inr rfl, Or.inl rfl, trivial⟩ hr
    · rw [if_neg hc] at hB
      refine s_Fin.bt (c := ¬ (x8 &&& (x5 ^^^ (-1 : Int32))) = 0) (tg := 73) (p2 := 42) (L1 := [some (.ref 122), some (.ref 3), some (.ref 17), some (.int x3), some (.int x4), some (.int x5), some (.int x6), some (.int x7), some (.int x8), some (.int v2)]) (st1 := []) hc rfl ?_
      refine s_Fin.sg 2 (y := (17, [some (.ref 122), some (.ref 3), some (.ref 17), some (.int x3), some (.int x4), some (.int x5), some (.int x6), some (.int x7), some (.int (x8 + (1 : Int32))), some (.int v2)], [], s_hg g)) rfl ?_
      have hB := Option.some.inj hB
      subst hB
      exact s_Fin.more (L := [some (.ref 122), some (.ref 3), some (.ref 17), some (.int x3), some (.int x4), some (.int x5), some (.int x6), some (.int x7), some (.int (x8 + (1 : Int32))), none]) ⟨Or.inr rfl, Or.inr rfl, Or.inr rfl, Or.inr rfl, Or.inr rfl, Or.inr rfl, Or.inr rfl, Or.inr rfl, Or.inr rfl, Or.inl rfl, trivial⟩ hr
  · rw [if_neg hc] at hB
    refine s_Fin.bt (c := ((1 : Int32) <<< ((g.1 3 1) &&& 31)) ≤ x8) (tg := 79) (p2 := 25) (L1 := [some (.ref 122), some (.ref 3), some (.ref 17), some (.int x3), some (.int x4), some (.int x5), some (.int x6), some (.int x7), some (.int x8), none]) (st1 := []) (Int32.not_lt.mp hc) rfl ?_
    obtain ⟨_, hN, hz⟩ := s_in_of hB
    subst hz
    have hB := hN
    refine s_Fin.sg 1 (y := (81, [some (.ref 122), some (.ref 3), some (.ref 17), some (.int x3), some (.int x4), some (.int x5), some (.int x6), some (.int x7), some (.int x8), none], [.int x7], s_hg g)) rfl ?_
    by_cases hc : x7 = 0
    · rw [if_pos hc] at hB
      refine s_Fin.bf (c := ¬ x7 = 0) (tg := 86) (p2 := 81) (L1 := [some (.ref 122), some (.ref 3), some (.ref 17), some (.int x3), some (.int x4), some (.int x5), some (.int x6), some (.int x7), some (.int x8), none]) (st1 := []) (fun h => h hc) rfl ?_
      refine s_Fin.sg 1 (y := (85, [some (.ref 122), some (.ref 3), some (.ref 17), some (.int x3), some (.int x4), some (.int x5), some (.int x6), some (.int x7), some (.int x8), none], [.int (-1 : Int32)], s_hg g)) rfl ?_
      have hB := Option.some.inj hB
      subst hB
      obtain ⟨rfl, rfl⟩ := hr
      exact s_Fin.rt rfl rfl
    · rw [if_neg hc] at hB
      refine s_Fin.bt (c := ¬ x7 = 0) (tg := 86) (p2 := 81) (L1 := [some (.ref 122), some (.ref 3), some (.ref 17), some (.int x3), some (.int x4), some (.int x5), some (.int x6), some (.int x7), some (.int x8), none]) (st1 := []) hc rfl ?_
      refine s_Fin.sg 4 (y := (94, [some (.ref 122), some (.ref 3), some (.ref 17), some (.int x3), some (.int x4), some (.int x5), some (.int x6), some (.int x7), some (.int x8), none], [.int x6], s_hg (s_si g 122 4 x7))) rfl ?_
      have hB := Option.some.inj hB
      subst hB
      obtain ⟨rfl, rfl⟩ := hr
      exact s_Fin.rt rfl rfl
noncomputable def fA_findSaying_122_3_17 (x3 : Int32) (x4 : Int32) (g : s_G) : Option (Int32 × s_G) :=
  s_b1 (fT_eventBits_17 x3 g) fun v1 => s_lp (fun x => fA_findSaying_122_3_17_17 x3 x4 v1 x.1 x.2.1 x.2.2 g) ((11 : Int32), (0 : Int32), (1 : Int32))
theorem fA_findSaying_122_3_17_s {x3 : Int32} {x4 : Int32} {g : s_G} {z : Int32 × s_G} (hB : fA_findSaying_122_3_17 x3 x4 g = some z) : s_Ev 2 s_m97 [.ref 122, .ref 3, .ref 17, .int x3, .int x4] (s_hg g) (some (.int z.1)) (s_hg z.2) := by
  unfold fA_findSaying_122_3_17 at hB
  refine s_Ev.fin ((?_ : ∀ (v : Option Value) (h' : s_H), (fun (z : Int32 × s_G) (v : Option Value) (h' : s_H) => v = some (.int z.1) ∧ h' = s_hg z.2) z v h' → s_Fin 2 s_m97 (0, s_ent [.ref 122, .ref 3, .ref 17, .int x3, .int x4] (s_m97).2.2.1, [], s_hg g) v h') _ _ ⟨rfl, rfl⟩)
  intro v h' hr
  refine (show s_Fin 2 s_m97 (0, [some (.ref 122), some (.ref 3), some (.ref 17), some (.int x3), some (.int x4), none, none, none, none, none], [], s_hg g) v h' from ?_)
  refine s_Fin.sg 2 (y := (2, [some (.ref 122), some (.ref 3), some (.ref 17), some (.int x3), some (.int x4), none, none, none, none, none], [.int x3, .ref 17], s_hg g)) rfl ?_
  obtain ⟨v1, hp, hB⟩ := s_bd hB
  refine s_Fin.cl (d := 1) (q1 := s_m98) (md := 98) (vs := [.ref 17, .int x3]) (rest := []) (h1 := s_hg g) (u := some (.int v1)) (s_Ev.up (by omega) (fT_eventBits_17_s hp)) rfl rfl rfl rfl ?_
  refine s_Fin.sg 7 (y := (17, [some (.ref 122), some (.ref 3), some (.ref 17), some (.int x3), some (.int x4), some (.int v1), some (.int (11 : Int32)), some (.int (0 : Int32)), some (.int (1 : Int32)), none], [], s_hg g)) rfl ?_
  exact s_Fin.more (L := [some (.ref 122), some (.ref 3), some (.ref 17), some (.int x3), some (.int x4), some (.int v1), some (.int (11 : Int32)), some (.int (0 : Int32)), some (.int (1 : Int32)), none]) ⟨Or.inr rfl, Or.inr rfl, Or.inr rfl, Or.inr rfl, Or.inr rfl, Or.inr rfl, Or.inr rfl, Or.inr rfl, Or.inr rfl, Or.inl rfl, trivial⟩ (s_lp_s (P := (fun (x : Int32 × Int32 × Int32) (v : Option Value) (h' : s_H) => s_Fin 2 s_m97 (17, [some (.ref 122), some (.ref 3), some (.ref 17), some (.int x3), some (.int x4), some (.int v1), some (.int x.1), some (.int x.2.1), some (.int x.2.2), none], [], s_hg g) v h')) (Q := (fun (z : Int32 × s_G) (v : Option Value) (h' : s_H) => v = some (.int z.1) ∧ h' = s_hg z.2)) (fun x z hB v h' hr => fA_findSaying_122_3_17_17_s hB hr) hB _ _ hr)
-- CampAshes.says
noncomputable def fC_says_0 (x1 : Int32) (x2 : Int32) (g : s_G) : Option (Int32 × s_G) :=
  s_b1 (fP_hasBoy_3 x1 g) fun v1 => if v1 = 0 then (some ((-1 : Int32), g))
  else if x2 < (1 : Int32) then (some ((-1 : Int32), g))
  else if (200 : Int32) < x2 then (some ((-1 : Int32), g))
  else s_b2 (fA_findSaying_122_3_17 x1 x2 g) fun v3 g2 => some (v3, g2)
theorem fC_says_0_s {x1 : Int32} {x2 : Int32} {g : s_G} {z : Int32 × s_G} (hB : fC_says_0 x1 x2 g = some z) : s_Ev 3 s_m96 [.ref 0, .int x1, .int x2] (s_hg g) (some (.int z.1)) (s_hg z.2) := by
  unfold fC_says_0 at hB
  refine s_Ev.fin ((?_ : ∀ (v : Option Value) (h' : s_H), (fun (z : Int32 × s_G) (v : Option Value) (h' : s_H) => v = some (.int z.1) ∧ h' = s_hg z.2) z v h' → s_Fin 3 s_m96 (0, s_ent [.ref 0, .int x1, .int x2] (s_m96).2.2.1, [], s_hg g) v h') _ _ ⟨rfl, rfl⟩)
  intro v h' hr
  refine (show s_Fin 3 s_m96 (0, [some (.ref 0), some (.int x1), some (.int x2)], [], s_hg g) v h' from ?_)
  refine s_Fin.sg 3 (y := (5, [some (.ref 0), some (.int x1), some (.int x2)], [.int x1, .ref 3], s_hg g)) rfl ?_
  obtain ⟨v1, hp, hB⟩ := s_bd hB
  refine s_Fin.cl (d := 2) (q1 := s_m49) (md := 49) (vs := [.ref 3, .int x1]) (rest := []) (h1 := s_hg g) (u := some (.int v1)) (s_Ev.up (by omega) (fP_hasBoy_3_s hp)) rfl rfl rfl rfl ?_
  by_cases hc : v1 = 0
  · rw [if_pos hc] at hB
    refine s_Fin.bt (c := v1 = 0) (tg := 23) (p2 := 8) (L1 := [some (.ref 0), some (.int x1), some (.int x2)]) (st1 := []) hc rfl ?_
    refine s_Fin.sg 1 (y := (24, [some (.ref 0), some (.int x1), some (.int x2)], [.int (-1 : Int32)], s_hg g)) rfl ?_
    have hB := Option.some.inj hB
    subst hB
    obtain ⟨rfl, rfl⟩ := hr
    exact s_Fin.rt rfl rfl
  · rw [if_neg hc] at hB
    refine s_Fin.bf (c := v1 = 0) (tg := 23) (p2 := 8) (L1 := [some (.ref 0), some (.int x1), some (.int x2)]) (st1 := []) hc rfl ?_
    refine s_Fin.sg 2 (y := (13, [some (.ref 0), some (.int x1), some (.int x2)], [.int (1 : Int32), .int x2], s_hg g)) rfl ?_
    by_cases hc : x2 < (1 : Int32)
    · rw [if_pos hc] at hB
      refine s_Fin.bt (c := x2 < (1 : Int32)) (tg := 23) (p2 := 13) (L1 := [some (.ref 0), some (.int x1), some (.int x2)]) (st1 := []) hc rfl ?_
      refine s_Fin.sg 1 (y := (24, [some (.ref 0), some (.int x1), some (.int x2)], [.int (-1 : Int32)], s_hg g)) rfl ?_
      have hB := Option.some.inj hB
      subst hB
      obtain ⟨rfl, rfl⟩ := hr
      exact s_Fin.rt rfl rfl
    · rw [if_neg hc] at hB
      refine s_Fin.bf (c := x2 < (1 : Int32)) (tg := 23) (p2 := 13) (L1 := [some (.ref 0), some (.int x1), some (.int x2)]) (st1 := []) hc rfl ?_
      refine s_Fin.sg 2 (y := (20, [some (.ref 0), some (.int x1), some (.int x2)], [.int (200 : Int32), .int x2], s_hg g)) rfl ?_
      by_cases hc : (200 : Int32) < x2
      · rw [if_pos hc] at hB
        refine s_Fin.bf (c := x2 ≤ (200 : Int32)) (tg := 25) (p2 := 20) (L1 := [some (.ref 0), some (.int x1), some (.int x2)]) (st1 := []) (Int32.not_le.mpr hc) rfl ?_
        refine s_Fin.sg 1 (y := (24, [some (.ref 0), some (.int x1), some (.int x2)], [.int (-1 : Int32)], s_hg g)) rfl ?_
        have hB := Option.some.inj hB
        subst hB
        obtain ⟨rfl, rfl⟩ := hr
        exact s_Fin.rt rfl rfl
      · rw [if_neg hc] at hB
        refine s_Fin.bt (c := x2 ≤ (200 : Int32)) (tg := 25) (p2 := 20) (L1 := [some (.ref 0), some (.int x1), some (.int x2)]) (st1 := []) (Int32.not_lt.mp hc) rfl ?_
        refine s_Fin.sg 8 (y := (39, [some (.ref 0), some (.int x1), some (.int x2)], [.int x2, .int x1, .ref 17, .ref 3, .ref 122], s_hg g)) rfl ?_
        obtain ⟨v3, g2, hp, hB⟩ := s_bd2 hB
        refine s_Fin.cl (d := 2) (q1 := s_m97) (md := 97) (vs := [.ref 122, .ref 3, .ref 17, .int x1, .int x2]) (rest := []) (h1 := s_hg g2) (u := some (.int v3)) (s_Ev.up (by omega) (fA_findSaying_122_3_17_s hp)) rfl rfl rfl rfl ?_
        have hB := Option.some.inj hB
        subst hB
        obtain ⟨rfl, rfl⟩ := hr
        exact s_Fin.rt rfl rfl
-- CampAshesModel.saying
noncomputable def fM_saying_130 (g : s_G) : Option (Int32 × s_G) :=
  some (g.1 130 32, (s_si g 130 0 (0 : Int32)))
theorem fM_saying_130_s {g : s_G} {z : Int32 × s_G} (hB : fM_saying_130 g = some z) : s_Ev 0 s_m238 [.ref 130] (s_hg g) (some (.int z.1)) (s_hg z.2) := by
  unfold fM_saying_130 at hB
  refine s_Ev.fin ((?_ : ∀ (v : Option Value) (h' : s_H), (fun (z : Int32 × s_G) (v : Option Value) (h' : s_H) => v = some (.int z.1) ∧ h' = s_hg z.2) z v h' → s_Fin 0 s_m238 (0, s_ent [.ref 130] (s_m238).2.2.1, [], s_hg g) v h') _ _ ⟨rfl, rfl⟩)
  intro v h' hr
  refine (show s_Fin 0 s_m238 (0, [some (.ref 130)], [], s_hg g) v h' from ?_)
  refine s_Fin.sg 5 (y := (9, [some (.ref 130)], [.int (g.1 130 32)], s_hg (s_si g 130 0 (0 : Int32)))) rfl ?_
  have hB := Option.some.inj hB
  subst hB
  obtain ⟨rfl, rfl⟩ := hr
  exact s_Fin.rt rfl rfl
-- CampAshes.saying
noncomputable def fC_saying_0 (g : s_G) : Option (Int32) :=
  some (g.1 122 4)
theorem fC_saying_0_s {g : s_G} {z : Int32} (hB : fC_saying_0 g = some z) : s_Ev 0 s_m100 [.ref 0] (s_hg g) (some (.int z)) (s_hg g) := by
  unfold fC_saying_0 at hB
  refine s_Ev.fin ((?_ : ∀ (v : Option Value) (h' : s_H), (fun (z : Int32) (v : Option Value) (h' : s_H) => v = some (.int z) ∧ h' = s_hg g) z v h' → s_Fin 0 s_m100 (0, s_ent [.ref 0] (s_m100).2.2.1, [], s_hg g) v h') _ _ ⟨rfl, rfl⟩)
  intro v h' hr
  refine (show s_Fin 0 s_m100 (0, [some (.ref 0)], [], s_hg g) v h' from ?_)
  refine s_Fin.sg 3 (y := (7, [some (.ref 0)], [.int (g.1 122 4)], s_hg g)) rfl ?_
  have hB := Option.some.inj hB
  subst hB
  obtain ⟨rfl, rfl⟩ := hr
  exact s_Fin.rt rfl rfl
-- CampAshesModel.withOne
noncomputable def fM_withOne_s_22 (x0 : Int32) (x1 : Int32) (g : s_G) : Option (Int32) :=
  some (((x0 - (x0 - x0 / (1000 : Int32) * (1000 : Int32))) + (1000 : Int32)) + x1)
theorem fM_withOne_s_22_s {x0 : Int32} {x1 : Int32} {g : s_G} {z : Int32} (hB : fM_withOne_s_22 x0 x1 g = some z) {v : Option Value} {h' : s_H} (hr : (fun (z : Int32) (v : Option Value) (h' : s_H) => v = some (.int z) ∧ h' = s_hg g) z v h') : s_Fin 0 s_m240 (22, [some (.int x0), some (.int x1), none], [], s_hg g) v h' := by
  unfold fM_withOne_s_22 at hB
  refine s_Fin.sg 9 (y := (35, [some (.int x0), some (.int x1), none], [.int (((x0 - (x0 - x0 / (1000 : Int32) * (1000 : Int32))) + (1000 : Int32)) + x1)], s_hg g)) rfl ?_
  have hB := Option.some.inj hB
  subst hB
  obtain ⟨rfl, rfl⟩ := hr
  exact s_Fin.rt rfl rfl
noncomputable def fM_withOne_s (x0 : Int32) (x1 : Int32) (x2 : Int32) (g : s_G) : Option (Int32) :=
  if x2 < ((x0 - x0 / (1000 : Int32) * (1000 : Int32)) + x1) then (fM_withOne_s_22 x0 x1 g)
  else if x0 < (1000 : Int32) then (fM_withOne_s_22 x0 x1 g)
  else some (x0 + x1)
theorem fM_withOne_s_s {x0 : Int32} {x1 : Int32} {x2 : Int32} {g : s_G} {z : Int32} (hB : fM_withOne_s x0 x1 x2 g = some z) : s_Ev 0 s_m240 [.int x0, .int x1, .int x2] (s_hg g) (some (.int z)) (s_hg g) := by
  unfold fM_withOne_s at hB
  refine s_Ev.fin ((?_ : ∀ (v : Option Value) (h' : s_H), (fun (z : Int32) (v : Option Value) (h' : s_H) => v = some (.int z) ∧ h' = s_hg g) z v h' → s_Fin 0 s_m240 (0, s_ent [.int x0, .int x1, .int x2] (s_m240).2.2.1, [], s_hg g) v h') _ _ ⟨rfl, rfl⟩)
  intro v h' hr
  refine (show s_Fin 0 s_m240 (0, [some (.int x0), some (.int x1), some (.int x2)], [], s_hg g) v h' from ?_)
  refine s_Fin.sg 6 (y := (8, [some (.int x0), some (.int x1), some (.int x2)], [.int x2, .int ((x0 - x0 / (1000 : Int32) * (1000 : Int32)) + x1)], s_hg g)) rfl ?_
  by_cases hc : x2 < ((x0 - x0 / (1000 : Int32) * (1000 : Int32)) + x1)
  · rw [if_pos hc] at hB
    refine s_Fin.bt (c := x2 < ((x0 - x0 / (1000 : Int32) * (1000 : Int32)) + x1)) (tg := 22) (p2 := 8) (L1 := [some (.int x0), some (.int x1), some (.int x2)]) (st1 := []) hc rfl ?_
    exact s_Fin.more (L := [some (.int x0), some (.int x1), none]) ⟨Or.inr rfl, Or.inr rfl, Or.inl rfl, trivial⟩ (fM_withOne_s_22_s hB hr)
  · rw [if_neg hc] at hB
    refine s_Fin.bf (c := x2 < ((x0 - x0 / (1000 : Int32) * (1000 : Int32)) + x1)) (tg := 22) (p2 := 8) (L1 := [some (.int x0), some (.int x1), some (.int x2)]) (st1 := []) hc rfl ?_
    refine s_Fin.sg 2 (y := (15, [some (.int x0), some (.int x1), some (.int x2)], [.int (1000 : Int32), .int x0], s_hg g)) rfl ?_
    by_cases hc : x0 < (1000 : Int32)
    · rw [if_pos hc] at hB
      refine s_Fin.bt (c := x0 < (1000 : Int32)) (tg := 22) (p2 := 15) (L1 := [some (.int x0), some (.int x1), some (.int x2)]) (st1 := []) hc rfl ?_
      exact s_Fin.more (L := [some (.int x0), some (.int x1), none]) ⟨Or.inr rfl, Or.inr rfl, Or.inl rfl, trivial⟩ (fM_withOne_s_22_s hB hr)
    · rw [if_neg hc] at hB
      refine s_Fin.bf (c := x0 < (1000 : Int32)) (tg := 22) (p2 := 15) (L1 := [some (.int x0), some (.int x1), some (.int x2)]) (st1 := []) hc rfl ?_
      refine s_Fin.sg 3 (y := (21, [some (.int x0), some (.int x1), some (.int x2)], [.int (x0 + x1)], s_hg g)) rfl ?_
      have hB := Option.some.inj hB
      subst hB
      obtain ⟨rfl, rfl⟩ := hr
      exact s_Fin.rt rfl rfl
-- CampAshesModel.tents
noncomputable def fM_tents_130_84 (x1 : Int32) (x2 : Int32) (x3 : Int32) (x4 : Int32) (g : s_G) : Option ((Int32 × s_G) ⊕ ((Int32 × s_G) ⊕ (Int32 × s_G))) :=
  if x4 < (g.1 132 0) then (s_b1 (fM_has_s x3 x4 g) fun v8 => if v8 = 0 then (some (.inl (x4 + (1 : Int32), g)))
  else s_b1 (s_ix 128 x3) fun k10 => s_b1 (s_ix 128 (x3 &&& (((1 : Int32) <<< (x4 &&& 31)) ^^^ (-1 : Int32)))) fun k12 => s_b1 (fM_loadOf_130 x4 g) fun v13 => s_b1 (fM_withOne_s (g.1 146 k12) v13 x1 g) fun v14 => s_b1 (fM_least_s (g.1 146 k10) v14 g) fun v15 => some (.inl (x4 + (1 : Int32), (s_si g 146 k10 v15))))
  else s_in (some (.inl (x3 + (1 : Int32), g)))
theorem fM_tents_130_84_s {x1 : Int32} {x2 : Int32} {x3 : Int32} {x4 : Int32} {g : s_G} {z : (Int32 × s_G) ⊕ ((Int32 × s_G) ⊕ (Int32 × s_G))} (hB : fM_tents_130_84 x1 x2 x3 x4 g = some z) {v : Option Value} {h' : s_H} (hr : (s_sm (fun (x : Int32 × s_G) (v : Option Value) (h' : s_H) => s_Fin 2 s_m239 (84, [some (.ref 130), some (.int x1), some (.int x2), some (.int x3), some (.int x.1)], [], s_hg x.2) v h') (s_sm (fun (x : Int32 × s_G) (v : Option Value) (h' : s_H) => s_Fin 2 s_m239 (67, [some (.ref 130), some (.int x1), some (.int x2), some (.int x.1), none], [], s_hg x.2) v h') (fun (z : Int32 × s_G) (v : Option Value) (h' : s_H) => v = some (.int z.1) ∧ h' = s_hg z.2))) z v h') : s_Fin 2 s_m239 (84, [some (.ref 130), some (.int x1), some (.int x2), some (.int x3), some (.int x4)], [], s_hg g) v h' := by
  unfold fM_tents_130_84 at hB
  refine s_Fin.sg 5 (y := (92, [some (.ref 130), some (.int x1), some (.int x2), some (.int x3), some (.int x4)], [.int (g.1 132 0), .int x4], s_hg g)) rfl ?_
  by_cases hc : x4 < (g.1 132 0)
  · rw [if_pos hc] at hB
    refine s_Fin.bf (c := (g.1 132 0) ≤ x4) (tg := 148) (p2 := 92) (L1 := [some (.ref 130), some (.int x1), some (.int x2), some (.int x3), some (.int x4)]) (st1 := []) (Int32.not_le.mpr hc) rfl ?_
    refine s_Fin.sg 2 (y := (98, [some (.ref 130), some (.int x1), some (.int x2), some (.int x3), some (.int x4)], [.int x4, .int x3], s_hg g)) rfl ?_
    obtain ⟨v8, hp, hB⟩ := s_bd hB
    refine s_Fin.cl (d := 1) (q1 := s_m198) (md := 198) (vs := [.int x3, .int x4]) (rest := []) (h1 := s_hg g) (u := some (.int v8)) (s_Ev.up (by omega) (fM_has_s_s hp)) rfl rfl rfl rfl ?_
    by_cases hc : v8 = 0
    · rw [if_pos hc] at hB
      refine s_Fin.bt (c := v8 = 0) (tg := 142) (p2 := 101) (L1 := [some (.ref 130), some (.int x1), some (.int x2), some (.int x3), some (.int x4)]) (st1 := []) hc rfl ?_
      refine s_Fin.sg 2 (y := (84, [some (.ref 130), some (.int x1), some (.int x2), some (.int x3), some (.int (x4 + (1 : Int32)))], [], s_hg g)) rfl ?_
      have hB := Option.some.inj hB
      subst hB
      exact s_Fin.more (L := [some (.ref 130), some (.int x1), some (.int x2), some (.int x3), some (.int (x4 + (1 : Int32)))]) ⟨Or.inr rfl, Or.inr rfl, Or.inr rfl, Or.inr rfl, Or.inr rfl, trivial⟩ hr
    · rw [if_neg hc] at hB
      refine s_Fin.bf (c := v8 = 0) (tg := 142) (p2 := 101) (L1 := [some (.ref 130), some (.int x1), some (.int x2), some (.int x3), some (.int x4)]) (st1 := []) hc rfl ?_
      refine s_Fin.sg 6 (y := (114, [some (.ref 130), some (.int x1), some (.int x2), some (.int x3), some (.int x4)], [.int x3, .ref 146, .int x3, .ref 146], s_hg g)) rfl ?_
      obtain ⟨k10, hk10, hB⟩ := s_bd hB
      refine s_Fin.ix (n := 128) (i := x3) (pc1 := 115) (L1 := [some (.ref 130), some (.int x1), some (.int x2), some (.int x3), some (.int x4)]) (fun j9 => [.int (g.1 146 j9), .int x3, .ref 146]) (fun j9 => s_hg g) hk10 rfl rfl ?_
      refine s_Fin.sg 9 (y := (127, [some (.ref 130), some (.int x1), some (.int x2), some (.int x3), some (.int x4)], [.int (x3 &&& (((1 : Int32) <<< (x4 &&& 31)) ^^^ (-1 : Int32))), .ref 146, .int (g.1 146 k10), .int x3, .ref 146], s_hg g)) rfl ?_
      obtain ⟨k12, hk12, hB⟩ := s_bd hB
      refine s_Fin.ix (n := 128) (i := x3 &&& (((1 : Int32) <<< (x4 &&& 31)) ^^^ (-1 : Int32))) (pc1 := 128) (L1 := [some (.ref 130), some (.int x1), some (.int x2), some (.int x3), some (.int x4)]) (fun j11 => [.int (g.1 146 j11), .int (g.1 146 k10), .int x3, .ref 146]) (fun j11 => s_hg g) hk12 rfl rfl ?_
      refine s_Fin.sg 2 (y := (131, [some (.ref 130), some (.int x1), some (.int x2), some (.int x3), some (.int x4)], [.int x4, .ref 130, .int (g.1 146 k12), .int (g.1 146 k10), .int x3, .ref 146], s_hg g)) rfl ?_
      obtain ⟨v13, hp, hB⟩ := s_bd hB
      refine s_Fin.cl (d := 1) (q1 := s_m194) (md := 194) (vs := [.ref 130, .int x4]) (rest := [.int (g.1 146 k12), .int (g.1 146 k10), .int x3, .ref 146]) (h1 := s_hg g) (u := some (.int v13)) (s_Ev.up (by omega) (fM_loadOf_130_s hp)) rfl rfl rfl rfl ?_
      refine s_Fin.sg 1 (y := (135, [some (.ref 130), some (.int x1), some (.int x2), some (.int x3), some (.int x4)], [.int x1, .int v13, .int (g.1 146 k12), .int (g.1 146 k10), .int x3, .ref 146], s_hg g)) rfl ?_
      obtain ⟨v14, hp, hB⟩ := s_bd hB
      refine s_Fin.cl (d := 1) (q1 := s_m240) (md := 240) (vs := [.int (g.1 146 k12), .int v13, .int x1]) (rest := [.int (g.1 146 k10), .int x3, .ref 146]) (h1 := s_hg g) (u := some (.int v14)) (s_Ev.up (by omega) (fM_withOne_s_s hp)) rfl rfl rfl rfl ?_
      obtain ⟨v15, hp, hB⟩ := s_bd hB
      refine s_Fin.cl (d := 1) (q1 := s_m217) (md := 217) (vs := [.int (g.1 146 k10), .int v14]) (rest := [.int x3, .ref 146]) (h1 := s_hg g) (u := some (.int v15)) (s_Ev.up (by omega) (fM_least_s_s hp)) rfl rfl rfl rfl ?_
      refine s_Fin.ix (n := 128) (i := x3) (pc1 := 142) (L1 := [some (.ref 130), some (.int x1), some (.int x2), some (.int x3), some (.int x4)]) (fun j16 => []) (fun j16 => s_hg (s_si g 146 j16 v15)) hk10 rfl rfl ?_
      refine s_Fin.sg 2 (y := (84, [some (.ref 130), some (.int x1), some (.int x2), some (.int x3), some (.int (x4 + (1 : Int32)))], [], s_hg (s_si g 146 k10 v15))) rfl ?_
      have hB := Option.some.inj hB
      subst hB
      exact s_Fin.more (L := [some (.ref 130), some (.int x1), some (.int x2), some (.int x3), some (.int (x4 + (1 : Int32)))]) ⟨Or.inr rfl, Or.inr rfl, Or.inr rfl, Or.inr rfl, Or.inr rfl, trivial⟩ hr
  · rw [if_neg hc] at hB
    refine s_Fin.bt (c := (g.1 132 0) ≤ x4) (tg := 148) (p2 := 92) (L1 := [some (.ref 130), some (.int x1), some (.int x2), some (.int x3), some (.int x4)]) (st1 := []) (Int32.not_lt.mp hc) rfl ?_
    obtain ⟨_, hN, hz⟩ := s_in_of hB
    subst hz
    have hB := hN
    refine s_Fin.sg 2 (y := (67, [some (.ref 130), some (.int x1), some (.int x2), some (.int (x3 + (1 : Int32))), some (.int x4)], [], s_hg g)) rfl ?_
    have hB := Option.some.inj hB
    subst hB
    exact s_Fin.more (L := [some (.ref 130), some (.int x1), some (.int x2), some (.int (x3 + (1 : Int32))), none]) ⟨Or.inr rfl, Or.inr rfl, Or.inr rfl, Or.inr rfl, Or.inl rfl, trivial⟩ hr
noncomputable def fM_tents_130_67 (x1 : Int32) (x2 : Int32) (x3 : Int32) (g : s_G) : Option ((Int32 × s_G) ⊕ (Int32 × s_G)) :=
  if x2 < x3 then (s_in (if x2 = 0 then (some ((0 : Int32), g))
  else s_b1 (s_ix 128 x2) fun k5 => some ((g.1 146 k5) / (1000 : Int32), g)))
  else s_b1 (s_ix 128 x3) fun k7 => s_lp (fun x => fM_tents_130_84 x1 x2 x3 x.1 x.2) ((0 : Int32), (s_si g 146 k7 (100000 : Int32)))
theorem fM_tents_130_67_s {x1 : Int32} {x2 : Int32} {x3 : Int32} {g : s_G} {z : (Int32 × s_G) ⊕ (Int32 × s_G)} (hB : fM_tents_130_67 x1 x2 x3 g = some z) {v : Option Value} {h' : s_H} (hr : (s_sm (fun (x : Int32 × s_G) (v : Option Value) (h' : s_H) => s_Fin 2 s_m239 (67, [some (.ref 130), some (.int x1), some (.int x2), some (.int x.1), none], [], s_hg x.2) v h') (fun (z : Int32 × s_G) (v : Option Value) (h' : s_H) => v = some (.int z.1) ∧ h' = s_hg z.2)) z v h') : s_Fin 2 s_m239 (67, [some (.ref 130), some (.int x1), some (.int x2), some (.int x3), none], [], s_hg g) v h' := by
  unfold fM_tents_130_67 at hB
  refine s_Fin.sg 2 (y := (69, [some (.ref 130), some (.int x1), some (.int x2), some (.int x3), none], [.int x2, .int x3], s_hg g)) rfl ?_
  by_cases hc : x2 < x3
  · rw [if_pos hc] at hB
    refine s_Fin.bt (c := x2 < x3) (tg := 154) (p2 := 69) (L1 := [some (.ref 130), some (.int x1), some (.int x2), some (.int x3), none]) (st1 := []) hc rfl ?_
    obtain ⟨_, hN, hz⟩ := s_in_of hB
    subst hz
    have hB := hN
    refine s_Fin.sg 1 (y := (155, [some (.ref 130), some (.int x1), some (.int x2), some (.int x3), none], [.int x2], s_hg g)) rfl ?_
    by_cases hc : x2 = 0
    · rw [if_pos hc] at hB
      refine s_Fin.bf (c := ¬ x2 = 0) (tg := 162) (p2 := 155) (L1 := [some (.ref 130), some (.int x1), some (.int x2), some (.int x3), none]) (st1 := []) (fun h => h hc) rfl ?_
      refine s_Fin.sg 2 (y := (172, [some (.ref 130), some (.int x1), some (.int x2), some (.int x3), none], [.int (0 : Int32)], s_hg g)) rfl ?_
      have hB := Option.some.inj hB
      subst hB
      obtain ⟨rfl, rfl⟩ := hr
      exact s_Fin.rt rfl rfl
    · rw [if_neg hc] at hB
      refine s_Fin.bt (c := ¬ x2 = 0) (tg := 162) (p2 := 155) (L1 := [some (.ref 130), some (.int x1), some (.int x2), some (.int x3), none]) (st1 := []) hc rfl ?_
      refine s_Fin.sg 3 (y := (167, [some (.ref 130), some (.int x1), some (.int x2), some (.int x3), none], [.int x2, .ref 146], s_hg g)) rfl ?_
      obtain ⟨k5, hk5, hB⟩ := s_bd hB
      refine s_Fin.ix (n := 128) (i := x2) (pc1 := 168) (L1 := [some (.ref 130), some (.int x1), some (.int x2), some (.int x3), none]) (fun j4 => [.int (g.1 146 j4)]) (fun j4 => s_hg g) hk5 rfl rfl ?_
      refine s_Fin.sg 2 (y := (172, [some (.ref 130), some (.int x1), some (.int x2), some (.int x3), none], [.int ((g.1 146 k5) / (1000 : Int32))], s_hg g)) rfl ?_
      have hB := Option.some.inj hB
      subst hB
      obtain ⟨rfl, rfl⟩ := hr
      exact s_Fin.rt rfl rfl
  · rw [if_neg hc] at hB
    refine s_Fin.bf (c := x2 < x3) (tg := 154) (p2 := 69) (L1 := [some (.ref 130), some (.int x1), some (.int x2), some (.int x3), none]) (st1 := []) hc rfl ?_
    refine s_Fin.sg 4 (y := (80, [some (.ref 130), some (.int x1), some (.int x2), some (.int x3), none], [.int (100000 : Int32), .int x3, .ref 146], s_hg g)) rfl ?_
    obtain ⟨k7, hk7, hB⟩ := s_bd hB
    refine s_Fin.ix (n := 128) (i := x3) (pc1 := 81) (L1 := [some (.ref 130), some (.int x1), some (.int x2), some (.int x3), none]) (fun j6 => []) (fun j6 => s_hg (s_si g 146 j6 (100000 : Int32))) hk7 rfl rfl ?_
    refine s_Fin.sg 2 (y := (84, [some (.ref 130), some (.int x1), some (.int x2), some (.int x3), some (.int (0 : Int32))], [], s_hg (s_si g 146 k7 (100000 : Int32)))) rfl ?_
    exact s_Fin.more (L := [some (.ref 130), some (.int x1), some (.int x2), some (.int x3), some (.int (0 : Int32))]) ⟨Or.inr rfl, Or.inr rfl, Or.inr rfl, Or.inr rfl, Or.inr rfl, trivial⟩ (s_lp_s (P := (fun (x : Int32 × s_G) (v : Option Value) (h' : s_H) => s_Fin 2 s_m239 (84, [some (.ref 130), some (.int x1), some (.int x2), some (.int x3), some (.int x.1)], [], s_hg x.2) v h')) (Q := (s_sm (fun (x : Int32 × s_G) (v : Option Value) (h' : s_H) => s_Fin 2 s_m239 (67, [some (.ref 130), some (.int x1), some (.int x2), some (.int x.1), none], [], s_hg x.2) v h') (fun (z : Int32 × s_G) (v : Option Value) (h' : s_H) => v = some (.int z.1) ∧ h' = s_hg z.2))) (fun x z hB v h' hr => fM_tents_130_84_s hB hr) hB _ _ hr)
noncomputable def fM_tents_130_20 (x1 : Int32) (x2 : Int32) (g : s_G) : Option ((Int32) ⊕ (Int32 × s_G)) :=
  if x2 < (g.1 132 0) then (s_b1 (fM_loadOf_130 x2 g) fun v2 => if x1 < v2 then (s_in (some ((-1 : Int32), g)))
  else some (.inl (x2 + (1 : Int32))))
  else s_in (s_b1 (some (((1 : Int32) <<< ((g.1 132 0) &&& 31)) - (1 : Int32))) fun v3 => s_lp (fun x => fM_tents_130_67 x1 v3 x.1 x.2) ((1 : Int32), (s_si g 146 0 x1)))
theorem fM_tents_130_20_s {x1 : Int32} {x2 : Int32} {g : s_G} {z : (Int32) ⊕ (Int32 × s_G)} (hB : fM_tents_130_20 x1 x2 g = some z) {v : Option Value} {h' : s_H} (hr : (s_sm (fun (x : Int32) (v : Option Value) (h' : s_H) => s_Fin 2 s_m239 (20, [some (.ref 130), some (.int x1), some (.int x), none, none], [], s_hg g) v h') (fun (z : Int32 × s_G) (v : Option Value) (h' : s_H) => v = some (.int z.1) ∧ h' = s_hg z.2)) z v h') : s_Fin 2 s_m239 (20, [some (.ref 130), some (.int x1), some (.int x2), none, none], [], s_hg g) v h' := by
  unfold fM_tents_130_20 at hB
  refine s_Fin.sg 5 (y := (27, [some (.ref 130), some (.int x1), some (.int x2), none, none], [.int (g.1 132 0), .int x2], s_hg g)) rfl ?_
  by_cases hc : x2 < (g.1 132 0)
  · rw [if_pos hc] at hB
    refine s_Fin.bf (c := (g.1 132 0) ≤ x2) (tg := 47) (p2 := 27) (L1 := [some (.ref 130), some (.int x1), some (.int x2), none, none]) (st1 := []) (Int32.not_le.mpr hc) rfl ?_
    refine s_Fin.sg 2 (y := (32, [some (.ref 130), some (.int x1), some (.int x2), none, none], [.int x2, .ref 130], s_hg g)) rfl ?_
    obtain ⟨v2, hp, hB⟩ := s_bd hB
    refine s_Fin.cl (d := 1) (q1 := s_m194) (md := 194) (vs := [.ref 130, .int x2]) (rest := []) (h1 := s_hg g) (u := some (.int v2)) (s_Ev.up (by omega) (fM_loadOf_130_s hp)) rfl rfl rfl rfl ?_
    refine s_Fin.sg 1 (y := (36, [some (.ref 130), some (.int x1), some (.int x2), none, none], [.int x1, .int v2], s_hg g)) rfl ?_
    by_cases hc : x1 < v2
    · rw [if_pos hc] at hB
      refine s_Fin.bf (c := v2 ≤ x1) (tg := 41) (p2 := 36) (L1 := [some (.ref 130), some (.int x1), some (.int x2), none, none]) (st1 := []) (Int32.not_le.mpr hc) rfl ?_
      obtain ⟨_, hN, hz⟩ := s_in_of hB
      subst hz
      have hB := hN
      refine s_Fin.sg 1 (y := (40, [some (.ref 130), some (.int x1), some (.int x2), none, none], [.int (-1 : Int32)], s_hg g)) rfl ?_
      have hB := Option.some.inj hB
      subst hB
      obtain ⟨rfl, rfl⟩ := hr
      exact s_Fin.rt rfl rfl
    · rw [if_neg hc] at hB
      refine s_Fin.bt (c := v2 ≤ x1) (tg := 41) (p2 := 36) (L1 := [some (.ref 130), some (.int x1), some (.int x2), none, none]) (st1 := []) (Int32.not_lt.mp hc) rfl ?_
      refine s_Fin.sg 2 (y := (20, [some (.ref 130), some (.int x1), some (.int (x2 + (1 : Int32))), none, none], [], s_hg g)) rfl ?_
      have hB := Option.some.inj hB
      subst hB
      exact s_Fin.more (L := [some (.ref 130), some (.int x1), some (.int (x2 + (1 : Int32))), none, none]) ⟨Or.inr rfl, Or.inr rfl, Or.inr rfl, Or.inl rfl, Or.inl rfl, trivial⟩ hr
  · rw [if_neg hc] at hB
    refine s_Fin.bt (c := (g.1 132 0) ≤ x2) (tg := 47) (p2 := 27) (L1 := [some (.ref 130), some (.int x1), some (.int x2), none, none]) (st1 := []) (Int32.not_lt.mp hc) rfl ?_
    obtain ⟨_, hN, hz⟩ := s_in_of hB
    subst hz
    have hB := hN
    refine s_Fin.sg 13 (y := (64, [some (.ref 130), some (.int x1), some (.int x2), none, none], [.int (((1 : Int32) <<< ((g.1 132 0) &&& 31)) - (1 : Int32))], s_hg (s_si g 146 0 x1))) rfl ?_
    obtain ⟨v3, hx, hB⟩ := s_bd hB
    have hx := Option.some.inj hx
    rw [hx]
    refine s_Fin.sg 3 (y := (67, [some (.ref 130), some (.int x1), some (.int v3), some (.int (1 : Int32)), none], [], s_hg (s_si g 146 0 x1))) rfl ?_
    exact s_Fin.more (L := [some (.ref 130), some (.int x1), some (.int v3), some (.int (1 : Int32)), none]) ⟨Or.inr rfl, Or.inr rfl, Or.inr rfl, Or.inr rfl, Or.inl rfl, trivial⟩ (s_lp_s (P := (fun (x : Int32 × s_G) (v : Option Value) (h' : s_H) => s_Fin 2 s_m239 (67, [some (.ref 130), some (.int x1), some (.int v3), some (.int x.1), none], [], s_hg x.2) v h')) (Q := (fun (z : Int32 × s_G) (v : Option Value) (h' : s_H) => v = some (.int z.1) ∧ h' = s_hg z.2)) (fun x z hB v h' hr => fM_tents_130_67_s hB hr) hB _ _ hr)
noncomputable def fM_tents_130 (x1 : Int32) (g : s_G) : Option (Int32 × s_G) :=
  s_b1 (fM_isIn_s x1 (1 : Int32) (400 : Int32) (s_si g 130 0 (0 : Int32))) fun v1 => if v1 = 0 then (some ((-1 : Int32), (s_si g 130 0 (0 : Int32))))
  else s_lp (fun x => fM_tents_130_20 x1 x (s_si g 130 0 (0 : Int32))) (0 : Int32)
theorem fM_tents_130_s {x1 : Int32} {g : s_G} {z : Int32 × s_G} (hB : fM_tents_130 x1 g = some z) : s_Ev 2 s_m239 [.ref 130, .int x1] (s_hg g) (some (.int z.1)) (s_hg z.2) := by
  unfold fM_tents_130 at hB
  refine s_Ev.fin ((?_ : ∀ (v : Option Value) (h' : s_H), (fun (z : Int32 × s_G) (v : Option Value) (h' : s_H) => v = some (.int z.1) ∧ h' = s_hg z.2) z v h' → s_Fin 2 s_m239 (0, s_ent [.ref 130, .int x1] (s_m239).2.2.1, [], s_hg g) v h') _ _ ⟨rfl, rfl⟩)
  intro v h' hr
  refine (show s_Fin 2 s_m239 (0, [some (.ref 130), some (.int x1), none, none, none], [], s_hg g) v h' from ?_)
  refine s_Fin.sg 6 (y := (10, [some (.ref 130), some (.int x1), none, none, none], [.int (400 : Int32), .int (1 : Int32), .int x1], s_hg (s_si g 130 0 (0 : Int32)))) rfl ?_
  obtain ⟨v1, hp, hB⟩ := s_bd hB
  refine s_Fin.cl (d := 1) (q1 := s_m181) (md := 181) (vs := [.int x1, .int (1 : Int32), .int (400 : Int32)]) (rest := []) (h1 := s_hg (s_si g 130 0 (0 : Int32))) (u := some (.int v1)) (s_Ev.up (by omega) (fM_isIn_s_s hp)) rfl rfl rfl rfl ?_
  by_cases hc : v1 = 0
  · rw [if_pos hc] at hB
    refine s_Fin.bf (c := ¬ v1 = 0) (tg := 18) (p2 := 13) (L1 := [some (.ref 130), some (.int x1), none, none, none]) (st1 := []) (fun h => h hc) rfl ?_
    refine s_Fin.sg 1 (y := (17, [some (.ref 130), some (.int x1), none, none, none], [.int (-1 : Int32)], s_hg (s_si g 130 0 (0 : Int32)))) rfl ?_
    have hB := Option.some.inj hB
    subst hB
    obtain ⟨rfl, rfl⟩ := hr
    exact s_Fin.rt rfl rfl
  · rw [if_neg hc] at hB
    refine s_Fin.bt (c := ¬ v1 = 0) (tg := 18) (p2 := 13) (L1 := [some (.ref 130), some (.int x1), none, none, none]) (st1 := []) hc rfl ?_
    refine s_Fin.sg 2 (y := (20, [some (.ref 130), some (.int x1), some (.int (0 : Int32)), none, none], [], s_hg (s_si g 130 0 (0 : Int32)))) rfl ?_
    exact s_Fin.more (L := [some (.ref 130), some (.int x1), some (.int (0 : Int32)), none, none]) ⟨Or.inr rfl, Or.inr rfl, Or.inr rfl, Or.inl rfl, Or.inl rfl, trivial⟩ (s_lp_s (P := (fun (x : Int32) (v : Option Value) (h' : s_H) => s_Fin 2 s_m239 (20, [some (.ref 130), some (.int x1), some (.int x), none, none], [], s_hg (s_si g 130 0 (0 : Int32))) v h')) (Q := (fun (z : Int32 × s_G) (v : Option Value) (h' : s_H) => v = some (.int z.1) ∧ h' = s_hg z.2)) (fun x z hB v h' hr => fM_tents_130_20_s hB hr) hB _ _ hr)
-- CampAshes$Advice.withOneMore
noncomputable def fA_withOneMore_s_23 (x0 : Int32) (x1 : Int32) (t0 : Int32) (g : s_G) : Option (Int32) :=
  if t0 = 0 then (some ((((x0 / (1024 : Int32)) + (1 : Int32)) * (1024 : Int32)) + x1))
  else some (x0 + x1)
theorem fA_withOneMore_s_23_s {x0 : Int32} {x1 : Int32} {t0 : Int32} {g : s_G} {z : Int32} (hB : fA_withOneMore_s_23 x0 x1 t0 g = some z) {v : Option Value} {h' : s_H} (hr : (fun (z : Int32) (v : Option Value) (h' : s_H) => v = some (.int z) ∧ h' = s_hg g) z v h') : s_Fin 0 s_m103 (23, [some (.int x0), some (.int x1), none, none], [.int t0], s_hg g) v h' := by
  unfold fA_withOneMore_s_23 at hB
  refine s_Fin.sg 2 (y := (25, [some (.int x0), some (.int x1), none, some (.int t0)], [.int t0], s_hg g)) rfl ?_
  by_cases hc : t0 = 0
  · rw [if_pos hc] at hB
    refine s_Fin.bt (c := t0 = 0) (tg := 34) (p2 := 25) (L1 := [some (.int x0), some (.int x1), none, some (.int t0)]) (st1 := []) hc rfl ?_
    refine s_Fin.sg 9 (y := (47, [some (.int x0), some (.int x1), none, some (.int t0)], [.int ((((x0 / (1024 : Int32)) + (1 : Int32)) * (1024 : Int32)) + x1)], s_hg g)) rfl ?_
    have hB := Option.some.inj hB
    subst hB
    obtain ⟨rfl, rfl⟩ := hr
    exact s_Fin.rt rfl rfl
  · rw [if_neg hc] at hB
    refine s_Fin.bf (c := t0 = 0) (tg := 34) (p2 := 25) (L1 := [some (.int x0), some (.int x1), none, some (.int t0)]) (st1 := []) hc rfl ?_
    refine s_Fin.sg 4 (y := (47, [some (.int x0), some (.int x1), none, some (.int t0)], [.int (x0 + x1)], s_hg g)) rfl ?_
    have hB := Option.some.inj hB
    subst hB
    obtain ⟨rfl, rfl⟩ := hr
    exact s_Fin.rt rfl rfl
noncomputable def fA_withOneMore_s_22 (x0 : Int32) (x1 : Int32) (g : s_G) : Option (Int32) :=
  fA_withOneMore_s_23 x0 x1 (0 : Int32) g
theorem fA_withOneMore_s_22_s {x0 : Int32} {x1 : Int32} {g : s_G} {z : Int32} (hB : fA_withOneMore_s_22 x0 x1 g = some z) {v : Option Value} {h' : s_H} (hr : (fun (z : Int32) (v : Option Value) (h' : s_H) => v = some (.int z) ∧ h' = s_hg g) z v h') : s_Fin 0 s_m103 (22, [some (.int x0), some (.int x1), none, none], [], s_hg g) v h' := by
  unfold fA_withOneMore_s_22 at hB
  refine s_Fin.sg 1 (y := (23, [some (.int x0), some (.int x1), none, none], [.int (0 : Int32)], s_hg g)) rfl ?_
  exact s_Fin.more (L := [some (.int x0), some (.int x1), none, none]) ⟨Or.inr rfl, Or.inr rfl, Or.inl rfl, Or.inl rfl, trivial⟩ (fA_withOneMore_s_23_s hB hr)
noncomputable def fA_withOneMore_s (x0 : Int32) (x1 : Int32) (x2 : Int32) (g : s_G) : Option (Int32) :=
  if x0 < (1024 : Int32) then (fA_withOneMore_s_22 x0 x1 g)
  else if x2 < ((x0 - x0 / (1024 : Int32) * (1024 : Int32)) + x1) then (fA_withOneMore_s_22 x0 x1 g)
  else fA_withOneMore_s_23 x0 x1 (1 : Int32) g
theorem fA_withOneMore_s_s {x0 : Int32} {x1 : Int32} {x2 : Int32} {g : s_G} {z : Int32} (hB : fA_withOneMore_s x0 x1 x2 g = some z) : s_Ev 0 s_m103 [.int x0, .int x1, .int x2] (s_hg g) (some (.int z)) (s_hg g) := by
  unfold fA_withOneMore_s at hB
  refine s_Ev.fin ((?_ : ∀ (v : Option Value) (h' : s_H), (fun (z : Int32) (v : Option Value) (h' : s_H) => v = some (.int z) ∧ h' = s_hg g) z v h' → s_Fin 0 s_m103 (0, s_ent [.int x0, .int x1, .int x2] (s_m103).2.2.1, [], s_hg g) v h') _ _ ⟨rfl, rfl⟩)
  intro v h' hr
  refine (show s_Fin 0 s_m103 (0, [some (.int x0), some (.int x1), some (.int x2), none], [], s_hg g) v h' from ?_)
  refine s_Fin.sg 2 (y := (4, [some (.int x0), some (.int x1), some (.int x2), none], [.int (1024 : Int32), .int x0], s_hg g)) rfl ?_
  by_cases hc : x0 < (1024 : Int32)
  · rw [if_pos hc] at hB
    refine s_Fin.bt (c := x0 < (1024 : Int32)) (tg := 22) (p2 := 4) (L1 := [some (.int x0), some (.int x1), some (.int x2), none]) (st1 := []) hc rfl ?_
    exact s_Fin.more (L := [some (.int x0), some (.int x1), none, none]) ⟨Or.inr rfl, Or.inr rfl, Or.inl rfl, Or.inl rfl, trivial⟩ (fA_withOneMore_s_22_s hB hr)
  · rw [if_neg hc] at hB
    refine s_Fin.bf (c := x0 < (1024 : Int32)) (tg := 22) (p2 := 4) (L1 := [some (.int x0), some (.int x1), some (.int x2), none]) (st1 := []) hc rfl ?_
    refine s_Fin.sg 6 (y := (15, [some (.int x0), some (.int x1), some (.int x2), none], [.int x2, .int ((x0 - x0 / (1024 : Int32) * (1024 : Int32)) + x1)], s_hg g)) rfl ?_
    by_cases hc : x2 < ((x0 - x0 / (1024 : Int32) * (1024 : Int32)) + x1)
    · rw [if_pos hc] at hB
      refine s_Fin.bt (c := x2 < ((x0 - x0 / (1024 : Int32) * (1024 : Int32)) + x1)) (tg := 22) (p2 := 15) (L1 := [some (.int x0), some (.int x1), some (.int x2), none]) (st1 := []) hc rfl ?_
      exact s_Fin.more (L := [some (.int x0), some (.int x1), none, none]) ⟨Or.inr rfl, Or.inr rfl, Or.inl rfl, Or.inl rfl, trivial⟩ (fA_withOneMore_s_22_s hB hr)
    · rw [if_neg hc] at hB
      refine s_Fin.bf (c := x2 < ((x0 - x0 / (1024 : Int32) * (1024 : Int32)) + x1)) (tg := 22) (p2 := 15) (L1 := [some (.int x0), some (.int x1), some (.int x2), none]) (st1 := []) hc rfl ?_
      refine s_Fin.sg 2 (y := (23, [some (.int x0), some (.int x1), some (.int x2), none], [.int (1 : Int32)], s_hg g)) rfl ?_
      exact s_Fin.more (L := [some (.int x0), some (.int x1), none, none]) ⟨Or.inr rfl, Or.inr rfl, Or.inl rfl, Or.inl rfl, trivial⟩ (fA_withOneMore_s_23_s hB hr)
