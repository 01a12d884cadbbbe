-- CampAshes$Advice.countTents
noncomputable def fA_countTents_122_3_17_70 (x3 : Int32) (x4 : Int32) (x5 : Int32) (x6 : Int32) (g : s_G) : Option ((Int32 × s_G) ⊕ ((Int32 × s_G) ⊕ (Int32 × s_G))) :=
  if x6 < (g.1 3 0) then (if ((x5 >>> (x6 &&& 31)) &&& (1 : Int32)) = (1 : Int32) then (s_b1 (s_ix 128 x5) fun k9 => s_b1 (s_ix 128 (x5 &&& (((1 : Int32) <<< (x6 &&& 31)) ^^^ (-1 : Int32)))) fun k11 => s_b1 (s_ix 7 x6) fun k13 => s_b1 (fA_withOneMore_s (g.1 126 k11) (g.1 19 k13) x3 g) fun v14 => some (.inl (x6 + (1 : Int32), (s_si g 126 k9 (if v14 < (g.1 126 k9) then v14 else (g.1 126 k9))))))
  else some (.inl (x6 + (1 : Int32), g)))
  else s_in (some (.inl (x5 + (1 : Int32), g)))
theorem fA_countTents_122_3_17_70_s {x3 : Int32} {x4 : Int32} {x5 : Int32} {x6 : Int32} {g : s_G} {z : (Int32 × s_G) ⊕ ((Int32 × s_G) ⊕ (Int32 × s_G))} (hB : fA_countTents_122_3_17_70 x3 x4 x5 x6 g = some z) {v : Option Value} {h' : s_H} (hr : (s_sm (fun (x : Int32 × s_G) (v : Option Value) (h' : s_H) => s_Fin 1 s_m102 (70, [some (.ref 122), some (.ref 3), some (.ref 17), some (.int x3), some (.int x4), some (.int x5), some (.int x.1)], [], s_hg x.2) v h') (s_sm (fun (x : Int32 × s_G) (v : Option Value) (h' : s_H) => s_Fin 1 s_m102 (51, [some (.ref 122), some (.ref 3), some (.ref 17), some (.int x3), some (.int x4), some (.int x.1), none], [], s_hg x.2) v h') (fun (z : Int32 × s_G) (v : Option Value) (h' : s_H) => v = some (.int z.1) ∧ h' = s_hg z.2))) z v h') : s_Fin 1 s_m102 (70, [some (.ref 122), some (.ref 3), some (.ref 17), some (.int x3), some (.int x4), some (.int x5), some (.int x6)], [], s_hg g) v h' := by
  unfold fA_countTents_122_3_17_70 at hB
  refine s_Fin.sg 3 (y := (76, [some (.ref 122), some (.ref 3), some (.ref 17), some (.int x3), some (.int x4), some (.int x5), some (.int x6)], [.int (g.1 3 0), .int x6], s_hg g)) rfl ?_
  by_cases hc : x6 < (g.1 3 0)
  · rw [if_pos hc] at hB
    refine s_Fin.bf (c := (g.1 3 0) ≤ x6) (tg := 138) (p2 := 76) (L1 := [some (.ref 122), some (.ref 3), some (.ref 17), some (.int x3), some (.int x4), some (.int x5), some (.int x6)]) (st1 := []) (Int32.not_le.mpr hc) rfl ?_
    refine s_Fin.sg 6 (y := (87, [some (.ref 122), some (.ref 3), some (.ref 17), some (.int x3), some (.int x4), some (.int x5), some (.int x6)], [.int (1 : Int32), .int ((x5 >>> (x6 &&& 31)) &&& (1 : Int32))], s_hg g)) rfl ?_
    by_cases hc : ((x5 >>> (x6 &&& 31)) &&& (1 : Int32)) = (1 : Int32)
    · rw [if_pos hc] at hB
      refine s_Fin.bf (c := ¬ ((x5 >>> (x6 &&& 31)) &&& (1 : Int32)) = (1 : Int32)) (tg := 132) (p2 := 87) (L1 := [some (.ref 122), some (.ref 3), some (.ref 17), some (.int x3), some (.int x4), some (.int x5), some (.int x6)]) (st1 := []) (fun h => h hc) rfl ?_
      refine s_Fin.sg 6 (y := (102, [some (.ref 122), some (.ref 3), some (.ref 17), some (.int x3), some (.int x4), some (.int x5), some (.int x6)], [.int x5, .ref 126, .int x5, .ref 126], s_hg g)) rfl ?_
      obtain ⟨k9, hk9, hB⟩ := s_bd hB
      refine s_Fin.ix (n := 128) (i := x5) (pc1 := 103) (L1 := [some (.ref 122), some (.ref 3), some (.ref 17), some (.int x3), some (.int x4), some (.int x5), some (.int x6)]) (fun j8 => [.int (g.1 126 j8), .int x5, .ref 126]) (fun j8 => s_hg g) hk9 rfl rfl ?_
      refine s_Fin.sg 9 (y := (116, [some (.ref 122), some (.ref 3), some (.ref 17), some (.int x3), some (.int x4), some (.int x5), some (.int x6)], [.int (x5 &&& (((1 : Int32) <<< (x6 &&& 31)) ^^^ (-1 : Int32))), .ref 126, .int (g.1 126 k9), .int x5, .ref 126], s_hg g)) rfl ?_
      obtain ⟨k11, hk11, hB⟩ := s_bd hB
      refine s_Fin.ix (n := 128) (i := x5 &&& (((1 : Int32) <<< (x6 &&& 31)) ^^^ (-1 : Int32))) (pc1 := 117) (L1 := [some (.ref 122), some (.ref 3), some (.ref 17), some (.int x3), some (.int x4), some (.int x5), some (.int x6)]) (fun j10 => [.int (g.1 126 j10), .int (g.1 126 k9), .int x5, .ref 126]) (fun j10 => s_hg g) hk11 rfl rfl ?_
      refine s_Fin.sg 3 (y := (123, [some (.ref 122), some (.ref 3), some (.ref 17), some (.int x3), some (.int x4), some (.int x5), some (.int x6)], [.int x6, .ref 19, .int (g.1 126 k11), .int (g.1 126 k9), .int x5, .ref 126], s_hg g)) rfl ?_
      obtain ⟨k13, hk13, hB⟩ := s_bd hB
      refine s_Fin.ix (n := 7) (i := x6) (pc1 := 124) (L1 := [some (.ref 122), some (.ref 3), some (.ref 17), some (.int x3), some (.int x4), some (.int x5), some (.int x6)]) (fun j12 => [.int (g.1 19 j12), .int (g.1 126 k11), .int (g.1 126 k9), .int x5, .ref 126]) (fun j12 => s_hg g) hk13 rfl rfl ?_
      refine s_Fin.sg 1 (y := (125, [some (.ref 122), some (.ref 3), some (.ref 17), some (.int x3), some (.int x4), some (.int x5), some (.int x6)], [.int x3, .int (g.1 19 k13), .int (g.1 126 k11), .int (g.1 126 k9), .int x5, .ref 126], s_hg g)) rfl ?_
      obtain ⟨v14, hp, hB⟩ := s_bd hB
      refine s_Fin.cl (d := 0) (q1 := s_m103) (md := 103) (vs := [.int (g.1 126 k11), .int (g.1 19 k13), .int x3]) (rest := [.int (g.1 126 k9), .int x5, .ref 126]) (h1 := s_hg g) (u := some (.int v14)) (s_Ev.up (by omega) (fA_withOneMore_s_s hp)) rfl rfl rfl rfl ?_
      refine s_Fin.sg 1 (y := (131, [some (.ref 122), some (.ref 3), some (.ref 17), some (.int x3), some (.int x4), some (.int x5), some (.int x6)], [.int (if v14 < (g.1 126 k9) then v14 else (g.1 126 k9)), .int x5, .ref 126], s_hg g)) rfl ?_
      refine s_Fin.ix (n := 128) (i := x5) (pc1 := 132) (L1 := [some (.ref 122), some (.ref 3), some (.ref 17), some (.int x3), some (.int x4), some (.int x5), some (.int x6)]) (fun j15 => []) (fun j15 => s_hg (s_si g 126 j15 (if v14 < (g.1 126 k9) then v14 else (g.1 126 k9)))) hk9 rfl rfl ?_
      refine s_Fin.sg 2 (y := (70, [some (.ref 122), some (.ref 3), some (.ref 17), some (.int x3), some (.int x4), some (.int x5), some (.int (x6 + (1 : Int32)))], [], s_hg (s_si g 126 k9 (if v14 < (g.1 126 k9) then v14 else (g.1 126 k9))))) rfl ?_
      have hB := Option.some.inj hB
      subst hB
      exact s_Fin.more (L := [some (.ref 122), some (.ref 3), some (.ref 17), some (.int x3), some (.int x4), some (.int x5), some (.int (x6 + (1 : Int32)))]) ⟨Or.inr rfl, Or.inr rfl, Or.inr rfl, Or.inr rfl, Or.inr rfl, Or.inr rfl, Or.inr rfl, trivial⟩ hr
    · rw [if_neg hc] at hB
      refine s_Fin.bt (c := ¬ ((x5 >>> (x6 &&& 31)) &&& (1 : Int32)) = (1 : Int32)) (tg := 132) (p2 := 87) (L1 := [some (.ref 122), some (.ref 3), some (.ref 17), some (.int x3), some (.int x4), some (.int x5), some (.int x6)]) (st1 := []) hc rfl ?_
      refine s_Fin.sg 2 (y := (70, [some (.ref 122), some (.ref 3), some (.ref 17), some (.int x3), some (.int x4), some (.int x5), some (.int (x6 + (1 : Int32)))], [], s_hg g)) rfl ?_
      have hB := Option.some.inj hB
      subst hB
      exact s_Fin.more (L := [some (.ref 122), some (.ref 3), some (.ref 17), some (.int x3), some (.int x4), some (.int x5), some (.int (x6 + (1 : Int32)))]) ⟨Or.inr rfl, Or.inr rfl, Or.inr rfl, Or.inr rfl, Or.inr rfl, Or.inr rfl, Or.inr rfl, trivial⟩ hr
  · rw [if_neg hc] at hB
    refine s_Fin.bt (c := (g.1 3 0) ≤ x6) (tg := 138) (p2 := 76) (L1 := [some (.ref 122), some (.ref 3), some (.ref 17), some (.int x3), some (.int x4), some (.int x5), some (.int x6)]) (st1 := []) (Int32.not_lt.mp hc) rfl ?_
    obtain ⟨_, hN, hz⟩ := s_in_of hB
    subst hz
    have hB := hN
    refine s_Fin.sg 2 (y := (51, [some (.ref 122), some (.ref 3), some (.ref 17), some (.int x3), some (.int x4), some (.int (x5 + (1 : Int32))), some (.int x6)], [], s_hg g)) rfl ?_
    have hB := Option.some.inj hB
    subst hB
    exact s_Fin.more (L := [some (.ref 122), some (.ref 3), some (.ref 17), some (.int x3), some (.int x4), some (.int (x5 + (1 : Int32))), none]) ⟨Or.inr rfl, Or.inr rfl, Or.inr rfl, Or.inr rfl, Or.inr rfl, Or.inr rfl, Or.inl rfl, trivial⟩ hr
noncomputable def fA_countTents_122_3_17_51 (x3 : Int32) (x4 : Int32) (x5 : Int32) (g : s_G) : Option ((Int32 × s_G) ⊕ (Int32 × s_G)) :=
  if x4 < x5 then (s_in (s_b1 (s_ix 128 x4) fun k5 => some ((g.1 126 k5) / (1024 : Int32), g)))
  else s_b1 (s_ix 128 x5) fun k7 => s_lp (fun x => fA_countTents_122_3_17_70 x3 x4 x5 x.1 x.2) ((0 : Int32), (s_si g 126 k7 (1048576 : Int32)))
theorem fA_countTents_122_3_17_51_s {x3 : Int32} {x4 : Int32} {x5 : Int32} {g : s_G} {z : (Int32 × s_G) ⊕ (Int32 × s_G)} (hB : fA_countTents_122_3_17_51 x3 x4 x5 g = some z) {v : Option Value} {h' : s_H} (hr : (s_sm (fun (x : Int32 × s_G) (v : Option Value) (h' : s_H) => s_Fin 1 s_m102 (51, [some (.ref 122), some (.ref 3), some (.ref 17), some (.int x3), some (.int x4), some (.int x.1), none], [], s_hg x.2) v h') (fun (z : Int32 × s_G) (v : Option Value) (h' : s_H) => v = some (.int z.1) ∧ h' = s_hg z.2)) z v h') : s_Fin 1 s_m102 (51, [some (.ref 122), some (.ref 3), some (.ref 17), some (.int x3), some (.int x4), some (.int x5), none], [], s_hg g) v h' := by
  unfold fA_countTents_122_3_17_51 at hB
  refine s_Fin.sg 2 (y := (55, [some (.ref 122), some (.ref 3), some (.ref 17), some (.int x3), some (.int x4), some (.int x5), none], [.int x4, .int x5], s_hg g)) rfl ?_
  by_cases hc : x4 < x5
  · rw [if_pos hc] at hB
    refine s_Fin.bt (c := x4 < x5) (tg := 144) (p2 := 55) (L1 := [some (.ref 122), some (.ref 3), some (.ref 17), some (.int x3), some (.int x4), some (.int x5), none]) (st1 := []) hc rfl ?_
    obtain ⟨_, hN, hz⟩ := s_in_of hB
    subst hz
    have hB := hN
    refine s_Fin.sg 3 (y := (150, [some (.ref 122), some (.ref 3), some (.ref 17), some (.int x3), some (.int x4), some (.int x5), none], [.int x4, .ref 126], s_hg g)) rfl ?_
    obtain ⟨k5, hk5, hB⟩ := s_bd hB
    refine s_Fin.ix (n := 128) (i := x4) (pc1 := 151) (L1 := [some (.ref 122), some (.ref 3), some (.ref 17), some (.int x3), some (.int x4), some (.int x5), none]) (fun j4 => [.int (g.1 126 j4)]) (fun j4 => s_hg g) hk5 rfl rfl ?_
    refine s_Fin.sg 2 (y := (155, [some (.ref 122), some (.ref 3), some (.ref 17), some (.int x3), some (.int x4), some (.int x5), none], [.int ((g.1 126 k5) / (1024 : Int32))], s_hg g)) rfl ?_
    have hB := Option.some.inj hB
    subst hB
    obtain ⟨rfl, rfl⟩ := hr
    exact s_Fin.rt rfl rfl
  · rw [if_neg hc] at hB
    refine s_Fin.bf (c := x4 < x5) (tg := 144) (p2 := 55) (L1 := [some (.ref 122), some (.ref 3), some (.ref 17), some (.int x3), some (.int x4), some (.int x5), none]) (st1 := []) hc rfl ?_
    refine s_Fin.sg 4 (y := (66, [some (.ref 122), some (.ref 3), some (.ref 17), some (.int x3), some (.int x4), some (.int x5), none], [.int (1048576 : Int32), .int x5, .ref 126], s_hg g)) rfl ?_
    obtain ⟨k7, hk7, hB⟩ := s_bd hB
    refine s_Fin.ix (n := 128) (i := x5) (pc1 := 67) (L1 := [some (.ref 122), some (.ref 3), some (.ref 17), some (.int x3), some (.int x4), some (.int x5), none]) (fun j6 => []) (fun j6 => s_hg (s_si g 126 j6 (1048576 : Int32))) hk7 rfl rfl ?_
    refine s_Fin.sg 2 (y := (70, [some (.ref 122), some (.ref 3), some (.ref 17), some (.int x3), some (.int x4), some (.int x5), some (.int (0 : Int32))], [], s_hg (s_si g 126 k7 (1048576 : Int32)))) rfl ?_
    exact s_Fin.more (L := [some (.ref 122), some (.ref 3), some (.ref 17), some (.int x3), some (.int x4), some (.int x5), some (.int (0 : Int32))]) ⟨Or.inr rfl, Or.inr rfl, Or.inr rfl, Or.inr rfl, Or.inr rfl, Or.inr rfl, Or.inr rfl, trivial⟩ (s_lp_s (P := (fun (x : Int32 × s_G) (v : Option Value) (h' : s_H) => s_Fin 1 s_m102 (70, [some (.ref 122), some (.ref 3), some (.ref 17), some (.int x3), some (.int x4), some (.int x5), some (.int x.1)], [], s_hg x.2) v h')) (Q := (s_sm (fun (x : Int32 × s_G) (v : Option Value) (h' : s_H) => s_Fin 1 s_m102 (51, [some (.ref 122), some (.ref 3), some (.ref 17), some (.int x3), some (.int x4), some (.int x.1), none], [], s_hg x.2) v h') (fun (z : Int32 × s_G) (v : Option Value) (h' : s_H) => v = some (.int z.1) ∧ h' = s_hg z.2))) (fun x z hB v h' hr => fA_countTents_122_3_17_70_s hB hr) hB _ _ hr)
noncomputable def fA_countTents_122_3_17_3 (x3 : Int32) (x4 : Int32) (g : s_G) : Option ((Int32) ⊕ (Int32 × s_G)) :=
  if x4 < (g.1 3 0) then (s_b1 (s_ix 7 x4) fun k2 => if x3 < (g.1 19 k2) then (s_in (some ((-1 : Int32), g)))
  else some (.inl (x4 + (1 : Int32))))
  else s_in (s_b1 (some (((1 : Int32) <<< ((g.1 3 0) &&& 31)) - (1 : Int32))) fun v3 => s_lp (fun x => fA_countTents_122_3_17_51 x3 v3 x.1 x.2) ((1 : Int32), (s_si g 126 0 (0 : Int32))))
theorem fA_countTents_122_3_17_3_s {x3 : Int32} {x4 : Int32} {g : s_G} {z : (Int32) ⊕ (Int32 × s_G)} (hB : fA_countTents_122_3_17_3 x3 x4 g = some z) {v : Option Value} {h' : s_H} (hr : (s_sm (fun (x : Int32) (v : Option Value) (h' : s_H) => s_Fin 1 s_m102 (3, [some (.ref 122), some (.ref 3), some (.ref 17), some (.int x3), some (.int x), none, none], [], s_hg g) v h') (fun (z : Int32 × s_G) (v : Option Value) (h' : s_H) => v = some (.int z.1) ∧ h' = s_hg z.2)) z v h') : s_Fin 1 s_m102 (3, [some (.ref 122), some (.ref 3), some (.ref 17), some (.int x3), some (.int x4), none, none], [], s_hg g) v h' := by
  unfold fA_countTents_122_3_17_3 at hB
  refine s_Fin.sg 3 (y := (9, [some (.ref 122), some (.ref 3), some (.ref 17), some (.int x3), some (.int x4), none, none], [.int (g.1 3 0), .int x4], s_hg g)) rfl ?_
  by_cases hc : x4 < (g.1 3 0)
  · rw [if_pos hc] at hB
    refine s_Fin.bf (c := (g.1 3 0) ≤ x4) (tg := 31) (p2 := 9) (L1 := [some (.ref 122), some (.ref 3), some (.ref 17), some (.int x3), some (.int x4), none, none]) (st1 := []) (Int32.not_le.mpr hc) rfl ?_
    refine s_Fin.sg 3 (y := (18, [some (.ref 122), some (.ref 3), some (.ref 17), some (.int x3), some (.int x4), none, none], [.int x4, .ref 19], s_hg g)) rfl ?_
    obtain ⟨k2, hk2, hB⟩ := s_bd hB
    refine s_Fin.ix (n := 7) (i := x4) (pc1 := 19) (L1 := [some (.ref 122), some (.ref 3), some (.ref 17), some (.int x3), some (.int x4), none, none]) (fun j1 => [.int (g.1 19 j1)]) (fun j1 => s_hg g) hk2 rfl rfl ?_
    refine s_Fin.sg 1 (y := (20, [some (.ref 122), some (.ref 3), some (.ref 17), some (.int x3), some (.int x4), none, none], [.int x3, .int (g.1 19 k2)], s_hg g)) rfl ?_
    by_cases hc : x3 < (g.1 19 k2)
    · rw [if_pos hc] at hB
      refine s_Fin.bf (c := (g.1 19 k2) ≤ x3) (tg := 25) (p2 := 20) (L1 := [some (.ref 122), some (.ref 3), some (.ref 17), some (.int x3), some (.int x4), none, none]) (st1 := []) (Int32.not_le.mpr hc) rfl ?_
      obtain ⟨_, hN, hz⟩ := s_in_of hB
      subst hz
      have hB := hN
      refine s_Fin.sg 1 (y := (24, [some (.ref 122), some (.ref 3), some (.ref 17), some (.int x3), some (.int x4), none, none], [.int (-1 : Int32)], s_hg g)) rfl ?_
      have hB := Option.some.inj hB
      subst hB
      obtain ⟨rfl, rfl⟩ := hr
      exact s_Fin.rt rfl rfl
    · rw [if_neg hc] at hB
      refine s_Fin.bt (c := (g.1 19 k2) ≤ x3) (tg := 25) (p2 := 20) (L1 := [some (.ref 122), some (.ref 3), some (.ref 17), some (.int x3), some (.int x4), none, none]) (st1 := []) (Int32.not_lt.mp hc) rfl ?_
      refine s_Fin.sg 2 (y := (3, [some (.ref 122), some (.ref 3), some (.ref 17), some (.int x3), some (.int (x4 + (1 : Int32))), none, none], [], s_hg g)) rfl ?_
      have hB := Option.some.inj hB
      subst hB
      exact s_Fin.more (L := [some (.ref 122), some (.ref 3), some (.ref 17), some (.int x3), some (.int (x4 + (1 : Int32))), none, none]) ⟨Or.inr rfl, Or.inr rfl, Or.inr rfl, Or.inr rfl, Or.inr rfl, Or.inl rfl, Or.inl rfl, trivial⟩ hr
  · rw [if_neg hc] at hB
    refine s_Fin.bt (c := (g.1 3 0) ≤ x4) (tg := 31) (p2 := 9) (L1 := [some (.ref 122), some (.ref 3), some (.ref 17), some (.int x3), some (.int x4), none, none]) (st1 := []) (Int32.not_lt.mp hc) rfl ?_
    obtain ⟨_, hN, hz⟩ := s_in_of hB
    subst hz
    have hB := hN
    refine s_Fin.sg 6 (y := (39, [some (.ref 122), some (.ref 3), some (.ref 17), some (.int x3), some (.int x4), none, none], [.int (((1 : Int32) <<< ((g.1 3 0) &&& 31)) - (1 : Int32))], s_hg g)) rfl ?_
    obtain ⟨v3, hx, hB⟩ := s_bd hB
    have hx := Option.some.inj hx
    rw [hx]
    refine s_Fin.sg 8 (y := (51, [some (.ref 122), some (.ref 3), some (.ref 17), some (.int x3), some (.int v3), some (.int (1 : Int32)), none], [], s_hg (s_si g 126 0 (0 : Int32)))) rfl ?_
    exact s_Fin.more (L := [some (.ref 122), some (.ref 3), some (.ref 17), some (.int x3), some (.int v3), some (.int (1 : Int32)), none]) ⟨Or.inr rfl, Or.inr rfl, Or.inr rfl, Or.inr rfl, Or.inr rfl, Or.inr rfl, Or.inl rfl, trivial⟩ (s_lp_s (P := (fun (x : Int32 × s_G) (v : Option Value) (h' : s_H) => s_Fin 1 s_m102 (51, [some (.ref 122), some (.ref 3), some (.ref 17), some (.int x3), some (.int v3), some (.int x.1), none], [], s_hg x.2) v h')) (Q := (fun (z : Int32 × s_G) (v : Option Value) (h' : s_H) => v = some (.int z.1) ∧ h' = s_hg z.2)) (fun x z hB v h' hr => fA_countTents_122_3_17_51_s hB hr) hB _ _ hr)
noncomputable def fA_countTents_122_3_17 (x3 : Int32) (g : s_G) : Option (Int32 × s_G) :=
  s_lp (fun x => fA_countTents_122_3_17_3 x3 x g) (0 : Int32)
theorem fA_countTents_122_3_17_s {x3 : Int32} {g : s_G} {z : Int32 × s_G} (hB : fA_countTents_122_3_17 x3 g = some z) : s_Ev 1 s_m102 [.ref 122, .ref 3, .ref 17, .int x3] (s_hg g) (some (.int z.1)) (s_hg z.2) := by
  unfold fA_countTents_122_3_17 at hB
  refine s_Ev.fin ((?_ : ∀ (v : Option Value) (h' : s_H), (fun (z : Int32 × s_G) (v : Option Value) (h' : s_H) => v = some (.int z.1) ∧ h' = s_hg z.2) z v h' → s_Fin 1 s_m102 (0, s_ent [.ref 122, .ref 3, .ref 17, .int x3] (s_m102).2.2.1, [], s_hg g) v h') _ _ ⟨rfl, rfl⟩)
  intro v h' hr
  refine (show s_Fin 1 s_m102 (0, [some (.ref 122), some (.ref 3), some (.ref 17), some (.int x3), none, none, none], [], s_hg g) v h' from ?_)
  refine s_Fin.sg 2 (y := (3, [some (.ref 122), some (.ref 3), some (.ref 17), some (.int x3), some (.int (0 : Int32)), none, none], [], s_hg g)) rfl ?_
  exact s_Fin.more (L := [some (.ref 122), some (.ref 3), some (.ref 17), some (.int x3), some (.int (0 : Int32)), none, none]) ⟨Or.inr rfl, Or.inr rfl, Or.inr rfl, Or.inr rfl, Or.inr rfl, Or.inl rfl, Or.inl rfl, trivial⟩ (s_lp_s (P := (fun (x : Int32) (v : Option Value) (h' : s_H) => s_Fin 1 s_m102 (3, [some (.ref 122), some (.ref 3), some (.ref 17), some (.int x3), some (.int x), none, none], [], s_hg g) v h')) (Q := (fun (z : Int32 × s_G) (v : Option Value) (h' : s_H) => v = some (.int z.1) ∧ h' = s_hg z.2)) (fun x z hB v h' hr => fA_countTents_122_3_17_3_s hB hr) hB _ _ hr)
-- CampAshes.tents
noncomputable def fC_tents_0 (x1 : Int32) (g : s_G) : Option (Int32 × s_G) :=
  if x1 < (1 : Int32) then (some ((-1 : Int32), g))
  else if (400 : Int32) < x1 then (some ((-1 : Int32), g))
  else s_b2 (fA_countTents_122_3_17 x1 g) fun v2 g1 => some (v2, g1)
theorem fC_tents_0_s {x1 : Int32} {g : s_G} {z : Int32 × s_G} (hB : fC_tents_0 x1 g = some z) : s_Ev 2 s_m101 [.ref 0, .int x1] (s_hg g) (some (.int z.1)) (s_hg z.2) := by
  unfold fC_tents_0 at hB
  refine s_Ev.fin ((?_ : ∀ (v : Option Value) (h' : s_H), (fun (z : Int32 × s_G) (v : Option Value) (h' : s_H) => v = some (.int z.1) ∧ h' = s_hg z.2) z v h' → s_Fin 2 s_m101 (0, s_ent [.ref 0, .int x1] (s_m101).2.2.1, [], s_hg g) v h') _ _ ⟨rfl, rfl⟩)
  intro v h' hr
  refine (show s_Fin 2 s_m101 (0, [some (.ref 0), some (.int x1)], [], s_hg g) v h' from ?_)
  refine s_Fin.sg 2 (y := (2, [some (.ref 0), some (.int x1)], [.int (1 : Int32), .int x1], s_hg g)) rfl ?_
  by_cases hc : x1 < (1 : Int32)
  · rw [if_pos hc] at hB
    refine s_Fin.bt (c := x1 < (1 : Int32)) (tg := 12) (p2 := 2) (L1 := [some (.ref 0), some (.int x1)]) (st1 := []) hc rfl ?_
    refine s_Fin.sg 1 (y := (13, [some (.ref 0), some (.int x1)], [.int (-1 : Int32)], s_hg g)) rfl ?_
    have hB := Option.some.inj hB
    subst hB
    obtain ⟨rfl, rfl⟩ := hr
    exact s_Fin.rt rfl rfl
  · rw [if_neg hc] at hB
    refine s_Fin.bf (c := x1 < (1 : Int32)) (tg := 12) (p2 := 2) (L1 := [some (.ref 0), some (.int x1)]) (st1 := []) hc rfl ?_
    refine s_Fin.sg 2 (y := (9, [some (.ref 0), some (.int x1)], [.int (400 : Int32), .int x1], s_hg g)) rfl ?_
    by_cases hc : (400 : Int32) < x1
    · rw [if_pos hc] at hB
      refine s_Fin.bf (c := x1 ≤ (400 : Int32)) (tg := 14) (p2 := 9) (L1 := [some (.ref 0), some (.int x1)]) (st1 := []) (Int32.not_le.mpr hc) rfl ?_
      refine s_Fin.sg 1 (y := (13, [some (.ref 0), some (.int x1)], [.int (-1 : Int32)], s_hg g)) rfl ?_
      have hB := Option.some.inj hB
      subst hB
      obtain ⟨rfl, rfl⟩ := hr
      exact s_Fin.rt rfl rfl
    · rw [if_neg hc] at hB
      refine s_Fin.bt (c := x1 ≤ (400 : Int32)) (tg := 14) (p2 := 9) (L1 := [some (.ref 0), some (.int x1)]) (st1 := []) (Int32.not_lt.mp hc) rfl ?_
      refine s_Fin.sg 7 (y := (27, [some (.ref 0), some (.int x1)], [.int x1, .ref 17, .ref 3, .ref 122], s_hg g)) rfl ?_
      obtain ⟨v2, g1, hp, hB⟩ := s_bd2 hB
      refine s_Fin.cl (d := 1) (q1 := s_m102) (md := 102) (vs := [.ref 122, .ref 3, .ref 17, .int x1]) (rest := []) (h1 := s_hg g1) (u := some (.int v2)) (s_Ev.up (by omega) (fA_countTents_122_3_17_s hp)) rfl rfl rfl rfl ?_
      have hB := Option.some.inj hB
      subst hB
      obtain ⟨rfl, rfl⟩ := hr
      exact s_Fin.rt rfl rfl
-- CampAshesModel.behindOf
noncomputable def fM_behindOf_s (x0 : Int32) (x1 : Int32) (x2 : Int32) (g : s_G) : Option (Int32) :=
  if ((x0 - x1) - (x2 / (5 : Int32))) < 0 then (some (0 : Int32))
  else some ((x0 - x1) - (x2 / (5 : Int32)))
theorem fM_behindOf_s_s {x0 : Int32} {x1 : Int32} {x2 : Int32} {g : s_G} {z : Int32} (hB : fM_behindOf_s x0 x1 x2 g = some z) : s_Ev 0 s_m242 [.int x0, .int x1, .int x2] (s_hg g) (some (.int z)) (s_hg g) := by
  unfold fM_behindOf_s at hB
  refine s_Ev.fin ((?_ : ∀ (v : Option Value) (h' : s_H), (fun (z : Int32) (v : Option Value) (h' : s_H) => v = some (.int z) ∧ h' = s_hg g) z v h' → s_Fin 0 s_m242 (0, s_ent [.int x0, .int x1, .int x2] (s_m242).2.2.1, [], s_hg g) v h') _ _ ⟨rfl, rfl⟩)
  intro v h' hr
  refine (show s_Fin 0 s_m242 (0, [some (.int x0), some (.int x1), some (.int x2), none], [], s_hg g) v h' from ?_)
  refine s_Fin.sg 9 (y := (9, [some (.int x0), some (.int x1), some (.int x2), some (.int ((x0 - x1) - (x2 / (5 : Int32))))], [.int ((x0 - x1) - (x2 / (5 : Int32)))], s_hg g)) rfl ?_
  by_cases hc : ((x0 - x1) - (x2 / (5 : Int32))) < 0
  · rw [if_pos hc] at hB
    refine s_Fin.bf (c := 0 ≤ ((x0 - x1) - (x2 / (5 : Int32)))) (tg := 16) (p2 := 9) (L1 := [some (.int x0), some (.int x1), some (.int x2), some (.int ((x0 - x1) - (x2 / (5 : Int32))))]) (st1 := []) (Int32.not_le.mpr hc) rfl ?_
    refine s_Fin.sg 2 (y := (17, [some (.int x0), some (.int x1), some (.int x2), some (.int ((x0 - x1) - (x2 / (5 : Int32))))], [.int (0 : Int32)], s_hg g)) rfl ?_
    have hB := Option.some.inj hB
    subst hB
    obtain ⟨rfl, rfl⟩ := hr
    exact s_Fin.rt rfl rfl
  · rw [if_neg hc] at hB
    refine s_Fin.bt (c := 0 ≤ ((x0 - x1) - (x2 / (5 : Int32)))) (tg := 16) (p2 := 9) (L1 := [some (.int x0), some (.int x1), some (.int x2), some (.int ((x0 - x1) - (x2 / (5 : Int32))))]) (st1 := []) (Int32.not_lt.mp hc) rfl ?_
    refine s_Fin.sg 1 (y := (17, [some (.int x0), some (.int x1), some (.int x2), some (.int ((x0 - x1) - (x2 / (5 : Int32))))], [.int ((x0 - x1) - (x2 / (5 : Int32)))], s_hg g)) rfl ?_
    have hB := Option.some.inj hB
    subst hB
    obtain ⟨rfl, rfl⟩ := hr
    exact s_Fin.rt rfl rfl
-- CampAshesModel.leftBy
noncomputable def fM_leftBy_130_26 (x1 : Int32) (x2 : Int32) (x3 : Int32) (x4 : Int32) (g : s_G) : Option ((Int32 × Int32 × s_G) ⊕ (Int32 × s_G)) :=
  if (9 : Int32) < x4 then (s_in (some (x3, g)))
  else s_b1 (fM_has_s x1 x4 g) fun v1 => if v1 = 0 then (some (.inl (x3, x4 + (1 : Int32), g)))
  else s_b1 (fM_behindOf_s x2 x4 (10 : Int32) g) fun v2 => s_b1 (s_ix 41 v2) fun k4 => if x3 < ((s_si g 147 k4 ((g.1 147 k4) + (1 : Int32))).1 147 k4) then (s_b1 (some ((s_si g 147 k4 ((g.1 147 k4) + (1 : Int32))).1 147 k4)) fun v8 => some (.inl (v8, x4 + (1 : Int32), (s_si g 147 k4 ((g.1 147 k4) + (1 : Int32))))))
  else some (.inl (x3, x4 + (1 : Int32), (s_si g 147 k4 ((g.1 147 k4) + (1 : Int32)))))
theorem fM_leftBy_130_26_s {x1 : Int32} {x2 : Int32} {x3 : Int32} {x4 : Int32} {g : s_G} {z : (Int32 × Int32 × s_G) ⊕ (Int32 × s_G)} (hB : fM_leftBy_130_26 x1 x2 x3 x4 g = some z) {v : Option Value} {h' : s_H} (hr : (s_sm (fun (x : Int32 × Int32 × s_G) (v : Option Value) (h' : s_H) => s_Fin 1 s_m243 (26, [some (.ref 130), some (.int x1), some (.int x2), some (.int x.1), some (.int x.2.1), none], [], s_hg x.2.2) v h') (fun (z : Int32 × s_G) (v : Option Value) (h' : s_H) => v = some (.int z.1) ∧ h' = s_hg z.2)) z v h') : s_Fin 1 s_m243 (26, [some (.ref 130), some (.int x1), some (.int x2), some (.int x3), some (.int x4), none], [], s_hg g) v h' := by
  unfold fM_leftBy_130_26 at hB
  refine s_Fin.sg 2 (y := (30, [some (.ref 130), some (.int x1), some (.int x2), some (.int x3), some (.int x4), none], [.int (9 : Int32), .int x4], s_hg g)) rfl ?_
  by_cases hc : (9 : Int32) < x4
  · rw [if_pos hc] at hB
    refine s_Fin.bt (c := (9 : Int32) < x4) (tg := 91) (p2 := 30) (L1 := [some (.ref 130), some (.int x1), some (.int x2), some (.int x3), some (.int x4), none]) (st1 := []) hc rfl ?_
    obtain ⟨_, hN, hz⟩ := s_in_of hB
    subst hz
    have hB := hN
    refine s_Fin.sg 1 (y := (92, [some (.ref 130), some (.int x1), some (.int x2), some (.int x3), some (.int x4), none], [.int x3], s_hg g)) rfl ?_
    have hB := Option.some.inj hB
    subst hB
    obtain ⟨rfl, rfl⟩ := hr
    exact s_Fin.rt rfl rfl
  · rw [if_neg hc] at hB
    refine s_Fin.bf (c := (9 : Int32) < x4) (tg := 91) (p2 := 30) (L1 := [some (.ref 130), some (.int x1), some (.int x2), some (.int x3), some (.int x4), none]) (st1 := []) hc rfl ?_
    refine s_Fin.sg 2 (y := (36, [some (.ref 130), some (.int x1), some (.int x2), some (.int x3), some (.int x4), none], [.int x4, .int x1], s_hg g)) rfl ?_
    obtain ⟨v1, hp, hB⟩ := s_bd hB
    refine s_Fin.cl (d := 0) (q1 := s_m198) (md := 198) (vs := [.int x1, .int x4]) (rest := []) (h1 := s_hg g) (u := some (.int v1)) (s_Ev.up (by omega) (fM_has_s_s hp)) rfl rfl rfl rfl ?_
    by_cases hc : v1 = 0
    · rw [if_pos hc] at hB
      refine s_Fin.bf (c := ¬ v1 = 0) (tg := 45) (p2 := 39) (L1 := [some (.ref 130), some (.int x1), some (.int x2), some (.int x3), some (.int x4), none]) (st1 := []) (fun h => h hc) rfl ?_
      refine s_Fin.sg 3 (y := (26, [some (.ref 130), some (.int x1), some (.int x2), some (.int x3), some (.int (x4 + (1 : Int32))), none], [], s_hg g)) rfl ?_
      have hB := Option.some.inj hB
      subst hB
      exact s_Fin.more (L := [some (.ref 130), some (.int x1), some (.int x2), some (.int x3), some (.int (x4 + (1 : Int32))), none]) ⟨Or.inr rfl, Or.inr rfl, Or.inr rfl, Or.inr rfl, Or.inr rfl, Or.inl rfl, trivial⟩ hr
    · rw [if_neg hc] at hB
      refine s_Fin.bt (c := ¬ v1 = 0) (tg := 45) (p2 := 39) (L1 := [some (.ref 130), some (.int x1), some (.int x2), some (.int x3), some (.int x4), none]) (st1 := []) hc rfl ?_
      refine s_Fin.sg 3 (y := (50, [some (.ref 130), some (.int x1), some (.int x2), some (.int x3), some (.int x4), none], [.int (10 : Int32), .int x4, .int x2], s_hg g)) rfl ?_
      obtain ⟨v2, hp, hB⟩ := s_bd hB
      refine s_Fin.cl (d := 0) (q1 := s_m242) (md := 242) (vs := [.int x2, .int x4, .int (10 : Int32)]) (rest := []) (h1 := s_hg g) (u := some (.int v2)) (s_Ev.up (by omega) (fM_behindOf_s_s hp)) rfl rfl rfl rfl ?_
      refine s_Fin.sg 5 (y := (62, [some (.ref 130), some (.int x1), some (.int x2), some (.int x3), some (.int x4), some (.int v2)], [.int v2, .ref 147, .int v2, .ref 147], s_hg g)) rfl ?_
      obtain ⟨k4, hk4, hB⟩ := s_bd hB
      refine s_Fin.ix (n := 41) (i := v2) (pc1 := 63) (L1 := [some (.ref 130), some (.int x1), some (.int x2), some (.int x3), some (.int x4), some (.int v2)]) (fun j3 => [.int (g.1 147 j3), .int v2, .ref 147]) (fun j3 => s_hg g) hk4 rfl rfl ?_
      refine s_Fin.sg 2 (y := (65, [some (.ref 130), some (.int x1), some (.int x2), some (.int x3), some (.int x4), some (.int v2)], [.int ((g.1 147 k4) + (1 : Int32)), .int v2, .ref 147], s_hg g)) rfl ?_
      refine s_Fin.ix (n := 41) (i := v2) (pc1 := 66) (L1 := [some (.ref 130), some (.int x1), some (.int x2), some (.int x3), some (.int x4), some (.int v2)]) (fun j5 => []) (fun j5 => s_hg (s_si g 147 j5 ((g.1 147 k4) + (1 : Int32)))) hk4 rfl rfl ?_
      refine s_Fin.sg 3 (y := (72, [some (.ref 130), some (.int x1), some (.int x2), some (.int x3), some (.int x4), some (.int v2)], [.int v2, .ref 147], s_hg (s_si g 147 k4 ((g.1 147 k4) + (1 : Int32))))) rfl ?_
      refine s_Fin.ix (n := 41) (i := v2) (pc1 := 73) (L1 := [some (.ref 130), some (.int x1), some (.int x2), some (.int x3), some (.int x4), some (.int v2)]) (fun j6 => [.int ((s_si g 147 k4 ((g.1 147 k4) + (1 : Int32))).1 147 j6)]) (fun j6 => s_hg (s_si g 147 k4 ((g.1 147 k4) + (1 : Int32)))) hk4 rfl rfl ?_
      refine s_Fin.sg 1 (y := (74, [some (.ref 130), some (.int x1), some (.int x2), some (.int x3), some (.int x4), some (.int v2)], [.int x3, .int ((s_si g 147 k4 ((g.1 147 k4) + (1 : Int32))).1 147 k4)], s_hg (s_si g 147 k4 ((g.1 147 k4) + (1 : Int32))))) rfl ?_
      by_cases hc : x3 < ((s_si g 147 k4 ((g.1 147 k4) + (1 : Int32))).1 147 k4)
      · rw [if_pos hc] at hB
        refine s_Fin.bf (c := ((s_si g 147 k4 ((g.1 147 k4) + (1 : Int32))).1 147 k4) ≤ x3) (tg := 85) (p2 := 74) (L1 := [some (.ref 130), some (.int x1), some (.int x2), some (.int x3), some (.int x4), some (.int v2)]) (st1 := []) (Int32.not_le.mpr hc) rfl ?_
        refine s_Fin.sg 3 (y := (83, [some (.ref 130), some (.int x1), some (.int x2), some (.int x3), some (.int x4), some (.int v2)], [.int v2, .ref 147], s_hg (s_si g 147 k4 ((g.1 147 k4) + (1 : Int32))))) rfl ?_
        refine s_Fin.ix (n := 41) (i := v2) (pc1 := 84) (L1 := [some (.ref 130), some (.int x1), some (.int x2), some (.int x3), some (.int x4), some (.int v2)]) (fun j7 => [.int ((s_si g 147 k4 ((g.1 147 k4) + (1 : Int32))).1 147 j7)]) (fun j7 => s_hg (s_si g 147 k4 ((g.1 147 k4) + (1 : Int32)))) hk4 rfl rfl ?_
        obtain ⟨v8, hx, hB⟩ := s_bd hB
        have hx := Option.some.inj hx
        rw [hx]
        refine s_Fin.sg 3 (y := (26, [some (.ref 130), some (.int x1), some (.int x2), some (.int v8), some (.int (x4 + (1 : Int32))), some (.int v2)], [], s_hg (s_si g 147 k4 ((g.1 147 k4) + (1 : Int32))))) rfl ?_
        have hB := Option.some.inj hB
        subst hB
        exact s_Fin.more (L := [some (.ref 130), some (.int x1), some (.int x2), some (.int v8), some (.int (x4 + (1 : Int32))), none]) ⟨Or.inr rfl, Or.inr rfl, Or.inr rfl, Or.inr rfl, Or.inr rfl, Or.inl rfl, trivial⟩ hr
      · rw [if_neg hc] at hB
        refine s_Fin.bt (c := ((s_si g 147 k4 ((g.1 147 k4) + (1 : Int32))).1 147 k4) ≤ x3) (tg := 85) (p2 := 74) (L1 := [some (.ref 130), some (.int x1), some (.int x2), some (.int x3), some (.int x4), some (.int v2)]) (st1 := []) (Int32.not_lt.mp hc) rfl ?_
        refine s_Fin.sg 2 (y := (26, [some (.ref 130), some (.int x1), some (.int x2), some (.int x3), some (.int (x4 + (1 : Int32))), some (.int v2)], [], s_hg (s_si g 147 k4 ((g.1 147 k4) + (1 : Int32))))) rfl ?_
        have hB := Option.some.inj hB
        subst hB
        exact s_Fin.more (L := [some (.ref 130), some (.int x1), some (.int x2), some (.int x3), some (.int (x4 + (1 : Int32))), none]) ⟨Or.inr rfl, Or.inr rfl, Or.inr rfl, Or.inr rfl, Or.inr rfl, Or.inl rfl, trivial⟩ hr
noncomputable def fM_leftBy_130_2 (x1 : Int32) (x2 : Int32) (x3 : Int32) (g : s_G) : Option ((Int32 × s_G) ⊕ (Int32 × s_G)) :=
  if (40 : Int32) < x3 then (s_in (s_lp (fun x => fM_leftBy_130_26 x1 x2 x.1 x.2.1 x.2.2) ((0 : Int32), (0 : Int32), g)))
  else s_b1 (s_ix 41 x3) fun k10 => some (.inl (x3 + (1 : Int32), (s_si g 147 k10 (0 : Int32))))
theorem fM_leftBy_130_2_s {x1 : Int32} {x2 : Int32} {x3 : Int32} {g : s_G} {z : (Int32 × s_G) ⊕ (Int32 × s_G)} (hB : fM_leftBy_130_2 x1 x2 x3 g = some z) {v : Option Value} {h' : s_H} (hr : (s_sm (fun (x : Int32 × s_G) (v : Option Value) (h' : s_H) => s_Fin 1 s_m243 (2, [some (.ref 130), some (.int x1), some (.int x2), some (.int x.1), none, none], [], s_hg x.2) v h') (fun (z : Int32 × s_G) (v : Option Value) (h' : s_H) => v = some (.int z.1) ∧ h' = s_hg z.2)) z v h') : s_Fin 1 s_m243 (2, [some (.ref 130), some (.int x1), some (.int x2), some (.int x3), none, none], [], s_hg g) v h' := by
  unfold fM_leftBy_130_2 at hB
  refine s_Fin.sg 2 (y := (5, [some (.ref 130), some (.int x1), some (.int x2), some (.int x3), none, none], [.int (40 : Int32), .int x3], s_hg g)) rfl ?_
  by_cases hc : (40 : Int32) < x3
  · rw [if_pos hc] at hB
    refine s_Fin.bt (c := (40 : Int32) < x3) (tg := 21) (p2 := 5) (L1 := [some (.ref 130), some (.int x1), some (.int x2), some (.int x3), none, none]) (st1 := []) hc rfl ?_
    obtain ⟨_, hN, hz⟩ := s_in_of hB
    subst hz
    have hB := hN
    refine s_Fin.sg 4 (y := (26, [some (.ref 130), some (.int x1), some (.int x2), some (.int (0 : Int32)), some (.int (0 : Int32)), none], [], s_hg g)) rfl ?_
    exact s_Fin.more (L := [some (.ref 130), some (.int x1), some (.int x2), some (.int (0 : Int32)), some (.int (0 : Int32)), none]) ⟨Or.inr rfl, Or.inr rfl, Or.inr rfl, Or.inr rfl, Or.inr rfl, Or.inl rfl, trivial⟩ (s_lp_s (P := (fun (x : Int32 × Int32 × s_G) (v : Option Value) (h' : s_H) => s_Fin 1 s_m243 (26, [some (.ref 130), some (.int x1), some (.int x2), some (.int x.1), some (.int x.2.1), none], [], s_hg x.2.2) v h')) (Q := (fun (z : Int32 × s_G) (v : Option Value) (h' : s_H) => v = some (.int z.1) ∧ h' = s_hg z.2)) (fun x z hB v h' hr => fM_leftBy_130_26_s hB hr) hB _ _ hr)
  · rw [if_neg hc] at hB
    refine s_Fin.bf (c := (40 : Int32) < x3) (tg := 21) (p2 := 5) (L1 := [some (.ref 130), some (.int x1), some (.int x2), some (.int x3), none, none]) (st1 := []) hc rfl ?_
    refine s_Fin.sg 4 (y := (14, [some (.ref 130), some (.int x1), some (.int x2), some (.int x3), none, none], [.int (0 : Int32), .int x3, .ref 147], s_hg g)) rfl ?_
    obtain ⟨k10, hk10, hB⟩ := s_bd hB
    refine s_Fin.ix (n := 41) (i := x3) (pc1 := 15) (L1 := [some (.ref 130), some (.int x1), some (.int x2), some (.int x3), none, none]) (fun j9 => []) (fun j9 => s_hg (s_si g 147 j9 (0 : Int32))) hk10 rfl rfl ?_
    refine s_Fin.sg 2 (y := (2, [some (.ref 130), some (.int x1), some (.int x2), some (.int (x3 + (1 : Int32))), none, none], [], s_hg (s_si g 147 k10 (0 : Int32)))) rfl ?_
    have hB := Option.some.inj hB
    subst hB
    exact s_Fin.more (L := [some (.ref 130), some (.int x1), some (.int x2), some (.int (x3 + (1 : Int32))), none, none]) ⟨Or.inr rfl, Or.inr rfl, Or.inr rfl, Or.inr rfl, Or.inl rfl, Or.inl rfl, trivial⟩ hr
noncomputable def fM_leftBy_130 (x1 : Int32) (x2 : Int32) (g : s_G) : Option (Int32 × s_G) :=
  s_lp (fun x => fM_leftBy_130_2 x1 x2 x.1 x.2) ((0 : Int32), g)
theorem fM_leftBy_130_s {x1 : Int32} {x2 : Int32} {g : s_G} {z : Int32 × s_G} (hB : fM_leftBy_130 x1 x2 g = some z) : s_Ev 1 s_m243 [.ref 130, .int x1, .int x2] (s_hg g) (some (.int z.1)) (s_hg z.2) := by
  unfold fM_leftBy_130 at hB
  refine s_Ev.fin ((?_ : ∀ (v : Option Value) (h' : s_H), (fun (z : Int32 × s_G) (v : Option Value) (h' : s_H) => v = some (.int z.1) ∧ h' = s_hg z.2) z v h' → s_Fin 1 s_m243 (0, s_ent [.ref 130, .int x1, .int x2] (s_m243).2.2.1, [], s_hg g) v h') _ _ ⟨rfl, rfl⟩)
  intro v h' hr
  refine (show s_Fin 1 s_m243 (0, [some (.ref 130), some (.int x1), some (.int x2), none, none, none], [], s_hg g) v h' from ?_)
  refine s_Fin.sg 2 (y := (2, [some (.ref 130), some (.int x1), some (.int x2), some (.int (0 : Int32)), none, none], [], s_hg g)) rfl ?_
  exact s_Fin.more (L := [some (.ref 130), some (.int x1), some (.int x2), some (.int (0 : Int32)), none, none]) ⟨Or.inr rfl, Or.inr rfl, Or.inr rfl, Or.inr rfl, Or.inl rfl, Or.inl rfl, trivial⟩ (s_lp_s (P := (fun (x : Int32 × s_G) (v : Option Value) (h' : s_H) => s_Fin 1 s_m243 (2, [some (.ref 130), some (.int x1), some (.int x2), some (.int x.1), none, none], [], s_hg x.2) v h')) (Q := (fun (z : Int32 × s_G) (v : Option Value) (h' : s_H) => v = some (.int z.1) ∧ h' = s_hg z.2)) (fun x z hB v h' hr => fM_leftBy_130_2_s hB hr) hB _ _ hr)
-- CampAshesModel.laws
noncomputable def fM_laws_130_162 (x2 : Int32) (x3 : Int32) (g : s_G) : Option ((Int32 × s_G) ⊕ (Int32 × s_G)) :=
  if (40 : Int32) < x3 then (s_in (some (x2, g)))
  else s_b2 (fM_leftBy_130 x2 x3 g) fun v8 g7 => s_b2 (fM_leftBy_130 x2 (g7.1 130 34) g7) fun v10 g9 => if v8 < v10 then (some (.inl (x3 + (1 : Int32), (s_si g9 130 34 x3))))
  else some (.inl (x3 + (1 : Int32), g9))
theorem fM_laws_130_162_s {x2 : Int32} {x3 : Int32} {g : s_G} {z : (Int32 × s_G) ⊕ (Int32 × s_G)} (hB : fM_laws_130_162 x2 x3 g = some z) {v : Option Value} {h' : s_H} (hr : (s_sm (fun (x : Int32 × s_G) (v : Option Value) (h' : s_H) => s_Fin 2 s_m241 (162, [some (.ref 130), none, some (.int x2), some (.int x.1), none, none], [], s_hg x.2) v h') (fun (z : Int32 × s_G) (v : Option Value) (h' : s_H) => v = some (.int z.1) ∧ h' = s_hg z.2)) z v h') : s_Fin 2 s_m241 (162, [some (.ref 130), none, some (.int x2), some (.int x3), none, none], [], s_hg g) v h' := by
  unfold fM_laws_130_162 at hB
  refine s_Fin.sg 2 (y := (165, [some (.ref 130), none, some (.int x2), some (.int x3), none, none], [.int (40 : Int32), .int x3], s_hg g)) rfl ?_
  by_cases hc : (40 : Int32) < x3
  · rw [if_pos hc] at hB
    refine s_Fin.bt (c := (40 : Int32) < x3) (tg := 197) (p2 := 165) (L1 := [some (.ref 130), none, some (.int x2), some (.int x3), none, none]) (st1 := []) hc rfl ?_
    obtain ⟨_, hN, hz⟩ := s_in_of hB
    subst hz
    have hB := hN
    refine s_Fin.sg 1 (y := (198, [some (.ref 130), none, some (.int x2), some (.int x3), none, none], [.int x2], s_hg g)) rfl ?_
    have hB := Option.some.inj hB
    subst hB
    obtain ⟨rfl, rfl⟩ := hr
    exact s_Fin.rt rfl rfl
  · rw [if_neg hc] at hB
    refine s_Fin.bf (c := (40 : Int32) < x3) (tg := 197) (p2 := 165) (L1 := [some (.ref 130), none, some (.int x2), some (.int x3), none, none]) (st1 := []) hc rfl ?_
    refine s_Fin.sg 3 (y := (171, [some (.ref 130), none, some (.int x2), some (.int x3), none, none], [.int x3, .int x2, .ref 130], s_hg g)) rfl ?_
    obtain ⟨v8, g7, hp, hB⟩ := s_bd2 hB
    refine s_Fin.cl (d := 1) (q1 := s_m243) (md := 243) (vs := [.ref 130, .int x2, .int x3]) (rest := []) (h1 := s_hg g7) (u := some (.int v8)) (s_Ev.up (by omega) (fM_leftBy_130_s hp)) rfl rfl rfl rfl ?_
    refine s_Fin.sg 4 (y := (180, [some (.ref 130), none, some (.int x2), some (.int x3), none, none], [.int (g7.1 130 34), .int x2, .ref 130, .int v8], s_hg g7)) rfl ?_
    obtain ⟨v10, g9, hp, hB⟩ := s_bd2 hB
    refine s_Fin.cl (d := 1) (q1 := s_m243) (md := 243) (vs := [.ref 130, .int x2, .int (g7.1 130 34)]) (rest := [.int v8]) (h1 := s_hg g9) (u := some (.int v10)) (s_Ev.up (by omega) (fM_leftBy_130_s hp)) rfl rfl rfl rfl ?_
    by_cases hc : v8 < v10
    · rw [if_pos hc] at hB
      refine s_Fin.bf (c := v10 ≤ v8) (tg := 191) (p2 := 183) (L1 := [some (.ref 130), none, some (.int x2), some (.int x3), none, none]) (st1 := []) (Int32.not_le.mpr hc) rfl ?_
      refine s_Fin.sg 5 (y := (162, [some (.ref 130), none, some (.int x2), some (.int (x3 + (1 : Int32))), none, none], [], s_hg (s_si g9 130 34 x3))) rfl ?_
      have hB := Option.some.inj hB
      subst hB
      exact s_Fin.more (L := [some (.ref 130), none, some (.int x2), some (.int (x3 + (1 : Int32))), none, none]) ⟨Or.inr rfl, Or.inl rfl, Or.inr rfl, Or.inr rfl, Or.inl rfl, Or.inl rfl, trivial⟩ hr
    · rw [if_neg hc] at hB
      refine s_Fin.bt (c := v10 ≤ v8) (tg := 191) (p2 := 183) (L1 := [some (.ref 130), none, some (.int x2), some (.int x3), none, none]) (st1 := []) (Int32.not_lt.mp hc) rfl ?_
      refine s_Fin.sg 2 (y := (162, [some (.ref 130), none, some (.int x2), some (.int (x3 + (1 : Int32))), none, none], [], s_hg g9)) rfl ?_
      have hB := Option.some.inj hB
      subst hB
      exact s_Fin.more (L := [some (.ref 130), none, some (.int x2), some (.int (x3 + (1 : Int32))), none, none]) ⟨Or.inr rfl, Or.inl rfl, Or.inr rfl, Or.inr rfl, Or.inl rfl, Or.inl rfl, trivial⟩ hr
noncomputable def fM_laws_130_76 (x1 : Int32) (x2 : Int32) (x3 : Int32) (x4 : Int32) (x5 : Int32) (g : s_G) : Option ((Int32 × Int32) ⊕ ((Int32 × Int32) ⊕ (Int32 × s_G))) :=
  if x5 < x1 then (if x4 = 0 then (some (.inl ((0 : Int32), x5 + (3 : Int32))))
  else s_b1 (s_ix 940 (x5 + (1 : Int32))) fun k12 => s_b1 (s_ix 940 x5) fun k14 => s_b1 (fM_behindOf_s (g.1 131 k12) x3 (g.1 131 k14) g) fun v15 => s_b1 (s_ix 940 (x5 + (2 : Int32))) fun k17 => if v15 = (g.1 131 k17) then (some (.inl ((1 : Int32), x5 + (3 : Int32))))
  else some (.inl ((0 : Int32), x5 + (3 : Int32))))
  else s_in (if x4 = 0 then (some (.inl (x2, x3 + (1 : Int32))))
  else some (.inl (x2 ||| ((1 : Int32) <<< (x3 &&& 31)), x3 + (1 : Int32))))
theorem fM_laws_130_76_s {x1 : Int32} {x2 : Int32} {x3 : Int32} {x4 : Int32} {x5 : Int32} {g : s_G} {z : (Int32 × Int32) ⊕ ((Int32 × Int32) ⊕ (Int32 × s_G))} (hB : fM_laws_130_76 x1 x2 x3 x4 x5 g = some z) {v : Option Value} {h' : s_H} (hr : (s_sm (fun (x : Int32 × Int32) (v : Option Value) (h' : s_H) => s_Fin 2 s_m241 (76, [some (.ref 130), some (.int x1), some (.int x2), some (.int x3), some (.int x.1), some (.int x.2)], [], s_hg g) v h') (s_sm (fun (x : Int32 × Int32) (v : Option Value) (h' : s_H) => s_Fin 2 s_m241 (64, [some (.ref 130), some (.int x1), some (.int x.1), some (.int x.2), none, none], [], s_hg g) v h') (fun (z : Int32 × s_G) (v : Option Value) (h' : s_H) => v = some (.int z.1) ∧ h' = s_hg z.2))) z v h') : s_Fin 2 s_m241 (76, [some (.ref 130), some (.int x1), some (.int x2), some (.int x3), some (.int x4), some (.int x5)], [], s_hg g) v h' := by
  unfold fM_laws_130_76 at hB
  refine s_Fin.sg 2 (y := (79, [some (.ref 130), some (.int x1), some (.int x2), some (.int x3), some (.int x4), some (.int x5)], [.int x1, .int x5], s_hg g)) rfl ?_
  by_cases hc : x5 < x1
  · rw [if_pos hc] at hB
    refine s_Fin.bf (c := x1 ≤ x5) (tg := 132) (p2 := 79) (L1 := [some (.ref 130), some (.int x1), some (.int x2), some (.int x3), some (.int x4), some (.int x5)]) (st1 := []) (Int32.not_le.mpr hc) rfl ?_
    refine s_Fin.sg 1 (y := (84, [some (.ref 130), some (.int x1), some (.int x2), some (.int x3), some (.int x4), some (.int x5)], [.int x4], s_hg g)) rfl ?_
    by_cases hc : x4 = 0
    · rw [if_pos hc] at hB
      refine s_Fin.bt (c := x4 = 0) (tg := 123) (p2 := 84) (L1 := [some (.ref 130), some (.int x1), some (.int x2), some (.int x3), some (.int x4), some (.int x5)]) (st1 := []) hc rfl ?_
      refine s_Fin.sg 4 (y := (76, [some (.ref 130), some (.int x1), some (.int x2), some (.int x3), some (.int (0 : Int32)), some (.int (x5 + (3 : Int32)))], [], s_hg g)) rfl ?_
      have hB := Option.some.inj hB
      subst hB
      exact s_Fin.more (L := [some (.ref 130), some (.int x1), some (.int x2), some (.int x3), some (.int (0 : Int32)), some (.int (x5 + (3 : Int32)))]) ⟨Or.inr rfl, Or.inr rfl, Or.inr rfl, Or.inr rfl, Or.inr rfl, Or.inr rfl, trivial⟩ hr
    · rw [if_neg hc] at hB
      refine s_Fin.bf (c := x4 = 0) (tg := 123) (p2 := 84) (L1 := [some (.ref 130), some (.int x1), some (.int x2), some (.int x3), some (.int x4), some (.int x5)]) (st1 := []) hc rfl ?_
      refine s_Fin.sg 5 (y := (95, [some (.ref 130), some (.int x1), some (.int x2), some (.int x3), some (.int x4), some (.int x5)], [.int (x5 + (1 : Int32)), .ref 131], s_hg g)) rfl ?_
      obtain ⟨k12, hk12, hB⟩ := s_bd hB
      refine s_Fin.ix (n := 940) (i := x5 + (1 : Int32)) (pc1 := 96) (L1 := [some (.ref 130), some (.int x1), some (.int x2), some (.int x3), some (.int x4), some (.int x5)]) (fun j11 => [.int (g.1 131 j11)]) (fun j11 => s_hg g) hk12 rfl rfl ?_
      refine s_Fin.sg 4 (y := (103, [some (.ref 130), some (.int x1), some (.int x2), some (.int x3), some (.int x4), some (.int x5)], [.int x5, .ref 131, .int x3, .int (g.1 131 k12)], s_hg g)) rfl ?_
      obtain ⟨k14, hk14, hB⟩ := s_bd hB
      refine s_Fin.ix (n := 940) (i := x5) (pc1 := 104) (L1 := [some (.ref 130), some (.int x1), some (.int x2), some (.int x3), some (.int x4), some (.int x5)]) (fun j13 => [.int (g.1 131 j13), .int x3, .int (g.1 131 k12)]) (fun j13 => s_hg g) hk14 rfl rfl ?_
      obtain ⟨v15, hp, hB⟩ := s_bd hB
      refine s_Fin.cl (d := 1) (q1 := s_m242) (md := 242) (vs := [.int (g.1 131 k12), .int x3, .int (g.1 131 k14)]) (rest := []) (h1 := s_hg g) (u := some (.int v15)) (s_Ev.up (by omega) (fM_behindOf_s_s hp)) rfl rfl rfl rfl ?_
      refine s_Fin.sg 5 (y := (115, [some (.ref 130), some (.int x1), some (.int x2), some (.int x3), some (.int x4), some (.int x5)], [.int (x5 + (2 : Int32)), .ref 131, .int v15], s_hg g)) rfl ?_
      obtain ⟨k17, hk17, hB⟩ := s_bd hB
      refine s_Fin.ix (n := 940) (i := x5 + (2 : Int32)) (pc1 := 116) (L1 := [some (.ref 130), some (.int x1), some (.int x2), some (.int x3), some (.int x4), some (.int x5)]) (fun j16 => [.int (g.1 131 j16), .int v15]) (fun j16 => s_hg g) hk17 rfl rfl ?_
      by_cases hc : v15 = (g.1 131 k17)
      · rw [if_pos hc] at hB
        refine s_Fin.bf (c := ¬ v15 = (g.1 131 k17)) (tg := 123) (p2 := 116) (L1 := [some (.ref 130), some (.int x1), some (.int x2), some (.int x3), some (.int x4), some (.int x5)]) (st1 := []) (fun h => h hc) rfl ?_
        refine s_Fin.sg 5 (y := (76, [some (.ref 130), some (.int x1), some (.int x2), some (.int x3), some (.int (1 : Int32)), some (.int (x5 + (3 : Int32)))], [], s_hg g)) rfl ?_
        have hB := Option.some.inj hB
        subst hB
        exact s_Fin.more (L := [some (.ref 130), some (.int x1), some (.int x2), some (.int x3), some (.int (1 : Int32)), some (.int (x5 + (3 : Int32)))]) ⟨Or.inr rfl, Or.inr rfl, Or.inr rfl, Or.inr rfl, Or.inr rfl, Or.inr rfl, trivial⟩ hr
      · rw [if_neg hc] at hB
        refine s_Fin.bt (c := ¬ v15 = (g.1 131 k17)) (tg := 123) (p2 := 116) (L1 := [some (.ref 130), some (.int x1), some (.int x2), some (.int x3), some (.int x4), some (.int x5)]) (st1 := []) hc rfl ?_
        refine s_Fin.sg 4 (y := (76, [some (.ref 130), some (.int x1), some (.int x2), some (.int x3), some (.int (0 : Int32)), some (.int (x5 + (3 : Int32)))], [], s_hg g)) rfl ?_
        have hB := Option.some.inj hB
        subst hB
        exact s_Fin.more (L := [some (.ref 130), some (.int x1), some (.int x2), some (.int x3), some (.int (0 : Int32)), some (.int (x5 + (3 : Int32)))]) ⟨Or.inr rfl, Or.inr rfl, Or.inr rfl, Or.inr rfl, Or.inr rfl, Or.inr rfl, trivial⟩ hr
  · rw [if_neg hc] at hB
    refine s_Fin.bt (c := x1 ≤ x5) (tg := 132) (p2 := 79) (L1 := [some (.ref 130), some (.int x1), some (.int x2), some (.int x3), some (.int x4), some (.int x5)]) (st1 := []) (Int32.not_lt.mp hc) rfl ?_
    obtain ⟨_, hN, hz⟩ := s_in_of hB
    subst hz
    have hB := hN
    refine s_Fin.sg 1 (y := (134, [some (.ref 130), some (.int x1), some (.int x2), some (.int x3), some (.int x4), some (.int x5)], [.int x4], s_hg g)) rfl ?_
    by_cases hc : x4 = 0
    · rw [if_pos hc] at hB
      refine s_Fin.bt (c := x4 = 0) (tg := 143) (p2 := 134) (L1 := [some (.ref 130), some (.int x1), some (.int x2), some (.int x3), some (.int x4), some (.int x5)]) (st1 := []) hc rfl ?_
      refine s_Fin.sg 2 (y := (64, [some (.ref 130), some (.int x1), some (.int x2), some (.int (x3 + (1 : Int32))), some (.int x4), some (.int x5)], [], s_hg g)) rfl ?_
      have hB := Option.some.inj hB
      subst hB
      exact s_Fin.more (L := [some (.ref 130), some (.int x1), some (.int x2), some (.int (x3 + (1 : Int32))), none, none]) ⟨Or.inr rfl, Or.inr rfl, Or.inr rfl, Or.inr rfl, Or.inl rfl, Or.inl rfl, trivial⟩ hr
    · rw [if_neg hc] at hB
      refine s_Fin.bf (c := x4 = 0) (tg := 143) (p2 := 134) (L1 := [some (.ref 130), some (.int x1), some (.int x2), some (.int x3), some (.int x4), some (.int x5)]) (st1 := []) hc rfl ?_
      refine s_Fin.sg 8 (y := (64, [some (.ref 130), some (.int x1), some (.int (x2 ||| ((1 : Int32) <<< (x3 &&& 31)))), some (.int (x3 + (1 : Int32))), some (.int x4), some (.int x5)], [], s_hg g)) rfl ?_
      have hB := Option.some.inj hB
      subst hB
      exact s_Fin.more (L := [some (.ref 130), some (.int x1), some (.int (x2 ||| ((1 : Int32) <<< (x3 &&& 31)))), some (.int (x3 + (1 : Int32))), none, none]) ⟨Or.inr rfl, Or.inr rfl, Or.inr rfl, Or.inr rfl, Or.inl rfl, Or.inl rfl, trivial⟩ hr
noncomputable def fM_laws_130_64 (x1 : Int32) (x2 : Int32) (x3 : Int32) (g : s_G) : Option ((Int32 × Int32) ⊕ (Int32 × s_G)) :=
  if (9 : Int32) < x3 then (s_in (if x2 = 0 then (some ((0 : Int32), g))
  else s_lp (fun x => fM_laws_130_162 x2 x.1 x.2) ((2 : Int32), (s_si g 130 34 (1 : Int32)))))
  else s_lp (fun x => fM_laws_130_76 x1 x2 x3 x.1 x.2 g) ((1 : Int32), (0 : Int32))
theorem fM_laws_130_64_s {x1 : Int32} {x2 : Int32} {x3 : Int32} {g : s_G} {z : (Int32 × Int32) ⊕ (Int32 × s_G)} (hB : fM_laws_130_64 x1 x2 x3 g = some z) {v : Option Value} {h' : s_H} (hr : (s_sm (fun (x : Int32 × Int32) (v : Option Value) (h' : s_H) => s_Fin 2 s_m241 (64, [some (.ref 130), some (.int x1), some (.int x.1), some (.int x.2), none, none], [], s_hg g) v h') (fun (z : Int32 × s_G) (v : Option Value) (h' : s_H) => v = some (.int z.1) ∧ h' = s_hg z.2)) z v h') : s_Fin 2 s_m241 (64, [some (.ref 130), some (.int x1), some (.int x2), some (.int x3), none, none], [], s_hg g) v h' := by
  unfold fM_laws_130_64 at hB
  refine s_Fin.sg 2 (y := (67, [some (.ref 130), some (.int x1), some (.int x2), some (.int x3), none, none], [.int (9 : Int32), .int x3], s_hg g)) rfl ?_
  by_cases hc : (9 : Int32) < x3
  · rw [if_pos hc] at hB
    refine s_Fin.bt (c := (9 : Int32) < x3) (tg := 149) (p2 := 67) (L1 := [some (.ref 130), some (.int x1), some (.int x2), some (.int x3), none, none]) (st1 := []) hc rfl ?_
    obtain ⟨_, hN, hz⟩ := s_in_of hB
    subst hz
    have hB := hN
    refine s_Fin.sg 1 (y := (150, [some (.ref 130), some (.int x1), some (.int x2), some (.int x3), none, none], [.int x2], s_hg g)) rfl ?_
    by_cases hc : x2 = 0
    · rw [if_pos hc] at hB
      refine s_Fin.bf (c := ¬ x2 = 0) (tg := 155) (p2 := 150) (L1 := [some (.ref 130), some (.int x1), some (.int x2), some (.int x3), none, none]) (st1 := []) (fun h => h hc) rfl ?_
      refine s_Fin.sg 1 (y := (154, [some (.ref 130), some (.int x1), some (.int x2), some (.int x3), none, none], [.int (0 : Int32)], s_hg g)) rfl ?_
      have hB := Option.some.inj hB
      subst hB
      obtain ⟨rfl, rfl⟩ := hr
      exact s_Fin.rt rfl rfl
    · rw [if_neg hc] at hB
      refine s_Fin.bt (c := ¬ x2 = 0) (tg := 155) (p2 := 150) (L1 := [some (.ref 130), some (.int x1), some (.int x2), some (.int x3), none, none]) (st1 := []) hc rfl ?_
      refine s_Fin.sg 5 (y := (162, [some (.ref 130), some (.int x1), some (.int x2), some (.int (2 : Int32)), none, none], [], s_hg (s_si g 130 34 (1 : Int32)))) rfl ?_
      exact s_Fin.more (L := [some (.ref 130), none, some (.int x2), some (.int (2 : Int32)), none, none]) ⟨Or.inr rfl, Or.inl rfl, Or.inr rfl, Or.inr rfl, Or.inl rfl, Or.inl rfl, trivial⟩ (s_lp_s (P := (fun (x : Int32 × s_G) (v : Option Value) (h' : s_H) => s_Fin 2 s_m241 (162, [some (.ref 130), none, some (.int x2), some (.int x.1), none, none], [], s_hg x.2) v h')) (Q := (fun (z : Int32 × s_G) (v : Option Value) (h' : s_H) => v = some (.int z.1) ∧ h' = s_hg z.2)) (fun x z hB v h' hr => fM_laws_130_162_s hB hr) hB _ _ hr)
  · rw [if_neg hc] at hB
    refine s_Fin.bf (c := (9 : Int32) < x3) (tg := 149) (p2 := 67) (L1 := [some (.ref 130), some (.int x1), some (.int x2), some (.int x3), none, none]) (st1 := []) hc rfl ?_
    refine s_Fin.sg 4 (y := (76, [some (.ref 130), some (.int x1), some (.int x2), some (.int x3), some (.int (1 : Int32)), some (.int (0 : Int32))], [], s_hg g)) rfl ?_
    exact s_Fin.more (L := [some (.ref 130), some (.int x1), some (.int x2), some (.int x3), some (.int (1 : Int32)), some (.int (0 : Int32))]) ⟨Or.inr rfl, Or.inr rfl, Or.inr rfl, Or.inr rfl, Or.inr rfl, Or.inr rfl, trivial⟩ (s_lp_s (P := (fun (x : Int32 × Int32) (v : Option Value) (h' : s_H) => s_Fin 2 s_m241 (76, [some (.ref 130), some (.int x1), some (.int x2), some (.int x3), some (.int x.1), some (.int x.2)], [], s_hg g) v h')) (Q := (s_sm (fun (x : Int32 × Int32) (v : Option Value) (h' : s_H) => s_Fin 2 s_m241 (64, [some (.ref 130), some (.int x1), some (.int x.1), some (.int x.2), none, none], [], s_hg g) v h') (fun (z : Int32 × s_G) (v : Option Value) (h' : s_H) => v = some (.int z.1) ∧ h' = s_hg z.2))) (fun x z hB v h' hr => fM_laws_130_76_s hB hr) hB _ _ hr)
noncomputable def fM_laws_130_32 (x1 : Int32) (x2 : Int32) (g : s_G) : Option ((Int32) ⊕ (Int32 × s_G)) :=
  if x2 < x1 then (s_b1 (s_ix 940 x2) fun k5 => s_b1 (fM_isIn_s (g.1 131 k5) (1 : Int32) (30 : Int32) g) fun v6 => if v6 = 0 then (s_in (some ((-1 : Int32), g)))
  else some (.inl (x2 + (3 : Int32))))
  else s_in (s_lp (fun x => fM_laws_130_64 x1 x.1 x.2 g) ((0 : Int32), (0 : Int32)))
theorem fM_laws_130_32_s {x1 : Int32} {x2 : Int32} {g : s_G} {z : (Int32) ⊕ (Int32 × s_G)} (hB : fM_laws_130_32 x1 x2 g = some z) {v : Option Value} {h' : s_H} (hr : (s_sm (fun (x : Int32) (v : Option Value) (h' : s_H) => s_Fin 2 s_m241 (32, [some (.ref 130), some (.int x1), some (.int x), none, none, none], [], s_hg g) v h') (fun (z : Int32 × s_G) (v : Option Value) (h' : s_H) => v = some (.int z.1) ∧ h' = s_hg z.2)) z v h') : s_Fin 2 s_m241 (32, [some (.ref 130), some (.int x1), some (.int x2), none, none, none], [], s_hg g) v h' := by
  unfold fM_laws_130_32 at hB
  refine s_Fin.sg 2 (y := (34, [some (.ref 130), some (.int x1), some (.int x2), none, none, none], [.int x1, .int x2], s_hg g)) rfl ?_
  by_cases hc : x2 < x1
  · rw [if_pos hc] at hB
    refine s_Fin.bf (c := x1 ≤ x2) (tg := 60) (p2 := 34) (L1 := [some (.ref 130), some (.int x1), some (.int x2), none, none, none]) (st1 := []) (Int32.not_le.mpr hc) rfl ?_
    refine s_Fin.sg 3 (y := (42, [some (.ref 130), some (.int x1), some (.int x2), none, none, none], [.int x2, .ref 131], s_hg g)) rfl ?_
    obtain ⟨k5, hk5, hB⟩ := s_bd hB
    refine s_Fin.ix (n := 940) (i := x2) (pc1 := 43) (L1 := [some (.ref 130), some (.int x1), some (.int x2), none, none, none]) (fun j4 => [.int (g.1 131 j4)]) (fun j4 => s_hg g) hk5 rfl rfl ?_
    refine s_Fin.sg 2 (y := (46, [some (.ref 130), some (.int x1), some (.int x2), none, none, none], [.int (30 : Int32), .int (1 : Int32), .int (g.1 131 k5)], s_hg g)) rfl ?_
    obtain ⟨v6, hp, hB⟩ := s_bd hB
    refine s_Fin.cl (d := 1) (q1 := s_m181) (md := 181) (vs := [.int (g.1 131 k5), .int (1 : Int32), .int (30 : Int32)]) (rest := []) (h1 := s_hg g) (u := some (.int v6)) (s_Ev.up (by omega) (fM_isIn_s_s hp)) rfl rfl rfl rfl ?_
    by_cases hc : v6 = 0
    · rw [if_pos hc] at hB
      refine s_Fin.bf (c := ¬ v6 = 0) (tg := 54) (p2 := 49) (L1 := [some (.ref 130), some (.int x1), some (.int x2), none, none, none]) (st1 := []) (fun h => h hc) rfl ?_
      obtain ⟨_, hN, hz⟩ := s_in_of hB
      subst hz
      have hB := hN
      refine s_Fin.sg 1 (y := (53, [some (.ref 130), some (.int x1), some (.int x2), none, none, none], [.int (-1 : Int32)], s_hg g)) rfl ?_
      have hB := Option.some.inj hB
      subst hB
      obtain ⟨rfl, rfl⟩ := hr
      exact s_Fin.rt rfl rfl
    · rw [if_neg hc] at hB
      refine s_Fin.bt (c := ¬ v6 = 0) (tg := 54) (p2 := 49) (L1 := [some (.ref 130), some (.int x1), some (.int x2), none, none, none]) (st1 := []) hc rfl ?_
      refine s_Fin.sg 2 (y := (32, [some (.ref 130), some (.int x1), some (.int (x2 + (3 : Int32))), none, none, none], [], s_hg g)) rfl ?_
      have hB := Option.some.inj hB
      subst hB
      exact s_Fin.more (L := [some (.ref 130), some (.int x1), some (.int (x2 + (3 : Int32))), none, none, none]) ⟨Or.inr rfl, Or.inr rfl, Or.inr rfl, Or.inl rfl, Or.inl rfl, Or.inl rfl, trivial⟩ hr
  · rw [if_neg hc] at hB
    refine s_Fin.bt (c := x1 ≤ x2) (tg := 60) (p2 := 34) (L1 := [some (.ref 130), some (.int x1), some (.int x2), none, none, none]) (st1 := []) (Int32.not_lt.mp hc) rfl ?_
    obtain ⟨_, hN, hz⟩ := s_in_of hB
    subst hz
    have hB := hN
    refine s_Fin.sg 4 (y := (64, [some (.ref 130), some (.int x1), some (.int (0 : Int32)), some (.int (0 : Int32)), none, none], [], s_hg g)) rfl ?_
    exact s_Fin.more (L := [some (.ref 130), some (.int x1), some (.int (0 : Int32)), some (.int (0 : Int32)), none, none]) ⟨Or.inr rfl, Or.inr rfl, Or.inr rfl, Or.inr rfl, Or.inl rfl, Or.inl rfl, trivial⟩ (s_lp_s (P := (fun (x : Int32 × Int32) (v : Option Value) (h' : s_H) => s_Fin 2 s_m241 (64, [some (.ref 130), some (.int x1), some (.int x.1), some (.int x.2), none, none], [], s_hg g) v h')) (Q := (fun (z : Int32 × s_G) (v : Option Value) (h' : s_H) => v = some (.int z.1) ∧ h' = s_hg z.2)) (fun x z hB v h' hr => fM_laws_130_64_s hB hr) hB _ _ hr)
noncomputable def fM_laws_130 (g : s_G) : Option (Int32 × s_G) :=
  s_b2 (fM_take_130 (s_si g 130 0 (0 : Int32))) fun v2 g1 => if (v2 - v2 / (3 : Int32) * (3 : Int32)) = 0 then (s_b1 (fM_isIn_s (v2 / (3 : Int32)) (1 : Int32) (6 : Int32) g1) fun v3 => if v3 = 0 then (some ((-1 : Int32), g1))
  else s_lp (fun x => fM_laws_130_32 v2 x g1) (0 : Int32))
  else some ((-1 : Int32), g1)
theorem fM_laws_130_s {g : s_G} {z : Int32 × s_G} (hB : fM_laws_130 g = some z) : s_Ev 2 s_m241 [.ref 130] (s_hg g) (some (.int z.1)) (s_hg z.2) := by
  unfold fM_laws_130 at hB
  refine s_Ev.fin ((?_ : ∀ (v : Option Value) (h' : s_H), (fun (z : Int32 × s_G) (v : Option Value) (h' : s_H) => v = some (.int z.1) ∧ h' = s_hg z.2) z v h' → s_Fin 2 s_m241 (0, s_ent [.ref 130] (s_m241).2.2.1, [], s_hg g) v h') _ _ ⟨rfl, rfl⟩)
  intro v h' hr
  refine (show s_Fin 2 s_m241 (0, [some (.ref 130), none, none, none, none, none], [], s_hg g) v h' from ?_)
  refine s_Fin.sg 4 (y := (6, [some (.ref 130), none, none, none, none, none], [.ref 130], s_hg (s_si g 130 0 (0 : Int32)))) rfl ?_
  obtain ⟨v2, g1, hp, hB⟩ := s_bd2 hB
  refine s_Fin.cl (d := 1) (q1 := s_m165) (md := 165) (vs := [.ref 130]) (rest := []) (h1 := s_hg g1) (u := some (.int v2)) (s_Ev.up (by omega) (fM_take_130_s hp)) rfl rfl rfl rfl ?_
  refine s_Fin.sg 4 (y := (13, [some (.ref 130), some (.int v2), none, none, none, none], [.int (v2 - v2 / (3 : Int32) * (3 : Int32))], s_hg g1)) rfl ?_
  by_cases hc : (v2 - v2 / (3 : Int32) * (3 : Int32)) = 0
  · rw [if_pos hc] at hB
    refine s_Fin.bf (c := ¬ (v2 - v2 / (3 : Int32) * (3 : Int32)) = 0) (tg := 28) (p2 := 13) (L1 := [some (.ref 130), some (.int v2), none, none, none, none]) (st1 := []) (fun h => h hc) rfl ?_
    refine s_Fin.sg 5 (y := (22, [some (.ref 130), some (.int v2), none, none, none, none], [.int (6 : Int32), .int (1 : Int32), .int (v2 / (3 : Int32))], s_hg g1)) rfl ?_
    obtain ⟨v3, hp, hB⟩ := s_bd hB
    refine s_Fin.cl (d := 1) (q1 := s_m181) (md := 181) (vs := [.int (v2 / (3 : Int32)), .int (1 : Int32), .int (6 : Int32)]) (rest := []) (h1 := s_hg g1) (u := some (.int v3)) (s_Ev.up (by omega) (fM_isIn_s_s hp)) rfl rfl rfl rfl ?_
    by_cases hc : v3 = 0
    · rw [if_pos hc] at hB
      refine s_Fin.bf (c := ¬ v3 = 0) (tg := 30) (p2 := 25) (L1 := [some (.ref 130), some (.int v2), none, none, none, none]) (st1 := []) (fun h => h hc) rfl ?_
      refine s_Fin.sg 1 (y := (29, [some (.ref 130), some (.int v2), none, none, none, none], [.int (-1 : Int32)], s_hg g1)) rfl ?_
      have hB := Option.some.inj hB
      subst hB
      obtain ⟨rfl, rfl⟩ := hr
      exact s_Fin.rt rfl rfl
    · rw [if_neg hc] at hB
      refine s_Fin.bt (c := ¬ v3 = 0) (tg := 30) (p2 := 25) (L1 := [some (.ref 130), some (.int v2), none, none, none, none]) (st1 := []) hc rfl ?_
      refine s_Fin.sg 2 (y := (32, [some (.ref 130), some (.int v2), some (.int (0 : Int32)), none, none, none], [], s_hg g1)) rfl ?_
      exact s_Fin.more (L := [some (.ref 130), some (.int v2), some (.int (0 : Int32)), none, none, none]) ⟨Or.inr rfl, Or.inr rfl, Or.inr rfl, Or.inl rfl, Or.inl rfl, Or.inl rfl, trivial⟩ (s_lp_s (P := (fun (x : Int32) (v : Option Value) (h' : s_H) => s_Fin 2 s_m241 (32, [some (.ref 130), some (.int v2), some (.int x), none, none, none], [], s_hg g1) v h')) (Q := (fun (z : Int32 × s_G) (v : Option Value) (h' : s_H) => v = some (.int z.1) ∧ h' = s_hg z.2)) (fun x z hB v h' hr => fM_laws_130_32_s hB hr) hB _ _ hr)
  · rw [if_neg hc] at hB
    refine s_Fin.bt (c := ¬ (v2 - v2 / (3 : Int32) * (3 : Int32)) = 0) (tg := 28) (p2 := 13) (L1 := [some (.ref 130), some (.int v2), none, none, none, none]) (st1 := []) hc rfl ?_
    refine s_Fin.sg 1 (y := (29, [some (.ref 130), some (.int v2), none, none, none, none], [.int (-1 : Int32)], s_hg g1)) rfl ?_
    have hB := Option.some.inj hB
    subst hB
    obtain ⟨rfl, rfl⟩ := hr
    exact s_Fin.rt rfl rfl
