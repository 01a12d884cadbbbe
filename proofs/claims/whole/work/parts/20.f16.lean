-- CampAshes$Advice.findSpread
noncomputable def fA_findSpread_122_3_17_82 (x3 : Int32) (x5 : Int32) (x6 : Int32) (g : s_G) : Option ((Int32 × Int32 × s_G) ⊕ (Int32 × s_G)) :=
  if x6 < (g.1 3 0) then (s_b1 (fT_isOver_17 x6 g) fun v5 => if v5 = 0 then (s_b1 (s_ix 7 x6) fun k7 => s_b1 (some (x5 - ((s_si g 124 k7 (if ((g.1 5 k7) - (g.1 19 k7)) < x5 then ((g.1 5 k7) - (g.1 19 k7)) else x5)).1 124 k7))) fun v11 => some (.inl (v11, x6 + (1 : Int32), (s_si g 124 k7 (if ((g.1 5 k7) - (g.1 19 k7)) < x5 then ((g.1 5 k7) - (g.1 19 k7)) else x5)))))
  else some (.inl (x5, x6 + (1 : Int32), g)))
  else s_in (some (x3, (s_si g 122 3 (g.1 3 0))))
theorem fA_findSpread_122_3_17_82_s {x3 : Int32} {x5 : Int32} {x6 : Int32} {g : s_G} {z : (Int32 × Int32 × s_G) ⊕ (Int32 × s_G)} (hB : fA_findSpread_122_3_17_82 x3 x5 x6 g = some z) {v : Option Value} {h' : s_H} (hr : (s_sm (fun (x : Int32 × Int32 × s_G) (v : Option Value) (h' : s_H) => s_Fin 1 s_m94 (82, [some (.ref 122), some (.ref 3), some (.ref 17), some (.int x3), none, some (.int x.1), some (.int x.2.1)], [], s_hg x.2.2) v h') (fun (z : Int32 × s_G) (v : Option Value) (h' : s_H) => v = some (.int z.1) ∧ h' = s_hg z.2)) z v h') : s_Fin 1 s_m94 (82, [some (.ref 122), some (.ref 3), some (.ref 17), some (.int x3), none, some (.int x5), some (.int x6)], [], s_hg g) v h' := by
  unfold fA_findSpread_122_3_17_82 at hB
  refine s_Fin.sg 3 (y := (88, [some (.ref 122), some (.ref 3), some (.ref 17), some (.int x3), none, some (.int x5), some (.int x6)], [.int (g.1 3 0), .int x6], s_hg g)) rfl ?_
  by_cases hc : x6 < (g.1 3 0)
  · rw [if_pos hc] at hB
    refine s_Fin.bf (c := (g.1 3 0) ≤ x6) (tg := 145) (p2 := 88) (L1 := [some (.ref 122), some (.ref 3), some (.ref 17), some (.int x3), none, some (.int x5), some (.int x6)]) (st1 := []) (Int32.not_le.mpr hc) rfl ?_
    refine s_Fin.sg 2 (y := (94, [some (.ref 122), some (.ref 3), some (.ref 17), some (.int x3), none, some (.int x5), some (.int x6)], [.int x6, .ref 17], s_hg g)) rfl ?_
    obtain ⟨v5, hp, hB⟩ := s_bd hB
    refine s_Fin.cl (d := 0) (q1 := s_m59) (md := 59) (vs := [.ref 17, .int x6]) (rest := []) (h1 := s_hg g) (u := some (.int v5)) (s_Ev.up (by omega) (fT_isOver_17_s hp)) rfl rfl rfl rfl ?_
    by_cases hc : v5 = 0
    · rw [if_pos hc] at hB
      refine s_Fin.bf (c := ¬ v5 = 0) (tg := 139) (p2 := 97) (L1 := [some (.ref 122), some (.ref 3), some (.ref 17), some (.int x3), none, some (.int x5), some (.int x6)]) (st1 := []) (fun h => h hc) rfl ?_
      refine s_Fin.sg 7 (y := (114, [some (.ref 122), some (.ref 3), some (.ref 17), some (.int x3), none, some (.int x5), some (.int x6)], [.int x6, .ref 5, .int x5, .int x6, .ref 124], s_hg g)) rfl ?_
      obtain ⟨k7, hk7, hB⟩ := s_bd hB
      refine s_Fin.ix (n := 7) (i := x6) (pc1 := 115) (L1 := [some (.ref 122), some (.ref 3), some (.ref 17), some (.int x3), none, some (.int x5), some (.int x6)]) (fun j6 => [.int (g.1 5 j6), .int x5, .int x6, .ref 124]) (fun j6 => s_hg g) hk7 rfl rfl ?_
      refine s_Fin.sg 3 (y := (121, [some (.ref 122), some (.ref 3), some (.ref 17), some (.int x3), none, some (.int x5), some (.int x6)], [.int x6, .ref 19, .int (g.1 5 k7), .int x5, .int x6, .ref 124], s_hg g)) rfl ?_
      refine s_Fin.ix (n := 7) (i := x6) (pc1 := 122) (L1 := [some (.ref 122), some (.ref 3), some (.ref 17), some (.int x3), none, some (.int x5), some (.int x6)]) (fun j8 => [.int (g.1 19 j8), .int (g.1 5 k7), .int x5, .int x6, .ref 124]) (fun j8 => s_hg g) hk7 rfl rfl ?_
      refine s_Fin.sg 2 (y := (126, [some (.ref 122), some (.ref 3), some (.ref 17), some (.int x3), none, some (.int x5), some (.int x6)], [.int (if ((g.1 5 k7) - (g.1 19 k7)) < x5 then ((g.1 5 k7) - (g.1 19 k7)) else x5), .int x6, .ref 124], s_hg g)) rfl ?_
      refine s_Fin.ix (n := 7) (i := x6) (pc1 := 127) (L1 := [some (.ref 122), some (.ref 3), some (.ref 17), some (.int x3), none, some (.int x5), some (.int x6)]) (fun j9 => []) (fun j9 => s_hg (s_si g 124 j9 (if ((g.1 5 k7) - (g.1 19 k7)) < x5 then ((g.1 5 k7) - (g.1 19 k7)) else x5))) hk7 rfl rfl ?_
      refine s_Fin.sg 4 (y := (135, [some (.ref 122), some (.ref 3), some (.ref 17), some (.int x3), none, some (.int x5), some (.int x6)], [.int x6, .ref 124, .int x5], s_hg (s_si g 124 k7 (if ((g.1 5 k7) - (g.1 19 k7)) < x5 then ((g.1 5 k7) - (g.1 19 k7)) else x5)))) rfl ?_
      refine s_Fin.ix (n := 7) (i := x6) (pc1 := 136) (L1 := [some (.ref 122), some (.ref 3), some (.ref 17), some (.int x3), none, some (.int x5), some (.int x6)]) (fun j10 => [.int ((s_si g 124 k7 (if ((g.1 5 k7) - (g.1 19 k7)) < x5 then ((g.1 5 k7) - (g.1 19 k7)) else x5)).1 124 j10), .int x5]) (fun j10 => s_hg (s_si g 124 k7 (if ((g.1 5 k7) - (g.1 19 k7)) < x5 then ((g.1 5 k7) - (g.1 19 k7)) else x5))) hk7 rfl rfl ?_
      refine s_Fin.sg 1 (y := (137, [some (.ref 122), some (.ref 3), some (.ref 17), some (.int x3), none, some (.int x5), some (.int x6)], [.int (x5 - ((s_si g 124 k7 (if ((g.1 5 k7) - (g.1 19 k7)) < x5 then ((g.1 5 k7) - (g.1 19 k7)) else x5)).1 124 k7))], s_hg (s_si g 124 k7 (if ((g.1 5 k7) - (g.1 19 k7)) < x5 then ((g.1 5 k7) - (g.1 19 k7)) else x5)))) rfl ?_
      obtain ⟨v11, hx, hB⟩ := s_bd hB
      have hx := Option.some.inj hx
      rw [hx]
      refine s_Fin.sg 3 (y := (82, [some (.ref 122), some (.ref 3), some (.ref 17), some (.int x3), none, some (.int v11), some (.int (x6 + (1 : Int32)))], [], s_hg (s_si g 124 k7 (if ((g.1 5 k7) - (g.1 19 k7)) < x5 then ((g.1 5 k7) - (g.1 19 k7)) else x5)))) rfl ?_
      have hB := Option.some.inj hB
      subst hB
      exact s_Fin.more (L := [some (.ref 122), some (.ref 3), some (.ref 17), some (.int x3), none, some (.int v11), some (.int (x6 + (1 : Int32)))]) ⟨Or.inr rfl, Or.inr rfl, Or.inr rfl, Or.inr rfl, Or.inl rfl, Or.inr rfl, Or.inr rfl, trivial⟩ hr
    · rw [if_neg hc] at hB
      refine s_Fin.bt (c := ¬ v5 = 0) (tg := 139) (p2 := 97) (L1 := [some (.ref 122), some (.ref 3), some (.ref 17), some (.int x3), none, some (.int x5), some (.int x6)]) (st1 := []) hc rfl ?_
      refine s_Fin.sg 2 (y := (82, [some (.ref 122), some (.ref 3), some (.ref 17), some (.int x3), none, some (.int x5), some (.int (x6 + (1 : Int32)))], [], s_hg g)) rfl ?_
      have hB := Option.some.inj hB
      subst hB
      exact s_Fin.more (L := [some (.ref 122), some (.ref 3), some (.ref 17), some (.int x3), none, some (.int x5), some (.int (x6 + (1 : Int32)))]) ⟨Or.inr rfl, Or.inr rfl, Or.inr rfl, Or.inr rfl, Or.inl rfl, Or.inr rfl, Or.inr rfl, trivial⟩ hr
  · rw [if_neg hc] at hB
    refine s_Fin.bt (c := (g.1 3 0) ≤ x6) (tg := 145) (p2 := 88) (L1 := [some (.ref 122), some (.ref 3), some (.ref 17), some (.int x3), none, some (.int x5), some (.int x6)]) (st1 := []) (Int32.not_lt.mp hc) rfl ?_
    obtain ⟨_, hN, hz⟩ := s_in_of hB
    subst hz
    have hB := hN
    refine s_Fin.sg 5 (y := (154, [some (.ref 122), some (.ref 3), some (.ref 17), some (.int x3), none, some (.int x5), some (.int x6)], [.int x3], s_hg (s_si g 122 3 (g.1 3 0)))) rfl ?_
    have hB := Option.some.inj hB
    subst hB
    obtain ⟨rfl, rfl⟩ := hr
    exact s_Fin.rt rfl rfl
noncomputable def fA_findSpread_122_3_17_8 (x3 : Int32) (x4 : Int32) (x5 : Int32) (g : s_G) : Option ((Int32 × Int32 × Int32) ⊕ (Int32 × s_G)) :=
  if x5 < (g.1 3 0) then (s_b1 (s_ix 7 x5) fun k2 => if ((g.1 5 k2) - (g.1 19 k2)) < 0 then (some (.inl (x3 - ((g.1 5 k2) - (g.1 19 k2)), x4, x5 + (1 : Int32))))
  else some (.inl (x3, x4 + ((g.1 5 k2) - (g.1 19 k2)), x5 + (1 : Int32))))
  else s_in (if x4 < x3 then (some ((-1 : Int32), g))
  else s_b1 (fJ_fill_124 (0 : Int32) g) fun g4 => s_lp (fun x => fA_findSpread_122_3_17_82 x3 x.1 x.2.1 x.2.2) (x3, (0 : Int32), g4))
theorem fA_findSpread_122_3_17_8_s {x3 : Int32} {x4 : Int32} {x5 : Int32} {g : s_G} {z : (Int32 × Int32 × Int32) ⊕ (Int32 × s_G)} (hB : fA_findSpread_122_3_17_8 x3 x4 x5 g = some z) {v : Option Value} {h' : s_H} (hr : (s_sm (fun (x : Int32 × Int32 × Int32) (v : Option Value) (h' : s_H) => s_Fin 1 s_m94 (8, [some (.ref 122), some (.ref 3), some (.ref 17), some (.int x.1), some (.int x.2.1), some (.int x.2.2), none], [], s_hg g) v h') (fun (z : Int32 × s_G) (v : Option Value) (h' : s_H) => v = some (.int z.1) ∧ h' = s_hg z.2)) z v h') : s_Fin 1 s_m94 (8, [some (.ref 122), some (.ref 3), some (.ref 17), some (.int x3), some (.int x4), some (.int x5), none], [], s_hg g) v h' := by
  unfold fA_findSpread_122_3_17_8 at hB
  refine s_Fin.sg 3 (y := (14, [some (.ref 122), some (.ref 3), some (.ref 17), some (.int x3), some (.int x4), some (.int x5), none], [.int (g.1 3 0), .int x5], s_hg g)) rfl ?_
  by_cases hc : x5 < (g.1 3 0)
  · rw [if_pos hc] at hB
    refine s_Fin.bf (c := (g.1 3 0) ≤ x5) (tg := 60) (p2 := 14) (L1 := [some (.ref 122), some (.ref 3), some (.ref 17), some (.int x3), some (.int x4), some (.int x5), none]) (st1 := []) (Int32.not_le.mpr hc) rfl ?_
    refine s_Fin.sg 3 (y := (23, [some (.ref 122), some (.ref 3), some (.ref 17), some (.int x3), some (.int x4), some (.int x5), none], [.int x5, .ref 5], s_hg g)) rfl ?_
    obtain ⟨k2, hk2, hB⟩ := s_bd hB
    refine s_Fin.ix (n := 7) (i := x5) (pc1 := 24) (L1 := [some (.ref 122), some (.ref 3), some (.ref 17), some (.int x3), some (.int x4), some (.int x5), none]) (fun j1 => [.int (g.1 5 j1)]) (fun j1 => s_hg g) hk2 rfl rfl ?_
    refine s_Fin.sg 3 (y := (30, [some (.ref 122), some (.ref 3), some (.ref 17), some (.int x3), some (.int x4), some (.int x5), none], [.int x5, .ref 19, .int (g.1 5 k2)], s_hg g)) rfl ?_
    refine s_Fin.ix (n := 7) (i := x5) (pc1 := 31) (L1 := [some (.ref 122), some (.ref 3), some (.ref 17), some (.int x3), some (.int x4), some (.int x5), none]) (fun j3 => [.int (g.1 19 j3), .int (g.1 5 k2)]) (fun j3 => s_hg g) hk2 rfl rfl ?_
    refine s_Fin.sg 3 (y := (36, [some (.ref 122), some (.ref 3), some (.ref 17), some (.int x3), some (.int x4), some (.int x5), some (.int ((g.1 5 k2) - (g.1 19 k2)))], [.int ((g.1 5 k2) - (g.1 19 k2))], s_hg g)) rfl ?_
    by_cases hc : ((g.1 5 k2) - (g.1 19 k2)) < 0
    · rw [if_pos hc] at hB
      refine s_Fin.bf (c := 0 ≤ ((g.1 5 k2) - (g.1 19 k2))) (tg := 47) (p2 := 36) (L1 := [some (.ref 122), some (.ref 3), some (.ref 17), some (.int x3), some (.int x4), some (.int x5), some (.int ((g.1 5 k2) - (g.1 19 k2)))]) (st1 := []) (Int32.not_le.mpr hc) rfl ?_
      refine s_Fin.sg 7 (y := (8, [some (.ref 122), some (.ref 3), some (.ref 17), some (.int (x3 - ((g.1 5 k2) - (g.1 19 k2)))), some (.int x4), some (.int (x5 + (1 : Int32))), some (.int ((g.1 5 k2) - (g.1 19 k2)))], [], s_hg g)) rfl ?_
      have hB := Option.some.inj hB
      subst hB
      exact s_Fin.more (L := [some (.ref 122), some (.ref 3), some (.ref 17), some (.int (x3 - ((g.1 5 k2) - (g.1 19 k2)))), some (.int x4), some (.int (x5 + (1 : Int32))), none]) ⟨Or.inr rfl, Or.inr rfl, Or.inr rfl, Or.inr rfl, Or.inr rfl, Or.inr rfl, Or.inl rfl, trivial⟩ hr
    · rw [if_neg hc] at hB
      refine s_Fin.bt (c := 0 ≤ ((g.1 5 k2) - (g.1 19 k2))) (tg := 47) (p2 := 36) (L1 := [some (.ref 122), some (.ref 3), some (.ref 17), some (.int x3), some (.int x4), some (.int x5), some (.int ((g.1 5 k2) - (g.1 19 k2)))]) (st1 := []) (Int32.not_lt.mp hc) rfl ?_
      refine s_Fin.sg 6 (y := (8, [some (.ref 122), some (.ref 3), some (.ref 17), some (.int x3), some (.int (x4 + ((g.1 5 k2) - (g.1 19 k2)))), some (.int (x5 + (1 : Int32))), some (.int ((g.1 5 k2) - (g.1 19 k2)))], [], s_hg g)) rfl ?_
      have hB := Option.some.inj hB
      subst hB
      exact s_Fin.more (L := [some (.ref 122), some (.ref 3), some (.ref 17), some (.int x3), some (.int (x4 + ((g.1 5 k2) - (g.1 19 k2)))), some (.int (x5 + (1 : Int32))), none]) ⟨Or.inr rfl, Or.inr rfl, Or.inr rfl, Or.inr rfl, Or.inr rfl, Or.inr rfl, Or.inl rfl, trivial⟩ hr
  · rw [if_neg hc] at hB
    refine s_Fin.bt (c := (g.1 3 0) ≤ x5) (tg := 60) (p2 := 14) (L1 := [some (.ref 122), some (.ref 3), some (.ref 17), some (.int x3), some (.int x4), some (.int x5), none]) (st1 := []) (Int32.not_lt.mp hc) rfl ?_
    obtain ⟨_, hN, hz⟩ := s_in_of hB
    subst hz
    have hB := hN
    refine s_Fin.sg 2 (y := (63, [some (.ref 122), some (.ref 3), some (.ref 17), some (.int x3), some (.int x4), some (.int x5), none], [.int x4, .int x3], s_hg g)) rfl ?_
    by_cases hc : x4 < x3
    · rw [if_pos hc] at hB
      refine s_Fin.bf (c := x3 ≤ x4) (tg := 68) (p2 := 63) (L1 := [some (.ref 122), some (.ref 3), some (.ref 17), some (.int x3), some (.int x4), some (.int x5), none]) (st1 := []) (Int32.not_le.mpr hc) rfl ?_
      refine s_Fin.sg 1 (y := (67, [some (.ref 122), some (.ref 3), some (.ref 17), some (.int x3), some (.int x4), some (.int x5), none], [.int (-1 : Int32)], s_hg g)) rfl ?_
      have hB := Option.some.inj hB
      subst hB
      obtain ⟨rfl, rfl⟩ := hr
      exact s_Fin.rt rfl rfl
    · rw [if_neg hc] at hB
      refine s_Fin.bt (c := x3 ≤ x4) (tg := 68) (p2 := 63) (L1 := [some (.ref 122), some (.ref 3), some (.ref 17), some (.int x3), some (.int x4), some (.int x5), none]) (st1 := []) (Int32.not_lt.mp hc) rfl ?_
      refine s_Fin.sg 3 (y := (73, [some (.ref 122), some (.ref 3), some (.ref 17), some (.int x3), some (.int x4), some (.int x5), none], [.int (0 : Int32), .ref 124], s_hg g)) rfl ?_
      obtain ⟨g4, hp, hB⟩ := s_bd hB
      refine s_Fin.cl (d := 0) (q1 := s_m4) (md := 4) (vs := [.ref 124, .int (0 : Int32)]) (rest := []) (h1 := s_hg g4) (u := none) (s_Ev.up (by omega) (fJ_fill_124_s hp)) rfl rfl rfl rfl ?_
      refine s_Fin.sg 4 (y := (82, [some (.ref 122), some (.ref 3), some (.ref 17), some (.int x3), some (.int x4), some (.int x3), some (.int (0 : Int32))], [], s_hg g4)) rfl ?_
      exact s_Fin.more (L := [some (.ref 122), some (.ref 3), some (.ref 17), some (.int x3), none, some (.int x3), some (.int (0 : Int32))]) ⟨Or.inr rfl, Or.inr rfl, Or.inr rfl, Or.inr rfl, Or.inl rfl, Or.inr rfl, Or.inr rfl, trivial⟩ (s_lp_s (P := (fun (x : Int32 × Int32 × s_G) (v : Option Value) (h' : s_H) => s_Fin 1 s_m94 (82, [some (.ref 122), some (.ref 3), some (.ref 17), some (.int x3), none, some (.int x.1), some (.int x.2.1)], [], s_hg x.2.2) v h')) (Q := (fun (z : Int32 × s_G) (v : Option Value) (h' : s_H) => v = some (.int z.1) ∧ h' = s_hg z.2)) (fun x z hB v h' hr => fA_findSpread_122_3_17_82_s hB hr) hB _ _ hr)
noncomputable def fA_findSpread_122_3_17 (g : s_G) : Option (Int32 × s_G) :=
  s_lp (fun x => fA_findSpread_122_3_17_8 x.1 x.2.1 x.2.2 g) ((0 : Int32), (0 : Int32), (0 : Int32))
theorem fA_findSpread_122_3_17_s {g : s_G} {z : Int32 × s_G} (hB : fA_findSpread_122_3_17 g = some z) : s_Ev 1 s_m94 [.ref 122, .ref 3, .ref 17] (s_hg g) (some (.int z.1)) (s_hg z.2) := by
  unfold fA_findSpread_122_3_17 at hB
  refine s_Ev.fin ((?_ : ∀ (v : Option Value) (h' : s_H), (fun (z : Int32 × s_G) (v : Option Value) (h' : s_H) => v = some (.int z.1) ∧ h' = s_hg z.2) z v h' → s_Fin 1 s_m94 (0, s_ent [.ref 122, .ref 3, .ref 17] (s_m94).2.2.1, [], s_hg g) v h') _ _ ⟨rfl, rfl⟩)
  intro v h' hr
  refine (show s_Fin 1 s_m94 (0, [some (.ref 122), some (.ref 3), some (.ref 17), none, none, none, none], [], s_hg g) v h' from ?_)
  refine s_Fin.sg 6 (y := (8, [some (.ref 122), some (.ref 3), some (.ref 17), some (.int (0 : Int32)), some (.int (0 : Int32)), some (.int (0 : Int32)), none], [], s_hg g)) rfl ?_
  exact s_Fin.more (L := [some (.ref 122), some (.ref 3), some (.ref 17), some (.int (0 : Int32)), some (.int (0 : Int32)), some (.int (0 : Int32)), none]) ⟨Or.inr rfl, Or.inr rfl, Or.inr rfl, Or.inr rfl, Or.inr rfl, Or.inr rfl, Or.inl rfl, trivial⟩ (s_lp_s (P := (fun (x : Int32 × Int32 × Int32) (v : Option Value) (h' : s_H) => s_Fin 1 s_m94 (8, [some (.ref 122), some (.ref 3), some (.ref 17), some (.int x.1), some (.int x.2.1), some (.int x.2.2), none], [], s_hg g) v h')) (Q := (fun (z : Int32 × s_G) (v : Option Value) (h' : s_H) => v = some (.int z.1) ∧ h' = s_hg z.2)) (fun x z hB v h' hr => fA_findSpread_122_3_17_8_s hB hr) hB _ _ hr)
-- CampAshes.spread
noncomputable def fC_spread_0 (g : s_G) : Option (Int32 × s_G) :=
  s_b2 (fA_findSpread_122_3_17 g) fun v2 g1 => some (v2, g1)
theorem fC_spread_0_s {g : s_G} {z : Int32 × s_G} (hB : fC_spread_0 g = some z) : s_Ev 2 s_m93 [.ref 0] (s_hg g) (some (.int z.1)) (s_hg z.2) := by
  unfold fC_spread_0 at hB
  refine s_Ev.fin ((?_ : ∀ (v : Option Value) (h' : s_H), (fun (z : Int32 × s_G) (v : Option Value) (h' : s_H) => v = some (.int z.1) ∧ h' = s_hg z.2) z v h' → s_Fin 2 s_m93 (0, s_ent [.ref 0] (s_m93).2.2.1, [], s_hg g) v h') _ _ ⟨rfl, rfl⟩)
  intro v h' hr
  refine (show s_Fin 2 s_m93 (0, [some (.ref 0)], [], s_hg g) v h' from ?_)
  refine s_Fin.sg 6 (y := (12, [some (.ref 0)], [.ref 17, .ref 3, .ref 122], s_hg g)) rfl ?_
  obtain ⟨v2, g1, hp, hB⟩ := s_bd2 hB
  refine s_Fin.cl (d := 1) (q1 := s_m94) (md := 94) (vs := [.ref 122, .ref 3, .ref 17]) (rest := []) (h1 := s_hg g1) (u := some (.int v2)) (s_Ev.up (by omega) (fA_findSpread_122_3_17_s hp)) rfl rfl rfl rfl ?_
  have hB := Option.some.inj hB
  subst hB
  obtain ⟨rfl, rfl⟩ := hr
  exact s_Fin.rt rfl rfl
-- CampAshesModel.spreadOf
noncomputable def fM_spreadOf_130 (x1 : Int32) (g : s_G) : Option (Int32 × s_G) :=
  if (g.1 130 31) = 0 then (some ((-1 : Int32), (s_si g 130 0 (0 : Int32))))
  else s_b1 (fM_isIn_s x1 (0 : Int32) ((g.1 130 30) - (1 : Int32)) (s_si g 130 0 (0 : Int32))) fun v1 => if v1 = 0 then (some ((-1 : Int32), (s_si g 130 0 (0 : Int32))))
  else s_b1 (s_ix 7 x1) fun k3 => some (g.1 145 k3, (s_si g 130 0 (0 : Int32)))
theorem fM_spreadOf_130_s {x1 : Int32} {g : s_G} {z : Int32 × s_G} (hB : fM_spreadOf_130 x1 g = some z) : s_Ev 1 s_m236 [.ref 130, .int x1] (s_hg g) (some (.int z.1)) (s_hg z.2) := by
  unfold fM_spreadOf_130 at hB
  refine s_Ev.fin ((?_ : ∀ (v : Option Value) (h' : s_H), (fun (z : Int32 × s_G) (v : Option Value) (h' : s_H) => v = some (.int z.1) ∧ h' = s_hg z.2) z v h' → s_Fin 1 s_m236 (0, s_ent [.ref 130, .int x1] (s_m236).2.2.1, [], s_hg g) v h') _ _ ⟨rfl, rfl⟩)
  intro v h' hr
  refine (show s_Fin 1 s_m236 (0, [some (.ref 130), some (.int x1)], [], s_hg g) v h' from ?_)
  refine s_Fin.sg 5 (y := (9, [some (.ref 130), some (.int x1)], [.int (g.1 130 31)], s_hg (s_si g 130 0 (0 : Int32)))) rfl ?_
  by_cases hc : (g.1 130 31) = 0
  · rw [if_pos hc] at hB
    refine s_Fin.bt (c := (g.1 130 31) = 0) (tg := 35) (p2 := 9) (L1 := [some (.ref 130), some (.int x1)]) (st1 := []) hc rfl ?_
    refine s_Fin.sg 1 (y := (36, [some (.ref 130), some (.int x1)], [.int (-1 : Int32)], s_hg (s_si g 130 0 (0 : Int32)))) rfl ?_
    have hB := Option.some.inj hB
    subst hB
    obtain ⟨rfl, rfl⟩ := hr
    exact s_Fin.rt rfl rfl
  · rw [if_neg hc] at hB
    refine s_Fin.bf (c := (g.1 130 31) = 0) (tg := 35) (p2 := 9) (L1 := [some (.ref 130), some (.int x1)]) (st1 := []) hc rfl ?_
    refine s_Fin.sg 6 (y := (20, [some (.ref 130), some (.int x1)], [.int ((g.1 130 30) - (1 : Int32)), .int (0 : Int32), .int x1], s_hg (s_si g 130 0 (0 : Int32)))) rfl ?_
    obtain ⟨v1, hp, hB⟩ := s_bd hB
    refine s_Fin.cl (d := 0) (q1 := s_m181) (md := 181) (vs := [.int x1, .int (0 : Int32), .int ((g.1 130 30) - (1 : Int32))]) (rest := []) (h1 := s_hg (s_si g 130 0 (0 : Int32))) (u := some (.int v1)) (s_Ev.up (by omega) (fM_isIn_s_s hp)) rfl rfl rfl rfl ?_
    by_cases hc : v1 = 0
    · rw [if_pos hc] at hB
      refine s_Fin.bt (c := v1 = 0) (tg := 35) (p2 := 23) (L1 := [some (.ref 130), some (.int x1)]) (st1 := []) hc rfl ?_
      refine s_Fin.sg 1 (y := (36, [some (.ref 130), some (.int x1)], [.int (-1 : Int32)], s_hg (s_si g 130 0 (0 : Int32)))) rfl ?_
      have hB := Option.some.inj hB
      subst hB
      obtain ⟨rfl, rfl⟩ := hr
      exact s_Fin.rt rfl rfl
    · rw [if_neg hc] at hB
      refine s_Fin.bf (c := v1 = 0) (tg := 35) (p2 := 23) (L1 := [some (.ref 130), some (.int x1)]) (st1 := []) hc rfl ?_
      refine s_Fin.sg 3 (y := (31, [some (.ref 130), some (.int x1)], [.int x1, .ref 145], s_hg (s_si g 130 0 (0 : Int32)))) rfl ?_
      obtain ⟨k3, hk3, hB⟩ := s_bd hB
      refine s_Fin.ix (n := 7) (i := x1) (pc1 := 32) (L1 := [some (.ref 130), some (.int x1)]) (fun j2 => [.int (g.1 145 j2)]) (fun j2 => s_hg (s_si g 130 0 (0 : Int32))) hk3 rfl rfl ?_
      refine s_Fin.sg 1 (y := (36, [some (.ref 130), some (.int x1)], [.int (g.1 145 k3)], s_hg (s_si g 130 0 (0 : Int32)))) rfl ?_
      have hB := Option.some.inj hB
      subst hB
      obtain ⟨rfl, rfl⟩ := hr
      exact s_Fin.rt rfl rfl
-- CampAshes.spreadOf
noncomputable def fC_spreadOf_0 (x1 : Int32) (g : s_G) : Option (Int32) :=
  if x1 < 0 then (some (-1 : Int32))
  else if x1 < (g.1 122 3) then (s_b1 (s_ix 7 x1) fun k2 => some (g.1 124 k2))
  else some (-1 : Int32)
theorem fC_spreadOf_0_s {x1 : Int32} {g : s_G} {z : Int32} (hB : fC_spreadOf_0 x1 g = some z) : s_Ev 0 s_m95 [.ref 0, .int x1] (s_hg g) (some (.int z)) (s_hg g) := by
  unfold fC_spreadOf_0 at hB
  refine s_Ev.fin ((?_ : ∀ (v : Option Value) (h' : s_H), (fun (z : Int32) (v : Option Value) (h' : s_H) => v = some (.int z) ∧ h' = s_hg g) z v h' → s_Fin 0 s_m95 (0, s_ent [.ref 0, .int x1] (s_m95).2.2.1, [], s_hg g) v h') _ _ ⟨rfl, rfl⟩)
  intro v h' hr
  refine (show s_Fin 0 s_m95 (0, [some (.ref 0), some (.int x1)], [], s_hg g) v h' from ?_)
  refine s_Fin.sg 1 (y := (1, [some (.ref 0), some (.int x1)], [.int x1], s_hg g)) rfl ?_
  by_cases hc : x1 < 0
  · rw [if_pos hc] at hB
    refine s_Fin.bt (c := x1 < 0) (tg := 27) (p2 := 1) (L1 := [some (.ref 0), some (.int x1)]) (st1 := []) hc rfl ?_
    refine s_Fin.sg 1 (y := (28, [some (.ref 0), some (.int x1)], [.int (-1 : Int32)], s_hg g)) rfl ?_
    have hB := Option.some.inj hB
    subst hB
    obtain ⟨rfl, rfl⟩ := hr
    exact s_Fin.rt rfl rfl
  · rw [if_neg hc] at hB
    refine s_Fin.bf (c := x1 < 0) (tg := 27) (p2 := 1) (L1 := [some (.ref 0), some (.int x1)]) (st1 := []) hc rfl ?_
    refine s_Fin.sg 4 (y := (12, [some (.ref 0), some (.int x1)], [.int (g.1 122 3), .int x1], s_hg g)) rfl ?_
    by_cases hc : x1 < (g.1 122 3)
    · rw [if_pos hc] at hB
      refine s_Fin.bf (c := (g.1 122 3) ≤ x1) (tg := 27) (p2 := 12) (L1 := [some (.ref 0), some (.int x1)]) (st1 := []) (Int32.not_le.mpr hc) rfl ?_
      refine s_Fin.sg 4 (y := (23, [some (.ref 0), some (.int x1)], [.int x1, .ref 124], s_hg g)) rfl ?_
      obtain ⟨k2, hk2, hB⟩ := s_bd hB
      refine s_Fin.ix (n := 7) (i := x1) (pc1 := 24) (L1 := [some (.ref 0), some (.int x1)]) (fun j1 => [.int (g.1 124 j1)]) (fun j1 => s_hg g) hk2 rfl rfl ?_
      refine s_Fin.sg 1 (y := (28, [some (.ref 0), some (.int x1)], [.int (g.1 124 k2)], s_hg g)) rfl ?_
      have hB := Option.some.inj hB
      subst hB
      obtain ⟨rfl, rfl⟩ := hr
      exact s_Fin.rt rfl rfl
    · rw [if_neg hc] at hB
      refine s_Fin.bt (c := (g.1 122 3) ≤ x1) (tg := 27) (p2 := 12) (L1 := [some (.ref 0), some (.int x1)]) (st1 := []) (Int32.not_lt.mp hc) rfl ?_
      refine s_Fin.sg 1 (y := (28, [some (.ref 0), some (.int x1)], [.int (-1 : Int32)], s_hg g)) rfl ?_
      have hB := Option.some.inj hB
      subst hB
      obtain ⟨rfl, rfl⟩ := hr
      exact s_Fin.rt rfl rfl
-- CampAshesModel.says
noncomputable def fM_says_130_54 (x1 : Int32) (x2 : Int32) (x3 : Int32) (x4 : Int32) (x5 : Int32) (x6 : Int32) (x7 : Int32) (g : s_G) : Option ((Int32 × Int32 × Int32) ⊕ ((Int32 × Int32) ⊕ (Int32 × s_G))) :=
  if x7 < (10 : Int32) then (s_b1 (fM_has_s x4 x7 g) fun v4 => if v4 = 0 then (some (.inl (x5, x6, x7 + (1 : Int32))))
  else s_b1 (fM_onOf_130 x1 x7 g) fun v5 => if x6 = 0 then (some (.inl (x5 + v5, (0 : Int32), x7 + (1 : Int32))))
  else s_b1 (fM_onOf_130 x1 x7 g) fun v6 => if 0 < v6 then (some (.inl (x5 + v5, (1 : Int32), x7 + (1 : Int32))))
  else some (.inl (x5 + v5, (0 : Int32), x7 + (1 : Int32))))
  else s_in (if x6 = 0 then (some (.inl (x3, x4 + (-1 : Int32))))
  else if x5 = x2 then (if x3 = (-1 : Int32) then (some (.inl (x4, x4 + (-1 : Int32))))
  else s_b1 (fM_bits_s x4 g) fun v7 => s_b1 (fM_bits_s x3 g) fun v8 => if v8 < v7 then (some (.inl (x3, x4 + (-1 : Int32))))
  else some (.inl (x4, x4 + (-1 : Int32))))
  else some (.inl (x3, x4 + (-1 : Int32))))
theorem fM_says_130_54_s {x1 : Int32} {x2 : Int32} {x3 : Int32} {x4 : Int32} {x5 : Int32} {x6 : Int32} {x7 : Int32} {g : s_G} {z : (Int32 × Int32 × Int32) ⊕ ((Int32 × Int32) ⊕ (Int32 × s_G))} (hB : fM_says_130_54 x1 x2 x3 x4 x5 x6 x7 g = some z) {v : Option Value} {h' : s_H} (hr : (s_sm (fun (x : Int32 × Int32 × Int32) (v : Option Value) (h' : s_H) => s_Fin 2 s_m237 (54, [some (.ref 130), some (.int x1), some (.int x2), some (.int x3), some (.int x4), some (.int x.1), some (.int x.2.1), some (.int x.2.2)], [], s_hg g) v h') (s_sm (fun (x : Int32 × Int32) (v : Option Value) (h' : s_H) => s_Fin 2 s_m237 (40, [some (.ref 130), some (.int x1), some (.int x2), some (.int x.1), some (.int x.2), none, none, none], [], s_hg g) v h') (fun (z : Int32 × s_G) (v : Option Value) (h' : s_H) => v = some (.int z.1) ∧ h' = s_hg z.2))) z v h') : s_Fin 2 s_m237 (54, [some (.ref 130), some (.int x1), some (.int x2), some (.int x3), some (.int x4), some (.int x5), some (.int x6), some (.int x7)], [], s_hg g) v h' := by
  unfold fM_says_130_54 at hB
  refine s_Fin.sg 2 (y := (58, [some (.ref 130), some (.int x1), some (.int x2), some (.int x3), some (.int x4), some (.int x5), some (.int x6), some (.int x7)], [.int (10 : Int32), .int x7], s_hg g)) rfl ?_
  by_cases hc : x7 < (10 : Int32)
  · rw [if_pos hc] at hB
    refine s_Fin.bf (c := (10 : Int32) ≤ x7) (tg := 114) (p2 := 58) (L1 := [some (.ref 130), some (.int x1), some (.int x2), some (.int x3), some (.int x4), some (.int x5), some (.int x6), some (.int x7)]) (st1 := []) (Int32.not_le.mpr hc) rfl ?_
    refine s_Fin.sg 2 (y := (65, [some (.ref 130), some (.int x1), some (.int x2), some (.int x3), some (.int x4), some (.int x5), some (.int x6), some (.int x7)], [.int x7, .int x4], s_hg g)) rfl ?_
    obtain ⟨v4, hp, hB⟩ := s_bd hB
    refine s_Fin.cl (d := 1) (q1 := s_m198) (md := 198) (vs := [.int x4, .int x7]) (rest := []) (h1 := s_hg g) (u := some (.int v4)) (s_Ev.up (by omega) (fM_has_s_s hp)) rfl rfl rfl rfl ?_
    by_cases hc : v4 = 0
    · rw [if_pos hc] at hB
      refine s_Fin.bf (c := ¬ v4 = 0) (tg := 74) (p2 := 68) (L1 := [some (.ref 130), some (.int x1), some (.int x2), some (.int x3), some (.int x4), some (.int x5), some (.int x6), some (.int x7)]) (st1 := []) (fun h => h hc) rfl ?_
      refine s_Fin.sg 3 (y := (54, [some (.ref 130), some (.int x1), some (.int x2), some (.int x3), some (.int x4), some (.int x5), some (.int x6), some (.int (x7 + (1 : Int32)))], [], s_hg g)) rfl ?_
      have hB := Option.some.inj hB
      subst hB
      exact s_Fin.more (L := [some (.ref 130), some (.int x1), some (.int x2), some (.int x3), some (.int x4), some (.int x5), some (.int x6), some (.int (x7 + (1 : Int32)))]) ⟨Or.inr rfl, Or.inr rfl, Or.inr rfl, Or.inr rfl, Or.inr rfl, Or.inr rfl, Or.inr rfl, Or.inr rfl, trivial⟩ hr
    · rw [if_neg hc] at hB
      refine s_Fin.bt (c := ¬ v4 = 0) (tg := 74) (p2 := 68) (L1 := [some (.ref 130), some (.int x1), some (.int x2), some (.int x3), some (.int x4), some (.int x5), some (.int x6), some (.int x7)]) (st1 := []) hc rfl ?_
      refine s_Fin.sg 4 (y := (80, [some (.ref 130), some (.int x1), some (.int x2), some (.int x3), some (.int x4), some (.int x5), some (.int x6), some (.int x7)], [.int x7, .int x1, .ref 130, .int x5], s_hg g)) rfl ?_
      obtain ⟨v5, hp, hB⟩ := s_bd hB
      refine s_Fin.cl (d := 1) (q1 := s_m199) (md := 199) (vs := [.ref 130, .int x1, .int x7]) (rest := [.int x5]) (h1 := s_hg g) (u := some (.int v5)) (s_Ev.up (by omega) (fM_onOf_130_s hp)) rfl rfl rfl rfl ?_
      refine s_Fin.sg 3 (y := (88, [some (.ref 130), some (.int x1), some (.int x2), some (.int x3), some (.int x4), some (.int (x5 + v5)), some (.int x6), some (.int x7)], [.int x6], s_hg g)) rfl ?_
      by_cases hc : x6 = 0
      · rw [if_pos hc] at hB
        refine s_Fin.bt (c := x6 = 0) (tg := 105) (p2 := 88) (L1 := [some (.ref 130), some (.int x1), some (.int x2), some (.int x3), some (.int x4), some (.int (x5 + v5)), some (.int x6), some (.int x7)]) (st1 := []) hc rfl ?_
        refine s_Fin.sg 4 (y := (54, [some (.ref 130), some (.int x1), some (.int x2), some (.int x3), some (.int x4), some (.int (x5 + v5)), some (.int (0 : Int32)), some (.int (x7 + (1 : Int32)))], [], s_hg g)) rfl ?_
        have hB := Option.some.inj hB
        subst hB
        exact s_Fin.more (L := [some (.ref 130), some (.int x1), some (.int x2), some (.int x3), some (.int x4), some (.int (x5 + v5)), some (.int (0 : Int32)), some (.int (x7 + (1 : Int32)))]) ⟨Or.inr rfl, Or.inr rfl, Or.inr rfl, Or.inr rfl, Or.inr rfl, Or.inr rfl, Or.inr rfl, Or.inr rfl, trivial⟩ hr
      · rw [if_neg hc] at hB
        refine s_Fin.bf (c := x6 = 0) (tg := 105) (p2 := 88) (L1 := [some (.ref 130), some (.int x1), some (.int x2), some (.int x3), some (.int x4), some (.int (x5 + v5)), some (.int x6), some (.int x7)]) (st1 := []) hc rfl ?_
        refine s_Fin.sg 3 (y := (95, [some (.ref 130), some (.int x1), some (.int x2), some (.int x3), some (.int x4), some (.int (x5 + v5)), some (.int x6), some (.int x7)], [.int x7, .int x1, .ref 130], s_hg g)) rfl ?_
        obtain ⟨v6, hp, hB⟩ := s_bd hB
        refine s_Fin.cl (d := 1) (q1 := s_m199) (md := 199) (vs := [.ref 130, .int x1, .int x7]) (rest := []) (h1 := s_hg g) (u := some (.int v6)) (s_Ev.up (by omega) (fM_onOf_130_s hp)) rfl rfl rfl rfl ?_
        by_cases hc : 0 < v6
        · rw [if_pos hc] at hB
          refine s_Fin.bf (c := v6 ≤ 0) (tg := 105) (p2 := 98) (L1 := [some (.ref 130), some (.int x1), some (.int x2), some (.int x3), some (.int x4), some (.int (x5 + v5)), some (.int x6), some (.int x7)]) (st1 := []) (Int32.not_le.mpr hc) rfl ?_
          refine s_Fin.sg 5 (y := (54, [some (.ref 130), some (.int x1), some (.int x2), some (.int x3), some (.int x4), some (.int (x5 + v5)), some (.int (1 : Int32)), some (.int (x7 + (1 : Int32)))], [], s_hg g)) rfl ?_
          have hB := Option.some.inj hB
          subst hB
          exact s_Fin.more (L := [some (.ref 130), some (.int x1), some (.int x2), some (.int x3), some (.int x4), some (.int (x5 + v5)), some (.int (1 : Int32)), some (.int (x7 + (1 : Int32)))]) ⟨Or.inr rfl, Or.inr rfl, Or.inr rfl, Or.inr rfl, Or.inr rfl, Or.inr rfl, Or.inr rfl, Or.inr rfl, trivial⟩ hr
        · rw [if_neg hc] at hB
          refine s_Fin.bt (c := v6 ≤ 0) (tg := 105) (p2 := 98) (L1 := [some (.ref 130), some (.int x1), some (.int x2), some (.int x3), some (.int x4), some (.int (x5 + v5)), some (.int x6), some (.int x7)]) (st1 := []) (Int32.not_lt.mp hc) rfl ?_
          refine s_Fin.sg 4 (y := (54, [some (.ref 130), some (.int x1), some (.int x2), some (.int x3), some (.int x4), some (.int (x5 + v5)), some (.int (0 : Int32)), some (.int (x7 + (1 : Int32)))], [], s_hg g)) rfl ?_
          have hB := Option.some.inj hB
          subst hB
          exact s_Fin.more (L := [some (.ref 130), some (.int x1), some (.int x2), some (.int x3), some (.int x4), some (.int (x5 + v5)), some (.int (0 : Int32)), some (.int (x7 + (1 : Int32)))]) ⟨Or.inr rfl, Or.inr rfl, Or.inr rfl, Or.inr rfl, Or.inr rfl, Or.inr rfl, Or.inr rfl, Or.inr rfl, trivial⟩ hr
  · rw [if_neg hc] at hB
    refine s_Fin.bt (c := (10 : Int32) ≤ x7) (tg := 114) (p2 := 58) (L1 := [some (.ref 130), some (.int x1), some (.int x2), some (.int x3), some (.int x4), some (.int x5), some (.int x6), some (.int x7)]) (st1 := []) (Int32.not_lt.mp hc) rfl ?_
    obtain ⟨_, hN, hz⟩ := s_in_of hB
    subst hz
    have hB := hN
    refine s_Fin.sg 1 (y := (116, [some (.ref 130), some (.int x1), some (.int x2), some (.int x3), some (.int x4), some (.int x5), some (.int x6), some (.int x7)], [.int x6], s_hg g)) rfl ?_
    by_cases hc : x6 = 0
    · rw [if_pos hc] at hB
      refine s_Fin.bt (c := x6 = 0) (tg := 145) (p2 := 116) (L1 := [some (.ref 130), some (.int x1), some (.int x2), some (.int x3), some (.int x4), some (.int x5), some (.int x6), some (.int x7)]) (st1 := []) hc rfl ?_
      refine s_Fin.sg 2 (y := (40, [some (.ref 130), some (.int x1), some (.int x2), some (.int x3), some (.int (x4 + (-1 : Int32))), some (.int x5), some (.int x6), some (.int x7)], [], s_hg g)) rfl ?_
      have hB := Option.some.inj hB
      subst hB
      exact s_Fin.more (L := [some (.ref 130), some (.int x1), some (.int x2), some (.int x3), some (.int (x4 + (-1 : Int32))), none, none, none]) ⟨Or.inr rfl, Or.inr rfl, Or.inr rfl, Or.inr rfl, Or.inr rfl, Or.inl rfl, Or.inl rfl, Or.inl rfl, trivial⟩ hr
    · rw [if_neg hc] at hB
      refine s_Fin.bf (c := x6 = 0) (tg := 145) (p2 := 116) (L1 := [some (.ref 130), some (.int x1), some (.int x2), some (.int x3), some (.int x4), some (.int x5), some (.int x6), some (.int x7)]) (st1 := []) hc rfl ?_
      refine s_Fin.sg 2 (y := (122, [some (.ref 130), some (.int x1), some (.int x2), some (.int x3), some (.int x4), some (.int x5), some (.int x6), some (.int x7)], [.int x2, .int x5], s_hg g)) rfl ?_
      by_cases hc : x5 = x2
      · rw [if_pos hc] at hB
        refine s_Fin.bf (c := ¬ x5 = x2) (tg := 145) (p2 := 122) (L1 := [some (.ref 130), some (.int x1), some (.int x2), some (.int x3), some (.int x4), some (.int x5), some (.int x6), some (.int x7)]) (st1 := []) (fun h => h hc) rfl ?_
        refine s_Fin.sg 2 (y := (127, [some (.ref 130), some (.int x1), some (.int x2), some (.int x3), some (.int x4), some (.int x5), some (.int x6), some (.int x7)], [.int (-1 : Int32), .int x3], s_hg g)) rfl ?_
        by_cases hc : x3 = (-1 : Int32)
        · rw [if_pos hc] at hB
          refine s_Fin.bt (c := x3 = (-1 : Int32)) (tg := 142) (p2 := 127) (L1 := [some (.ref 130), some (.int x1), some (.int x2), some (.int x3), some (.int x4), some (.int x5), some (.int x6), some (.int x7)]) (st1 := []) hc rfl ?_
          refine s_Fin.sg 4 (y := (40, [some (.ref 130), some (.int x1), some (.int x2), some (.int x4), some (.int (x4 + (-1 : Int32))), some (.int x5), some (.int x6), some (.int x7)], [], s_hg g)) rfl ?_
          have hB := Option.some.inj hB
          subst hB
          exact s_Fin.more (L := [some (.ref 130), some (.int x1), some (.int x2), some (.int x4), some (.int (x4 + (-1 : Int32))), none, none, none]) ⟨Or.inr rfl, Or.inr rfl, Or.inr rfl, Or.inr rfl, Or.inr rfl, Or.inl rfl, Or.inl rfl, Or.inl rfl, trivial⟩ hr
        · rw [if_neg hc] at hB
          refine s_Fin.bf (c := x3 = (-1 : Int32)) (tg := 142) (p2 := 127) (L1 := [some (.ref 130), some (.int x1), some (.int x2), some (.int x3), some (.int x4), some (.int x5), some (.int x6), some (.int x7)]) (st1 := []) hc rfl ?_
          refine s_Fin.sg 1 (y := (132, [some (.ref 130), some (.int x1), some (.int x2), some (.int x3), some (.int x4), some (.int x5), some (.int x6), some (.int x7)], [.int x4], s_hg g)) rfl ?_
          obtain ⟨v7, hp, hB⟩ := s_bd hB
          refine s_Fin.cl (d := 1) (q1 := s_m233) (md := 233) (vs := [.int x4]) (rest := []) (h1 := s_hg g) (u := some (.int v7)) (s_Ev.up (by omega) (fM_bits_s_s hp)) rfl rfl rfl rfl ?_
          refine s_Fin.sg 1 (y := (136, [some (.ref 130), some (.int x1), some (.int x2), some (.int x3), some (.int x4), some (.int x5), some (.int x6), some (.int x7)], [.int x3, .int v7], s_hg g)) rfl ?_
          obtain ⟨v8, hp, hB⟩ := s_bd hB
          refine s_Fin.cl (d := 1) (q1 := s_m233) (md := 233) (vs := [.int x3]) (rest := [.int v7]) (h1 := s_hg g) (u := some (.int v8)) (s_Ev.up (by omega) (fM_bits_s_s hp)) rfl rfl rfl rfl ?_
          by_cases hc : v8 < v7
          · rw [if_pos hc] at hB
            refine s_Fin.bt (c := v8 < v7) (tg := 145) (p2 := 139) (L1 := [some (.ref 130), some (.int x1), some (.int x2), some (.int x3), some (.int x4), some (.int x5), some (.int x6), some (.int x7)]) (st1 := []) hc rfl ?_
            refine s_Fin.sg 2 (y := (40, [some (.ref 130), some (.int x1), some (.int x2), some (.int x3), some (.int (x4 + (-1 : Int32))), some (.int x5), some (.int x6), some (.int x7)], [], s_hg g)) rfl ?_
            have hB := Option.some.inj hB
            subst hB
            exact s_Fin.more (L := [some (.ref 130), some (.int x1), some (.int x2), some (.int x3), some (.int (x4 + (-1 : Int32))), none, none, none]) ⟨Or.inr rfl, Or.inr rfl, Or.inr rfl, Or.inr rfl, Or.inr rfl, Or.inl rfl, Or.inl rfl, Or.inl rfl, trivial⟩ hr
          · rw [if_neg hc] at hB
            refine s_Fin.bf (c := v8 < v7) (tg := 145) (p2 := 139) (L1 := [some (.ref 130), some (.int x1), some (.int x2), some (.int x3), some (.int x4), some (.int x5), some (.int x6), some (.int x7)]) (st1 := []) hc rfl ?_
            refine s_Fin.sg 4 (y := (40, [some (.ref 130), some (.int x1), some (.int x2), some (.int x4), some (.int (x4 + (-1 : Int32))), some (.int x5), some (.int x6), some (.int x7)], [], s_hg g)) rfl ?_
            have hB := Option.some.inj hB
            subst hB
            exact s_Fin.more (L := [some (.ref 130), some (.int x1), some (.int x2), some (.int x4), some (.int (x4 + (-1 : Int32))), none, none, none]) ⟨Or.inr rfl, Or.inr rfl, Or.inr rfl, Or.inr rfl, Or.inr rfl, Or.inl rfl, Or.inl rfl, Or.inl rfl, trivial⟩ hr
      · rw [if_neg hc] at hB
        refine s_Fin.bt (c := ¬ x5 = x2) (tg := 145) (p2 := 122) (L1 := [some (.ref 130), some (.int x1), some (.int x2), some (.int x3), some (.int x4), some (.int x5), some (.int x6), some (.int x7)]) (st1 := []) hc rfl ?_
        refine s_Fin.sg 2 (y := (40, [some (.ref 130), some (.int x1), some (.int x2), some (.int x3), some (.int (x4 + (-1 : Int32))), some (.int x5), some (.int x6), some (.int x7)], [], s_hg g)) rfl ?_
        have hB := Option.some.inj hB
        subst hB
        exact s_Fin.more (L := [some (.ref 130), some (.int x1), some (.int x2), some (.int x3), some (.int (x4 + (-1 : Int32))), none, none, none]) ⟨Or.inr rfl, Or.inr rfl, Or.inr rfl, Or.inr rfl, Or.inr rfl, Or.inl rfl, Or.inl rfl, Or.inl rfl, trivial⟩ hr
noncomputable def fM_says_130_40 (x1 : Int32) (x2 : Int32) (x3 : Int32) (x4 : Int32) (g : s_G) : Option ((Int32 × Int32) ⊕ (Int32 × s_G)) :=
  if 0 < x4 then (s_lp (fun x => fM_says_130_54 x1 x2 x3 x4 x.1 x.2.1 x.2.2 g) ((0 : Int32), (1 : Int32), (0 : Int32)))
  else s_in (if x3 = (-1 : Int32) then (some ((-1 : Int32), g))
  else s_b1 (fM_bits_s x3 (s_si g 130 32 x3)) fun v9 => some (v9, (s_si g 130 32 x3)))
theorem fM_says_130_40_s {x1 : Int32} {x2 : Int32} {x3 : Int32} {x4 : Int32} {g : s_G} {z : (Int32 × Int32) ⊕ (Int32 × s_G)} (hB : fM_says_130_40 x1 x2 x3 x4 g = some z) {v : Option Value} {h' : s_H} (hr : (s_sm (fun (x : Int32 × Int32) (v : Option Value) (h' : s_H) => s_Fin 2 s_m237 (40, [some (.ref 130), some (.int x1), some (.int x2), some (.int x.1), some (.int x.2), none, none, none], [], s_hg g) v h') (fun (z : Int32 × s_G) (v : Option Value) (h' : s_H) => v = some (.int z.1) ∧ h' = s_hg z.2)) z v h') : s_Fin 2 s_m237 (40, [some (.ref 130), some (.int x1), some (.int x2), some (.int x3), some (.int x4), none, none, none], [], s_hg g) v h' := by
  unfold fM_says_130_40 at hB
  refine s_Fin.sg 1 (y := (42, [some (.ref 130), some (.int x1), some (.int x2), some (.int x3), some (.int x4), none, none, none], [.int x4], s_hg g)) rfl ?_
  by_cases hc : 0 < x4
  · rw [if_pos hc] at hB
    refine s_Fin.bf (c := x4 ≤ 0) (tg := 151) (p2 := 42) (L1 := [some (.ref 130), some (.int x1), some (.int x2), some (.int x3), some (.int x4), none, none, none]) (st1 := []) (Int32.not_le.mpr hc) rfl ?_
    refine s_Fin.sg 6 (y := (54, [some (.ref 130), some (.int x1), some (.int x2), some (.int x3), some (.int x4), some (.int (0 : Int32)), some (.int (1 : Int32)), some (.int (0 : Int32))], [], s_hg g)) rfl ?_
    exact s_Fin.more (L := [some (.ref 130), some (.int x1), some (.int x2), some (.int x3), some (.int x4), some (.int (0 : Int32)), some (.int (1 : Int32)), some (.int (0 : Int32))]) ⟨Or.inr rfl, Or.inr rfl, Or.inr rfl, Or.inr rfl, Or.inr rfl, Or.inr rfl, Or.inr rfl, Or.inr rfl, trivial⟩ (s_lp_s (P := (fun (x : Int32 × Int32 × Int32) (v : Option Value) (h' : s_H) => s_Fin 2 s_m237 (54, [some (.ref 130), some (.int x1), some (.int x2), some (.int x3), some (.int x4), some (.int x.1), some (.int x.2.1), some (.int x.2.2)], [], s_hg g) v h')) (Q := (s_sm (fun (x : Int32 × Int32) (v : Option Value) (h' : s_H) => s_Fin 2 s_m237 (40, [some (.ref 130), some (.int x1), some (.int x2), some (.int x.1), some (.int x.2), none, none, none], [], s_hg g) v h') (fun (z : Int32 × s_G) (v : Option Value) (h' : s_H) => v = some (.int z.1) ∧ h' = s_hg z.2))) (fun x z hB v h' hr => fM_says_130_54_s hB hr) hB _ _ hr)
  · rw [if_neg hc] at hB
    refine s_Fin.bt (c := x4 ≤ 0) (tg := 151) (p2 := 42) (L1 := [some (.ref 130), some (.int x1), some (.int x2), some (.int x3), some (.int x4), none, none, none]) (st1 := []) (Int32.not_lt.mp hc) rfl ?_
    obtain ⟨_, hN, hz⟩ := s_in_of hB
    subst hz
    have hB := hN
    refine s_Fin.sg 2 (y := (153, [some (.ref 130), some (.int x1), some (.int x2), some (.int x3), some (.int x4), none, none, none], [.int (-1 : Int32), .int x3], s_hg g)) rfl ?_
    by_cases hc : x3 = (-1 : Int32)
    · rw [if_pos hc] at hB
      refine s_Fin.bf (c := ¬ x3 = (-1 : Int32)) (tg := 158) (p2 := 153) (L1 := [some (.ref 130), some (.int x1), some (.int x2), some (.int x3), some (.int x4), none, none, none]) (st1 := []) (fun h => h hc) rfl ?_
      refine s_Fin.sg 1 (y := (157, [some (.ref 130), some (.int x1), some (.int x2), some (.int x3), some (.int x4), none, none, none], [.int (-1 : Int32)], s_hg g)) rfl ?_
      have hB := Option.some.inj hB
      subst hB
      obtain ⟨rfl, rfl⟩ := hr
      exact s_Fin.rt rfl rfl
    · rw [if_neg hc] at hB
      refine s_Fin.bt (c := ¬ x3 = (-1 : Int32)) (tg := 158) (p2 := 153) (L1 := [some (.ref 130), some (.int x1), some (.int x2), some (.int x3), some (.int x4), none, none, none]) (st1 := []) hc rfl ?_
      refine s_Fin.sg 4 (y := (164, [some (.ref 130), some (.int x1), some (.int x2), some (.int x3), some (.int x4), none, none, none], [.int x3], s_hg (s_si g 130 32 x3))) rfl ?_
      obtain ⟨v9, hp, hB⟩ := s_bd hB
      refine s_Fin.cl (d := 1) (q1 := s_m233) (md := 233) (vs := [.int x3]) (rest := []) (h1 := s_hg (s_si g 130 32 x3)) (u := some (.int v9)) (s_Ev.up (by omega) (fM_bits_s_s hp)) rfl rfl rfl rfl ?_
      have hB := Option.some.inj hB
      subst hB
      obtain ⟨rfl, rfl⟩ := hr
      exact s_Fin.rt rfl rfl
noncomputable def fM_says_130 (x1 : Int32) (x2 : Int32) (g : s_G) : Option (Int32 × s_G) :=
  s_b1 (fM_isBoy_130 x1 (s_si g 130 0 (0 : Int32))) fun v1 => if v1 = 0 then (some ((-1 : Int32), (s_si g 130 0 (0 : Int32))))
  else s_b1 (fM_isIn_s x2 (1 : Int32) (200 : Int32) (s_si g 130 0 (0 : Int32))) fun v2 => if v2 = 0 then (some ((-1 : Int32), (s_si g 130 0 (0 : Int32))))
  else s_b1 (some (((1 : Int32) <<< ((g.1 132 1) &&& 31)) - (1 : Int32))) fun v3 => s_lp (fun x => fM_says_130_40 x1 x2 x.1 x.2 (s_si g 130 0 (0 : Int32))) ((-1 : Int32), v3)
theorem fM_says_130_s {x1 : Int32} {x2 : Int32} {g : s_G} {z : Int32 × s_G} (hB : fM_says_130 x1 x2 g = some z) : s_Ev 2 s_m237 [.ref 130, .int x1, .int x2] (s_hg g) (some (.int z.1)) (s_hg z.2) := by
  unfold fM_says_130 at hB
  refine s_Ev.fin ((?_ : ∀ (v : Option Value) (h' : s_H), (fun (z : Int32 × s_G) (v : Option Value) (h' : s_H) => v = some (.int z.1) ∧ h' = s_hg z.2) z v h' → s_Fin 2 s_m237 (0, s_ent [.ref 130, .int x1, .int x2] (s_m237).2.2.1, [], s_hg g) v h') _ _ ⟨rfl, rfl⟩)
  intro v h' hr
  refine (show s_Fin 2 s_m237 (0, [some (.ref 130), some (.int x1), some (.int x2), none, none, none, none, none], [], s_hg g) v h' from ?_)
  refine s_Fin.sg 5 (y := (7, [some (.ref 130), some (.int x1), some (.int x2), none, none, none, none, none], [.int x1, .ref 130], s_hg (s_si g 130 0 (0 : Int32)))) rfl ?_
  obtain ⟨v1, hp, hB⟩ := s_bd hB
  refine s_Fin.cl (d := 1) (q1 := s_m192) (md := 192) (vs := [.ref 130, .int x1]) (rest := []) (h1 := s_hg (s_si g 130 0 (0 : Int32))) (u := some (.int v1)) (s_Ev.up (by omega) (fM_isBoy_130_s hp)) rfl rfl rfl rfl ?_
  by_cases hc : v1 = 0
  · rw [if_pos hc] at hB
    refine s_Fin.bt (c := v1 = 0) (tg := 24) (p2 := 10) (L1 := [some (.ref 130), some (.int x1), some (.int x2), none, none, none, none, none]) (st1 := []) hc rfl ?_
    refine s_Fin.sg 1 (y := (25, [some (.ref 130), some (.int x1), some (.int x2), none, none, none, none, none], [.int (-1 : Int32)], s_hg (s_si g 130 0 (0 : Int32)))) rfl ?_
    have hB := Option.some.inj hB
    subst hB
    obtain ⟨rfl, rfl⟩ := hr
    exact s_Fin.rt rfl rfl
  · rw [if_neg hc] at hB
    refine s_Fin.bf (c := v1 = 0) (tg := 24) (p2 := 10) (L1 := [some (.ref 130), some (.int x1), some (.int x2), none, none, none, none, none]) (st1 := []) hc rfl ?_
    refine s_Fin.sg 3 (y := (18, [some (.ref 130), some (.int x1), some (.int x2), none, none, none, none, none], [.int (200 : Int32), .int (1 : Int32), .int x2], s_hg (s_si g 130 0 (0 : Int32)))) rfl ?_
    obtain ⟨v2, hp, hB⟩ := s_bd hB
    refine s_Fin.cl (d := 1) (q1 := s_m181) (md := 181) (vs := [.int x2, .int (1 : Int32), .int (200 : Int32)]) (rest := []) (h1 := s_hg (s_si g 130 0 (0 : Int32))) (u := some (.int v2)) (s_Ev.up (by omega) (fM_isIn_s_s hp)) rfl rfl rfl rfl ?_
    by_cases hc : v2 = 0
    · rw [if_pos hc] at hB
      refine s_Fin.bf (c := ¬ v2 = 0) (tg := 26) (p2 := 21) (L1 := [some (.ref 130), some (.int x1), some (.int x2), none, none, none, none, none]) (st1 := []) (fun h => h hc) rfl ?_
      refine s_Fin.sg 1 (y := (25, [some (.ref 130), some (.int x1), some (.int x2), none, none, none, none, none], [.int (-1 : Int32)], s_hg (s_si g 130 0 (0 : Int32)))) rfl ?_
      have hB := Option.some.inj hB
      subst hB
      obtain ⟨rfl, rfl⟩ := hr
      exact s_Fin.rt rfl rfl
    · rw [if_neg hc] at hB
      refine s_Fin.bt (c := ¬ v2 = 0) (tg := 26) (p2 := 21) (L1 := [some (.ref 130), some (.int x1), some (.int x2), none, none, none, none, none]) (st1 := []) hc rfl ?_
      refine s_Fin.sg 10 (y := (38, [some (.ref 130), some (.int x1), some (.int x2), some (.int (-1 : Int32)), none, none, none, none], [.int (((1 : Int32) <<< ((g.1 132 1) &&& 31)) - (1 : Int32))], s_hg (s_si g 130 0 (0 : Int32)))) rfl ?_
      obtain ⟨v3, hx, hB⟩ := s_bd hB
      have hx := Option.some.inj hx
      rw [hx]
      refine s_Fin.sg 1 (y := (40, [some (.ref 130), some (.int x1), some (.int x2), some (.int (-1 : Int32)), some (.int v3), none, none, none], [], s_hg (s_si g 130 0 (0 : Int32)))) rfl ?_
      exact s_Fin.more (L := [some (.ref 130), some (.int x1), some (.int x2), some (.int (-1 : Int32)), some (.int v3), none, none, none]) ⟨Or.inr rfl, Or.inr rfl, Or.inr rfl, Or.inr rfl, Or.inr rfl, Or.inl rfl, Or.inl rfl, Or.inl rfl, trivial⟩ (s_lp_s (P := (fun (x : Int32 × Int32) (v : Option Value) (h' : s_H) => s_Fin 2 s_m237 (40, [some (.ref 130), some (.int x1), some (.int x2), some (.int x.1), some (.int x.2), none, none, none], [], s_hg (s_si g 130 0 (0 : Int32))) v h')) (Q := (fun (z : Int32 × s_G) (v : Option Value) (h' : s_H) => v = some (.int z.1) ∧ h' = s_hg z.2)) (fun x z hB v h' hr => fM_says_130_40_s hB hr) hB _ _ hr)
-- CampAshes$State.eventBits
noncomputable def fT_eventBits_17_4 (x1 : Int32) (x2 : Int32) (x3 : Int32) (g : s_G) : Option ((Int32 × Int32) ⊕ (Int32)) :=
  if x3 < (g.1 3 1) then (s_b1 (fT_onBoy_17 x3 x1 g) fun v1 => if 0 < v1 then (some (.inl (x2 ||| ((1 : Int32) <<< (x3 &&& 31)), x3 + (1 : Int32))))
  else some (.inl (x2, x3 + (1 : Int32))))
  else s_in (some x2)
theorem fT_eventBits_17_4_s {x1 : Int32} {x2 : Int32} {x3 : Int32} {g : s_G} {z : (Int32 × Int32) ⊕ (Int32)} (hB : fT_eventBits_17_4 x1 x2 x3 g = some z) {v : Option Value} {h' : s_H} (hr : (s_sm (fun (x : Int32 × Int32) (v : Option Value) (h' : s_H) => s_Fin 1 s_m98 (4, [some (.ref 17), some (.int x1), some (.int x.1), some (.int x.2)], [], s_hg g) v h') (fun (z : Int32) (v : Option Value) (h' : s_H) => v = some (.int z) ∧ h' = s_hg g)) z v h') : s_Fin 1 s_m98 (4, [some (.ref 17), some (.int x1), some (.int x2), some (.int x3)], [], s_hg g) v h' := by
  unfold fT_eventBits_17_4 at hB
  refine s_Fin.sg 4 (y := (12, [some (.ref 17), some (.int x1), some (.int x2), some (.int x3)], [.int (g.1 3 1), .int x3], s_hg g)) rfl ?_
  by_cases hc : x3 < (g.1 3 1)
  · rw [if_pos hc] at hB
    refine s_Fin.bf (c := (g.1 3 1) ≤ x3) (tg := 36) (p2 := 12) (L1 := [some (.ref 17), some (.int x1), some (.int x2), some (.int x3)]) (st1 := []) (Int32.not_le.mpr hc) rfl ?_
    refine s_Fin.sg 3 (y := (18, [some (.ref 17), some (.int x1), some (.int x2), some (.int x3)], [.int x1, .int x3, .ref 17], s_hg g)) rfl ?_
    obtain ⟨v1, hp, hB⟩ := s_bd hB
    refine s_Fin.cl (d := 0) (q1 := s_m50) (md := 50) (vs := [.ref 17, .int x3, .int x1]) (rest := []) (h1 := s_hg g) (u := some (.int v1)) (s_Ev.up (by omega) (fT_onBoy_17_s hp)) rfl rfl rfl rfl ?_
    by_cases hc : 0 < v1
    · rw [if_pos hc] at hB
      refine s_Fin.bf (c := v1 ≤ 0) (tg := 30) (p2 := 21) (L1 := [some (.ref 17), some (.int x1), some (.int x2), some (.int x3)]) (st1 := []) (Int32.not_le.mpr hc) rfl ?_
      refine s_Fin.sg 8 (y := (4, [some (.ref 17), some (.int x1), some (.int (x2 ||| ((1 : Int32) <<< (x3 &&& 31)))), some (.int (x3 + (1 : Int32)))], [], s_hg g)) rfl ?_
      have hB := Option.some.inj hB
      subst hB
      exact s_Fin.more (L := [some (.ref 17), some (.int x1), some (.int (x2 ||| ((1 : Int32) <<< (x3 &&& 31)))), some (.int (x3 + (1 : Int32)))]) ⟨Or.inr rfl, Or.inr rfl, Or.inr rfl, Or.inr rfl, trivial⟩ hr
    · rw [if_neg hc] at hB
      refine s_Fin.bt (c := v1 ≤ 0) (tg := 30) (p2 := 21) (L1 := [some (.ref 17), some (.int x1), some (.int x2), some (.int x3)]) (st1 := []) (Int32.not_lt.mp hc) rfl ?_
      refine s_Fin.sg 2 (y := (4, [some (.ref 17), some (.int x1), some (.int x2), some (.int (x3 + (1 : Int32)))], [], s_hg g)) rfl ?_
      have hB := Option.some.inj hB
      subst hB
      exact s_Fin.more (L := [some (.ref 17), some (.int x1), some (.int x2), some (.int (x3 + (1 : Int32)))]) ⟨Or.inr rfl, Or.inr rfl, Or.inr rfl, Or.inr rfl, trivial⟩ hr
  · rw [if_neg hc] at hB
    refine s_Fin.bt (c := (g.1 3 1) ≤ x3) (tg := 36) (p2 := 12) (L1 := [some (.ref 17), some (.int x1), some (.int x2), some (.int x3)]) (st1 := []) (Int32.not_lt.mp hc) rfl ?_
    obtain ⟨_, hN, hz⟩ := s_in_of hB
    subst hz
    have hB := hN
    refine s_Fin.sg 1 (y := (37, [some (.ref 17), some (.int x1), some (.int x2), some (.int x3)], [.int x2], s_hg g)) rfl ?_
    have hB := Option.some.inj hB
    subst hB
    obtain ⟨rfl, rfl⟩ := hr
    exact s_Fin.rt rfl rfl
noncomputable def fT_eventBits_17 (x1 : Int32) (g : s_G) : Option (Int32) :=
  s_lp (fun x => fT_eventBits_17_4 x1 x.1 x.2 g) ((0 : Int32), (0 : Int32))
theorem fT_eventBits_17_s {x1 : Int32} {g : s_G} {z : Int32} (hB : fT_eventBits_17 x1 g = some z) : s_Ev 1 s_m98 [.ref 17, .int x1] (s_hg g) (some (.int z)) (s_hg g) := by
  unfold fT_eventBits_17 at hB
  refine s_Ev.fin ((?_ : ∀ (v : Option Value) (h' : s_H), (fun (z : Int32) (v : Option Value) (h' : s_H) => v = some (.int z) ∧ h' = s_hg g) z v h' → s_Fin 1 s_m98 (0, s_ent [.ref 17, .int x1] (s_m98).2.2.1, [], s_hg g) v h') _ _ ⟨rfl, rfl⟩)
  intro v h' hr
  refine (show s_Fin 1 s_m98 (0, [some (.ref 17), some (.int x1), none, none], [], s_hg g) v h' from ?_)
  refine s_Fin.sg 4 (y := (4, [some (.ref 17), some (.int x1), some (.int (0 : Int32)), some (.int (0 : Int32))], [], s_hg g)) rfl ?_
  exact s_Fin.more (L := [some (.ref 17), some (.int x1), some (.int (0 : Int32)), some (.int (0 : Int32))]) ⟨Or.inr rfl, Or.inr rfl, Or.inr rfl, Or.inr rfl, trivial⟩ (s_lp_s (P := (fun (x : Int32 × Int32) (v : Option Value) (h' : s_H) => s_Fin 1 s_m98 (4, [some (.ref 17), some (.int x1), some (.int x.1), some (.int x.2)], [], s_hg g) v h')) (Q := (fun (z : Int32) (v : Option Value) (h' : s_H) => v = some (.int z) ∧ h' = s_hg g)) (fun x z hB v h' hr => fT_eventBits_17_4_s hB hr) hB _ _ hr)
-- CampAshes$Advice.weightOf
noncomputable def fA_weightOf_3_17_6 (x2 : Int32) (x3 : Int32) (x4 : Int32) (x5 : Int32) (g : s_G) : Option ((Int32 × Int32) ⊕ (Int32)) :=
  if x5 < (g.1 3 1) then (if ((x3 >>> (x5 &&& 31)) &&& (1 : Int32)) = (1 : Int32) then (s_b1 (fT_onBoy_17 x5 x2 g) fun v1 => some (.inl (x4 + v1, x5 + (1 : Int32))))
  else some (.inl (x4, x5 + (1 : Int32))))
  else s_in (some x4)
theorem fA_weightOf_3_17_6_s {x2 : Int32} {x3 : Int32} {x4 : Int32} {x5 : Int32} {g : s_G} {z : (Int32 × Int32) ⊕ (Int32)} (hB : fA_weightOf_3_17_6 x2 x3 x4 x5 g = some z) {v : Option Value} {h' : s_H} (hr : (s_sm (fun (x : Int32 × Int32) (v : Option Value) (h' : s_H) => s_Fin 1 s_m99 (6, [some (.ref 3), some (.ref 17), some (.int x2), some (.int x3), some (.int x.1), some (.int x.2)], [], s_hg g) v h') (fun (z : Int32) (v : Option Value) (h' : s_H) => v = some (.int z) ∧ h' = s_hg g)) z v h') : s_Fin 1 s_m99 (6, [some (.ref 3), some (.ref 17), some (.int x2), some (.int x3), some (.int x4), some (.int x5)], [], s_hg g) v h' := by
  unfold fA_weightOf_3_17_6 at hB
  refine s_Fin.sg 3 (y := (12, [some (.ref 3), some (.ref 17), some (.int x2), some (.int x3), some (.int x4), some (.int x5)], [.int (g.1 3 1), .int x5], s_hg g)) rfl ?_
  by_cases hc : x5 < (g.1 3 1)
  · rw [if_pos hc] at hB
    refine s_Fin.bf (c := (g.1 3 1) ≤ x5) (tg := 43) (p2 := 12) (L1 := [some (.ref 3), some (.ref 17), some (.int x2), some (.int x3), some (.int x4), some (.int x5)]) (st1 := []) (Int32.not_le.mpr hc) rfl ?_
    refine s_Fin.sg 6 (y := (22, [some (.ref 3), some (.ref 17), some (.int x2), some (.int x3), some (.int x4), some (.int x5)], [.int (1 : Int32), .int ((x3 >>> (x5 &&& 31)) &&& (1 : Int32))], s_hg g)) rfl ?_
    by_cases hc : ((x3 >>> (x5 &&& 31)) &&& (1 : Int32)) = (1 : Int32)
    · rw [if_pos hc] at hB
      refine s_Fin.bf (c := ¬ ((x3 >>> (x5 &&& 31)) &&& (1 : Int32)) = (1 : Int32)) (tg := 37) (p2 := 22) (L1 := [some (.ref 3), some (.ref 17), some (.int x2), some (.int x3), some (.int x4), some (.int x5)]) (st1 := []) (fun h => h hc) rfl ?_
      refine s_Fin.sg 4 (y := (31, [some (.ref 3), some (.ref 17), some (.int x2), some (.int x3), some (.int x4), some (.int x5)], [.int x2, .int x5, .ref 17, .int x4], s_hg g)) rfl ?_
      obtain ⟨v1, hp, hB⟩ := s_bd hB
      refine s_Fin.cl (d := 0) (q1 := s_m50) (md := 50) (vs := [.ref 17, .int x5, .int x2]) (rest := [.int x4]) (h1 := s_hg g) (u := some (.int v1)) (s_Ev.up (by omega) (fT_onBoy_17_s hp)) rfl rfl rfl rfl ?_
      refine s_Fin.sg 4 (y := (6, [some (.ref 3), some (.ref 17), some (.int x2), some (.int x3), some (.int (x4 + v1)), some (.int (x5 + (1 : Int32)))], [], s_hg g)) rfl ?_
      have hB := Option.some.inj hB
      subst hB
      exact s_Fin.more (L := [some (.ref 3), some (.ref 17), some (.int x2), some (.int x3), some (.int (x4 + v1)), some (.int (x5 + (1 : Int32)))]) ⟨Or.inr rfl, Or.inr rfl, Or.inr rfl, Or.inr rfl, Or.inr rfl, Or.inr rfl, trivial⟩ hr
    · rw [if_neg hc] at hB
      refine s_Fin.bt (c := ¬ ((x3 >>> (x5 &&& 31)) &&& (1 : Int32)) = (1 : Int32)) (tg := 37) (p2 := 22) (L1 := [some (.ref 3), some (.ref 17), some (.int x2), some (.int x3), some (.int x4), some (.int x5)]) (st1 := []) hc rfl ?_
      refine s_Fin.sg 2 (y := (6, [some (.ref 3), some (.ref 17), some (.int x2), some (.int x3), some (.int x4), some (.int (x5 + (1 : Int32)))], [], s_hg g)) rfl ?_
      have hB := Option.some.inj hB
      subst hB
      exact s_Fin.more (L := [some (.ref 3), some (.ref 17), some (.int x2), some (.int x3), some (.int x4), some (.int (x5 + (1 : Int32)))]) ⟨Or.inr rfl, Or.inr rfl, Or.inr rfl, Or.inr rfl, Or.inr rfl, Or.inr rfl, trivial⟩ hr
  · rw [if_neg hc] at hB
    refine s_Fin.bt (c := (g.1 3 1) ≤ x5) (tg := 43) (p2 := 12) (L1 := [some (.ref 3), some (.ref 17), some (.int x2), some (.int x3), some (.int x4), some (.int x5)]) (st1 := []) (Int32.not_lt.mp hc) rfl ?_
    obtain ⟨_, hN, hz⟩ := s_in_of hB
    subst hz
    have hB := hN
    refine s_Fin.sg 1 (y := (45, [some (.ref 3), some (.ref 17), some (.int x2), some (.int x3), some (.int x4), some (.int x5)], [.int x4], s_hg g)) rfl ?_
    have hB := Option.some.inj hB
    subst hB
    obtain ⟨rfl, rfl⟩ := hr
    exact s_Fin.rt rfl rfl
noncomputable def fA_weightOf_3_17 (x2 : Int32) (x3 : Int32) (g : s_G) : Option (Int32) :=
  s_lp (fun x => fA_weightOf_3_17_6 x2 x3 x.1 x.2 g) ((0 : Int32), (0 : Int32))
theorem fA_weightOf_3_17_s {x2 : Int32} {x3 : Int32} {g : s_G} {z : Int32} (hB : fA_weightOf_3_17 x2 x3 g = some z) : s_Ev 1 s_m99 [.ref 3, .ref 17, .int x2, .int x3] (s_hg g) (some (.int z)) (s_hg g) := by
  unfold fA_weightOf_3_17 at hB
  refine s_Ev.fin ((?_ : ∀ (v : Option Value) (h' : s_H), (fun (z : Int32) (v : Option Value) (h' : s_H) => v = some (.int z) ∧ h' = s_hg g) z v h' → s_Fin 1 s_m99 (0, s_ent [.ref 3, .ref 17, .int x2, .int x3] (s_m99).2.2.1, [], s_hg g) v h') _ _ ⟨rfl, rfl⟩)
  intro v h' hr
  refine (show s_Fin 1 s_m99 (0, [some (.ref 3), some (.ref 17), some (.int x2), some (.int x3), none, none], [], s_hg g) v h' from ?_)
  refine s_Fin.sg 4 (y := (6, [some (.ref 3), some (.ref 17), some (.int x2), some (.int x3), some (.int (0 : Int32)), some (.int (0 : Int32))], [], s_hg g)) rfl ?_
  exact s_Fin.more (L := [some (.ref 3), some (.ref 17), some (.int x2), some (.int x3), some (.int (0 : Int32)), some (.int (0 : Int32))]) ⟨Or.inr rfl, Or.inr rfl, Or.inr rfl, Or.inr rfl, Or.inr rfl, Or.inr rfl, trivial⟩ (s_lp_s (P := (fun (x : Int32 × Int32) (v : Option Value) (h' : s_H) => s_Fin 1 s_m99 (6, [some (.ref 3), some (.ref 17), some (.int x2), some (.int x3), some (.int x.1), some (.int x.2)], [], s_hg g) v h')) (Q := (fun (z : Int32) (v : Option Value) (h' : s_H) => v = some (.int z) ∧ h' = s_hg g)) (fun x z hB v h' hr => fA_weightOf_3_17_6_s hB hr) hB _ _ hr)
