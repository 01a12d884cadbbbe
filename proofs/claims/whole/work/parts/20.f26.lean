-- CampAshes$Book.judge
noncomputable def fB_judge_37_22_69 (g : s_G) : Option (Int32 × s_G) :=
  s_b1 (fT_overBits_22 (s_si (s_si g 37 6 (1 : Int32)) 37 9 (g.1 22 8))) fun v5 => if (g.1 37 7) = 0 then (some ((-1 : Int32), (s_si (s_si (s_si g 37 6 (1 : Int32)) 37 9 (g.1 22 8)) 37 10 v5)))
  else some (g.1 37 8, (s_si (s_si (s_si g 37 6 (1 : Int32)) 37 9 (g.1 22 8)) 37 10 v5))
theorem fB_judge_37_22_69_s {g : s_G} {z : Int32 × s_G} (hB : fB_judge_37_22_69 g = some z) {v : Option Value} {h' : s_H} (hr : (fun (z : Int32 × s_G) (v : Option Value) (h' : s_H) => v = some (.int z.1) ∧ h' = s_hg z.2) z v h') : s_Fin 5 s_m131 (69, [some (.ref 37), some (.ref 22), none, none], [], s_hg g) v h' := by
  unfold fB_judge_37_22_69 at hB
  refine s_Fin.sg 9 (y := (84, [some (.ref 37), some (.ref 22), none, none], [.ref 22, .ref 37], s_hg (s_si (s_si g 37 6 (1 : Int32)) 37 9 (g.1 22 8)))) rfl ?_
  obtain ⟨v5, hp, hB⟩ := s_bd hB
  refine s_Fin.cl (d := 4) (q1 := s_m58) (md := 58) (vs := [.ref 22]) (rest := [.ref 37]) (h1 := s_hg (s_si (s_si g 37 6 (1 : Int32)) 37 9 (g.1 22 8))) (u := some (.int v5)) (s_Ev.up (by omega) (fT_overBits_22_s hp)) rfl rfl rfl rfl ?_
  refine s_Fin.sg 3 (y := (94, [some (.ref 37), some (.ref 22), none, none], [.int (g.1 37 7)], s_hg (s_si (s_si (s_si g 37 6 (1 : Int32)) 37 9 (g.1 22 8)) 37 10 v5))) rfl ?_
  by_cases hc : (g.1 37 7) = 0
  · rw [if_pos hc] at hB
    refine s_Fin.bf (c := ¬ (g.1 37 7) = 0) (tg := 101) (p2 := 94) (L1 := [some (.ref 37), some (.ref 22), none, none]) (st1 := []) (fun h => h hc) rfl ?_
    refine s_Fin.sg 2 (y := (105, [some (.ref 37), some (.ref 22), none, none], [.int (-1 : Int32)], s_hg (s_si (s_si (s_si g 37 6 (1 : Int32)) 37 9 (g.1 22 8)) 37 10 v5))) rfl ?_
    have hB := Option.some.inj hB
    subst hB
    obtain ⟨rfl, rfl⟩ := hr
    exact s_Fin.rt rfl rfl
  · rw [if_neg hc] at hB
    refine s_Fin.bt (c := ¬ (g.1 37 7) = 0) (tg := 101) (p2 := 94) (L1 := [some (.ref 37), some (.ref 22), none, none]) (st1 := []) hc rfl ?_
    refine s_Fin.sg 2 (y := (105, [some (.ref 37), some (.ref 22), none, none], [.int (g.1 37 8)], s_hg (s_si (s_si (s_si g 37 6 (1 : Int32)) 37 9 (g.1 22 8)) 37 10 v5))) rfl ?_
    have hB := Option.some.inj hB
    subst hB
    obtain ⟨rfl, rfl⟩ := hr
    exact s_Fin.rt rfl rfl
noncomputable def fB_judge_37_22_12 (x2 : Int32) (g : s_G) : Option ((Int32 × s_G) ⊕ (Int32 × s_G)) :=
  if x2 < (g.1 37 5) then (if (g.1 37 7) = 0 then (s_b2 (fB_liveLine_37_22 x2 g) fun v2 g1 => if v2 = 0 then (some (.inl (x2 + (1 : Int32), (s_si g1 37 8 ((g1.1 37 8) + (1 : Int32))))))
  else s_b1 (s_ix 40 x2) fun k4 => some (.inl (x2 + (1 : Int32), (s_si g1 37 7 ((g1.1 38 k4) + v2)))))
  else s_in (fB_judge_37_22_69 g))
  else s_in (fB_judge_37_22_69 g)
theorem fB_judge_37_22_12_s {x2 : Int32} {g : s_G} {z : (Int32 × s_G) ⊕ (Int32 × s_G)} (hB : fB_judge_37_22_12 x2 g = some z) {v : Option Value} {h' : s_H} (hr : (s_sm (fun (x : Int32 × s_G) (v : Option Value) (h' : s_H) => s_Fin 5 s_m131 (12, [some (.ref 37), some (.ref 22), some (.int x.1), none], [], s_hg x.2) v h') (fun (z : Int32 × s_G) (v : Option Value) (h' : s_H) => v = some (.int z.1) ∧ h' = s_hg z.2)) z v h') : s_Fin 5 s_m131 (12, [some (.ref 37), some (.ref 22), some (.int x2), none], [], s_hg g) v h' := by
  unfold fB_judge_37_22_12 at hB
  refine s_Fin.sg 3 (y := (17, [some (.ref 37), some (.ref 22), some (.int x2), none], [.int (g.1 37 5), .int x2], s_hg g)) rfl ?_
  by_cases hc : x2 < (g.1 37 5)
  · rw [if_pos hc] at hB
    refine s_Fin.bf (c := (g.1 37 5) ≤ x2) (tg := 69) (p2 := 17) (L1 := [some (.ref 37), some (.ref 22), some (.int x2), none]) (st1 := []) (Int32.not_le.mpr hc) rfl ?_
    refine s_Fin.sg 2 (y := (24, [some (.ref 37), some (.ref 22), some (.int x2), none], [.int (g.1 37 7)], s_hg g)) rfl ?_
    by_cases hc : (g.1 37 7) = 0
    · rw [if_pos hc] at hB
      refine s_Fin.bf (c := ¬ (g.1 37 7) = 0) (tg := 69) (p2 := 24) (L1 := [some (.ref 37), some (.ref 22), some (.int x2), none]) (st1 := []) (fun h => h hc) rfl ?_
      refine s_Fin.sg 3 (y := (30, [some (.ref 37), some (.ref 22), some (.int x2), none], [.int x2, .ref 22, .ref 37], s_hg g)) rfl ?_
      obtain ⟨v2, g1, hp, hB⟩ := s_bd2 hB
      refine s_Fin.cl (d := 4) (q1 := s_m132) (md := 132) (vs := [.ref 37, .ref 22, .int x2]) (rest := []) (h1 := s_hg g1) (u := some (.int v2)) (s_Ev.up (by omega) (fB_liveLine_37_22_s hp)) rfl rfl rfl rfl ?_
      refine s_Fin.sg 2 (y := (35, [some (.ref 37), some (.ref 22), some (.int x2), some (.int v2)], [.int v2], s_hg g1)) rfl ?_
      by_cases hc : v2 = 0
      · rw [if_pos hc] at hB
        refine s_Fin.bf (c := ¬ v2 = 0) (tg := 51) (p2 := 35) (L1 := [some (.ref 37), some (.ref 22), some (.int x2), some (.int v2)]) (st1 := []) (fun h => h hc) rfl ?_
        refine s_Fin.sg 9 (y := (12, [some (.ref 37), some (.ref 22), some (.int (x2 + (1 : Int32))), some (.int v2)], [], s_hg (s_si g1 37 8 ((g1.1 37 8) + (1 : Int32))))) rfl ?_
        have hB := Option.some.inj hB
        subst hB
        exact s_Fin.more (L := [some (.ref 37), some (.ref 22), some (.int (x2 + (1 : Int32))), none]) ⟨Or.inr rfl, Or.inr rfl, Or.inr rfl, Or.inl rfl, trivial⟩ hr
      · rw [if_neg hc] at hB
        refine s_Fin.bt (c := ¬ v2 = 0) (tg := 51) (p2 := 35) (L1 := [some (.ref 37), some (.ref 22), some (.int x2), some (.int v2)]) (st1 := []) hc rfl ?_
        refine s_Fin.sg 4 (y := (57, [some (.ref 37), some (.ref 22), some (.int x2), some (.int v2)], [.int x2, .ref 38, .ref 37], s_hg g1)) rfl ?_
        obtain ⟨k4, hk4, hB⟩ := s_bd hB
        refine s_Fin.ix (n := 40) (i := x2) (pc1 := 58) (L1 := [some (.ref 37), some (.ref 22), some (.int x2), some (.int v2)]) (fun j3 => [.int (g1.1 38 j3), .ref 37]) (fun j3 => s_hg g1) hk4 rfl rfl ?_
        refine s_Fin.sg 5 (y := (12, [some (.ref 37), some (.ref 22), some (.int (x2 + (1 : Int32))), some (.int v2)], [], s_hg (s_si g1 37 7 ((g1.1 38 k4) + v2)))) rfl ?_
        have hB := Option.some.inj hB
        subst hB
        exact s_Fin.more (L := [some (.ref 37), some (.ref 22), some (.int (x2 + (1 : Int32))), none]) ⟨Or.inr rfl, Or.inr rfl, Or.inr rfl, Or.inl rfl, trivial⟩ hr
    · rw [if_neg hc] at hB
      refine s_Fin.bt (c := ¬ (g.1 37 7) = 0) (tg := 69) (p2 := 24) (L1 := [some (.ref 37), some (.ref 22), some (.int x2), none]) (st1 := []) hc rfl ?_
      obtain ⟨_, hN, hz⟩ := s_in_of hB
      subst hz
      have hB := hN
      exact s_Fin.more (L := [some (.ref 37), some (.ref 22), none, none]) ⟨Or.inr rfl, Or.inr rfl, Or.inl rfl, Or.inl rfl, trivial⟩ (fB_judge_37_22_69_s hB hr)
  · rw [if_neg hc] at hB
    refine s_Fin.bt (c := (g.1 37 5) ≤ x2) (tg := 69) (p2 := 17) (L1 := [some (.ref 37), some (.ref 22), some (.int x2), none]) (st1 := []) (Int32.not_lt.mp hc) rfl ?_
    obtain ⟨_, hN, hz⟩ := s_in_of hB
    subst hz
    have hB := hN
    exact s_Fin.more (L := [some (.ref 37), some (.ref 22), none, none]) ⟨Or.inr rfl, Or.inr rfl, Or.inl rfl, Or.inl rfl, trivial⟩ (fB_judge_37_22_69_s hB hr)
noncomputable def fB_judge_37_22 (g : s_G) : Option (Int32 × s_G) :=
  s_lp (fun x => fB_judge_37_22_12 x.1 x.2) ((0 : Int32), (s_si (s_si g 37 7 (0 : Int32)) 37 8 (0 : Int32)))
theorem fB_judge_37_22_s {g : s_G} {z : Int32 × s_G} (hB : fB_judge_37_22 g = some z) : s_Ev 5 s_m131 [.ref 37, .ref 22] (s_hg g) (some (.int z.1)) (s_hg z.2) := by
  unfold fB_judge_37_22 at hB
  refine s_Ev.fin ((?_ : ∀ (v : Option Value) (h' : s_H), (fun (z : Int32 × s_G) (v : Option Value) (h' : s_H) => v = some (.int z.1) ∧ h' = s_hg z.2) z v h' → s_Fin 5 s_m131 (0, s_ent [.ref 37, .ref 22] (s_m131).2.2.1, [], s_hg g) v h') _ _ ⟨rfl, rfl⟩)
  intro v h' hr
  refine (show s_Fin 5 s_m131 (0, [some (.ref 37), some (.ref 22), none, none], [], s_hg g) v h' from ?_)
  refine s_Fin.sg 8 (y := (12, [some (.ref 37), some (.ref 22), some (.int (0 : Int32)), none], [], s_hg (s_si (s_si g 37 7 (0 : Int32)) 37 8 (0 : Int32)))) rfl ?_
  exact s_Fin.more (L := [some (.ref 37), some (.ref 22), some (.int (0 : Int32)), none]) ⟨Or.inr rfl, Or.inr rfl, Or.inr rfl, Or.inl rfl, trivial⟩ (s_lp_s (P := (fun (x : Int32 × s_G) (v : Option Value) (h' : s_H) => s_Fin 5 s_m131 (12, [some (.ref 37), some (.ref 22), some (.int x.1), none], [], s_hg x.2) v h')) (Q := (fun (z : Int32 × s_G) (v : Option Value) (h' : s_H) => v = some (.int z.1) ∧ h' = s_hg z.2)) (fun x z hB v h' hr => fB_judge_37_22_12_s hB hr) hB _ _ hr)
-- CampAshes.book
noncomputable def fC_book_0_13 (x1 : Int32) (g : s_G) : Option (Int32 × s_G) :=
  s_b1 (fQ_startText_1 (400 : Int32) g) fun g1 => s_b2 (fB_readText_37_1_3 g1) fun v3 g2 => if v3 = 0 then (some ((-2 : Int32) - (g2.1 1 11), (s_si g2 0 1 (g2.1 1 10))))
  else s_b1 (fT_copyFrom_22_17 (s_si g2 0 1 (g2.1 1 10))) fun g4 => s_b2 (fB_judge_37_22 g4) fun v6 g5 => if x1 = (1 : Int32) then (if 0 < (g5.1 37 8) then (s_b1 (fC_keepTrial_0 g5) fun g7 => some (v6, g7))
  else some (v6, g5))
  else some (v6, g5)
theorem fC_book_0_13_s {x1 : Int32} {g : s_G} {z : Int32 × s_G} (hB : fC_book_0_13 x1 g = some z) {v : Option Value} {h' : s_H} (hr : (fun (z : Int32 × s_G) (v : Option Value) (h' : s_H) => v = some (.int z.1) ∧ h' = s_hg z.2) z v h') : s_Fin 7 s_m125 (13, [some (.ref 0), some (.int x1), none, none], [], s_hg g) v h' := by
  unfold fC_book_0_13 at hB
  refine s_Fin.sg 3 (y := (20, [some (.ref 0), some (.int x1), none, none], [.int (400 : Int32), .ref 1], s_hg g)) rfl ?_
  obtain ⟨g1, hp, hB⟩ := s_bd hB
  refine s_Fin.cl (d := 6) (q1 := s_m19) (md := 19) (vs := [.ref 1, .int (400 : Int32)]) (rest := []) (h1 := s_hg g1) (u := none) (s_Ev.up (by omega) (fQ_startText_1_s hp)) rfl rfl rfl rfl ?_
  refine s_Fin.sg 6 (y := (35, [some (.ref 0), some (.int x1), none, none], [.ref 3, .ref 1, .ref 37], s_hg g1)) rfl ?_
  obtain ⟨v3, g2, hp, hB⟩ := s_bd2 hB
  refine s_Fin.cl (d := 6) (q1 := s_m126) (md := 126) (vs := [.ref 37, .ref 1, .ref 3]) (rest := []) (h1 := s_hg g2) (u := some (.int v3)) (s_Ev.up (by omega) (fB_readText_37_1_3_s hp)) rfl rfl rfl rfl ?_
  refine s_Fin.sg 7 (y := (51, [some (.ref 0), some (.int x1), some (.int v3), none], [.int v3], s_hg (s_si g2 0 1 (g2.1 1 10)))) rfl ?_
  by_cases hc : v3 = 0
  · rw [if_pos hc] at hB
    refine s_Fin.bf (c := ¬ v3 = 0) (tg := 65) (p2 := 51) (L1 := [some (.ref 0), some (.int x1), some (.int v3), none]) (st1 := []) (fun h => h hc) rfl ?_
    refine s_Fin.sg 5 (y := (64, [some (.ref 0), some (.int x1), some (.int v3), none], [.int ((-2 : Int32) - (g2.1 1 11))], s_hg (s_si g2 0 1 (g2.1 1 10)))) rfl ?_
    have hB := Option.some.inj hB
    subst hB
    obtain ⟨rfl, rfl⟩ := hr
    exact s_Fin.rt rfl rfl
  · rw [if_neg hc] at hB
    refine s_Fin.bt (c := ¬ v3 = 0) (tg := 65) (p2 := 51) (L1 := [some (.ref 0), some (.int x1), some (.int v3), none]) (st1 := []) hc rfl ?_
    refine s_Fin.sg 4 (y := (73, [some (.ref 0), some (.int x1), some (.int v3), none], [.ref 17, .ref 22], s_hg (s_si g2 0 1 (g2.1 1 10)))) rfl ?_
    obtain ⟨g4, hp, hB⟩ := s_bd hB
    refine s_Fin.cl (d := 6) (q1 := s_m62) (md := 62) (vs := [.ref 22, .ref 17]) (rest := []) (h1 := s_hg g4) (u := none) (s_Ev.up (by omega) (fT_copyFrom_22_17_s hp)) rfl rfl rfl rfl ?_
    refine s_Fin.sg 4 (y := (84, [some (.ref 0), some (.int x1), some (.int v3), none], [.ref 22, .ref 37], s_hg g4)) rfl ?_
    obtain ⟨v6, g5, hp, hB⟩ := s_bd2 hB
    refine s_Fin.cl (d := 6) (q1 := s_m131) (md := 131) (vs := [.ref 37, .ref 22]) (rest := []) (h1 := s_hg g5) (u := some (.int v6)) (s_Ev.up (by omega) (fB_judge_37_22_s hp)) rfl rfl rfl rfl ?_
    refine s_Fin.sg 3 (y := (90, [some (.ref 0), some (.int x1), some (.int v3), some (.int v6)], [.int (1 : Int32), .int x1], s_hg g5)) rfl ?_
    by_cases hc : x1 = (1 : Int32)
    · rw [if_pos hc] at hB
      refine s_Fin.bf (c := ¬ x1 = (1 : Int32)) (tg := 107) (p2 := 90) (L1 := [some (.ref 0), some (.int x1), some (.int v3), some (.int v6)]) (st1 := []) (fun h => h hc) rfl ?_
      refine s_Fin.sg 3 (y := (100, [some (.ref 0), some (.int x1), some (.int v3), some (.int v6)], [.int (g5.1 37 8)], s_hg g5)) rfl ?_
      by_cases hc : 0 < (g5.1 37 8)
      · rw [if_pos hc] at hB
        refine s_Fin.bf (c := (g5.1 37 8) ≤ 0) (tg := 107) (p2 := 100) (L1 := [some (.ref 0), some (.int x1), some (.int v3), some (.int v6)]) (st1 := []) (Int32.not_le.mpr hc) rfl ?_
        refine s_Fin.sg 1 (y := (104, [some (.ref 0), some (.int x1), some (.int v3), some (.int v6)], [.ref 0], s_hg g5)) rfl ?_
        obtain ⟨g7, hp, hB⟩ := s_bd hB
        refine s_Fin.cl (d := 6) (q1 := s_m68) (md := 68) (vs := [.ref 0]) (rest := []) (h1 := s_hg g7) (u := none) (s_Ev.up (by omega) (fC_keepTrial_0_s hp)) rfl rfl rfl rfl ?_
        refine s_Fin.sg 1 (y := (108, [some (.ref 0), some (.int x1), some (.int v3), some (.int v6)], [.int v6], s_hg g7)) rfl ?_
        have hB := Option.some.inj hB
        subst hB
        obtain ⟨rfl, rfl⟩ := hr
        exact s_Fin.rt rfl rfl
      · rw [if_neg hc] at hB
        refine s_Fin.bt (c := (g5.1 37 8) ≤ 0) (tg := 107) (p2 := 100) (L1 := [some (.ref 0), some (.int x1), some (.int v3), some (.int v6)]) (st1 := []) (Int32.not_lt.mp hc) rfl ?_
        refine s_Fin.sg 1 (y := (108, [some (.ref 0), some (.int x1), some (.int v3), some (.int v6)], [.int v6], s_hg g5)) rfl ?_
        have hB := Option.some.inj hB
        subst hB
        obtain ⟨rfl, rfl⟩ := hr
        exact s_Fin.rt rfl rfl
    · rw [if_neg hc] at hB
      refine s_Fin.bt (c := ¬ x1 = (1 : Int32)) (tg := 107) (p2 := 90) (L1 := [some (.ref 0), some (.int x1), some (.int v3), some (.int v6)]) (st1 := []) hc rfl ?_
      refine s_Fin.sg 1 (y := (108, [some (.ref 0), some (.int x1), some (.int v3), some (.int v6)], [.int v6], s_hg g5)) rfl ?_
      have hB := Option.some.inj hB
      subst hB
      obtain ⟨rfl, rfl⟩ := hr
      exact s_Fin.rt rfl rfl
noncomputable def fC_book_0 (x1 : Int32) (g : s_G) : Option (Int32 × s_G) :=
  if x1 = 0 then (fC_book_0_13 x1 g)
  else if x1 = (1 : Int32) then (fC_book_0_13 x1 g)
  else some ((-1000 : Int32), g)
theorem fC_book_0_s {x1 : Int32} {g : s_G} {z : Int32 × s_G} (hB : fC_book_0 x1 g = some z) : s_Ev 7 s_m125 [.ref 0, .int x1] (s_hg g) (some (.int z.1)) (s_hg z.2) := by
  unfold fC_book_0 at hB
  refine s_Ev.fin ((?_ : ∀ (v : Option Value) (h' : s_H), (fun (z : Int32 × s_G) (v : Option Value) (h' : s_H) => v = some (.int z.1) ∧ h' = s_hg z.2) z v h' → s_Fin 7 s_m125 (0, s_ent [.ref 0, .int x1] (s_m125).2.2.1, [], s_hg g) v h') _ _ ⟨rfl, rfl⟩)
  intro v h' hr
  refine (show s_Fin 7 s_m125 (0, [some (.ref 0), some (.int x1), none, none], [], s_hg g) v h' from ?_)
  refine s_Fin.sg 1 (y := (1, [some (.ref 0), some (.int x1), none, none], [.int x1], s_hg g)) rfl ?_
  by_cases hc : x1 = 0
  · rw [if_pos hc] at hB
    refine s_Fin.bt (c := x1 = 0) (tg := 13) (p2 := 1) (L1 := [some (.ref 0), some (.int x1), none, none]) (st1 := []) hc rfl ?_
    exact s_Fin.more (L := [some (.ref 0), some (.int x1), none, none]) ⟨Or.inr rfl, Or.inr rfl, Or.inl rfl, Or.inl rfl, trivial⟩ (fC_book_0_13_s hB hr)
  · rw [if_neg hc] at hB
    refine s_Fin.bf (c := x1 = 0) (tg := 13) (p2 := 1) (L1 := [some (.ref 0), some (.int x1), none, none]) (st1 := []) hc rfl ?_
    refine s_Fin.sg 2 (y := (6, [some (.ref 0), some (.int x1), none, none], [.int (1 : Int32), .int x1], s_hg g)) rfl ?_
    by_cases hc : x1 = (1 : Int32)
    · rw [if_pos hc] at hB
      refine s_Fin.bt (c := x1 = (1 : Int32)) (tg := 13) (p2 := 6) (L1 := [some (.ref 0), some (.int x1), none, none]) (st1 := []) hc rfl ?_
      exact s_Fin.more (L := [some (.ref 0), some (.int x1), none, none]) ⟨Or.inr rfl, Or.inr rfl, Or.inl rfl, Or.inl rfl, trivial⟩ (fC_book_0_13_s hB hr)
    · rw [if_neg hc] at hB
      refine s_Fin.bf (c := x1 = (1 : Int32)) (tg := 13) (p2 := 6) (L1 := [some (.ref 0), some (.int x1), none, none]) (st1 := []) hc rfl ?_
      refine s_Fin.sg 1 (y := (12, [some (.ref 0), some (.int x1), none, none], [.int (-1000 : Int32)], s_hg g)) rfl ?_
      have hB := Option.some.inj hB
      subst hB
      obtain ⟨rfl, rfl⟩ := hr
      exact s_Fin.rt rfl rfl
-- CampAshesModel.told
noncomputable def fM_told_130 (x1 : Int32) (g : s_G) : Option (Int32 × s_G) :=
  if (g.1 130 42) = 0 then (some ((-1 : Int32), (s_si g 130 0 (0 : Int32))))
  else s_b1 (fM_isIn_s x1 (0 : Int32) (3 : Int32) (s_si g 130 0 (0 : Int32))) fun v1 => if v1 = 0 then (some ((-1 : Int32), (s_si g 130 0 (0 : Int32))))
  else s_b1 (s_ix 4 x1) fun k3 => some (g.1 150 k3, (s_si g 130 0 (0 : Int32)))
theorem fM_told_130_s {x1 : Int32} {g : s_G} {z : Int32 × s_G} (hB : fM_told_130 x1 g = some z) : s_Ev 1 s_m266 [.ref 130, .int x1] (s_hg g) (some (.int z.1)) (s_hg z.2) := by
  unfold fM_told_130 at hB
  refine s_Ev.fin ((?_ : ∀ (v : Option Value) (h' : s_H), (fun (z : Int32 × s_G) (v : Option Value) (h' : s_H) => v = some (.int z.1) ∧ h' = s_hg z.2) z v h' → s_Fin 1 s_m266 (0, s_ent [.ref 130, .int x1] (s_m266).2.2.1, [], s_hg g) v h') _ _ ⟨rfl, rfl⟩)
  intro v h' hr
  refine (show s_Fin 1 s_m266 (0, [some (.ref 130), some (.int x1)], [], s_hg g) v h' from ?_)
  refine s_Fin.sg 5 (y := (9, [some (.ref 130), some (.int x1)], [.int (g.1 130 42)], s_hg (s_si g 130 0 (0 : Int32)))) rfl ?_
  by_cases hc : (g.1 130 42) = 0
  · rw [if_pos hc] at hB
    refine s_Fin.bt (c := (g.1 130 42) = 0) (tg := 30) (p2 := 9) (L1 := [some (.ref 130), some (.int x1)]) (st1 := []) hc rfl ?_
    refine s_Fin.sg 1 (y := (31, [some (.ref 130), some (.int x1)], [.int (-1 : Int32)], s_hg (s_si g 130 0 (0 : Int32)))) rfl ?_
    have hB := Option.some.inj hB
    subst hB
    obtain ⟨rfl, rfl⟩ := hr
    exact s_Fin.rt rfl rfl
  · rw [if_neg hc] at hB
    refine s_Fin.bf (c := (g.1 130 42) = 0) (tg := 30) (p2 := 9) (L1 := [some (.ref 130), some (.int x1)]) (st1 := []) hc rfl ?_
    refine s_Fin.sg 3 (y := (15, [some (.ref 130), some (.int x1)], [.int (3 : Int32), .int (0 : Int32), .int x1], s_hg (s_si g 130 0 (0 : Int32)))) rfl ?_
    obtain ⟨v1, hp, hB⟩ := s_bd hB
    refine s_Fin.cl (d := 0) (q1 := s_m181) (md := 181) (vs := [.int x1, .int (0 : Int32), .int (3 : Int32)]) (rest := []) (h1 := s_hg (s_si g 130 0 (0 : Int32))) (u := some (.int v1)) (s_Ev.up (by omega) (fM_isIn_s_s hp)) rfl rfl rfl rfl ?_
    by_cases hc : v1 = 0
    · rw [if_pos hc] at hB
      refine s_Fin.bt (c := v1 = 0) (tg := 30) (p2 := 18) (L1 := [some (.ref 130), some (.int x1)]) (st1 := []) hc rfl ?_
      refine s_Fin.sg 1 (y := (31, [some (.ref 130), some (.int x1)], [.int (-1 : Int32)], s_hg (s_si g 130 0 (0 : Int32)))) rfl ?_
      have hB := Option.some.inj hB
      subst hB
      obtain ⟨rfl, rfl⟩ := hr
      exact s_Fin.rt rfl rfl
    · rw [if_neg hc] at hB
      refine s_Fin.bf (c := v1 = 0) (tg := 30) (p2 := 18) (L1 := [some (.ref 130), some (.int x1)]) (st1 := []) hc rfl ?_
      refine s_Fin.sg 3 (y := (26, [some (.ref 130), some (.int x1)], [.int x1, .ref 150], s_hg (s_si g 130 0 (0 : Int32)))) rfl ?_
      obtain ⟨k3, hk3, hB⟩ := s_bd hB
      refine s_Fin.ix (n := 4) (i := x1) (pc1 := 27) (L1 := [some (.ref 130), some (.int x1)]) (fun j2 => [.int (g.1 150 j2)]) (fun j2 => s_hg (s_si g 130 0 (0 : Int32))) hk3 rfl rfl ?_
      refine s_Fin.sg 1 (y := (31, [some (.ref 130), some (.int x1)], [.int (g.1 150 k3)], s_hg (s_si g 130 0 (0 : Int32)))) rfl ?_
      have hB := Option.some.inj hB
      subst hB
      obtain ⟨rfl, rfl⟩ := hr
      exact s_Fin.rt rfl rfl
-- CampAshes.told
noncomputable def fC_told_0 (x1 : Int32) (g : s_G) : Option (Int32) :=
  if (g.1 37 6) = 0 then (some (-1 : Int32))
  else if x1 = 0 then (some (g.1 37 7))
  else if x1 = 1 then (some (g.1 37 8))
  else if x1 = 2 then (some (g.1 37 9))
  else if x1 = 3 then (some (g.1 37 10))
  else some (-1 : Int32)
theorem fC_told_0_s {x1 : Int32} {g : s_G} {z : Int32} (hB : fC_told_0 x1 g = some z) : s_Ev 0 s_m134 [.ref 0, .int x1] (s_hg g) (some (.int z)) (s_hg g) := by
  unfold fC_told_0 at hB
  refine s_Ev.fin ((?_ : ∀ (v : Option Value) (h' : s_H), (fun (z : Int32) (v : Option Value) (h' : s_H) => v = some (.int z) ∧ h' = s_hg g) z v h' → s_Fin 0 s_m134 (0, s_ent [.ref 0, .int x1] (s_m134).2.2.1, [], s_hg g) v h') _ _ ⟨rfl, rfl⟩)
  intro v h' hr
  refine (show s_Fin 0 s_m134 (0, [some (.ref 0), some (.int x1)], [], s_hg g) v h' from ?_)
  refine s_Fin.sg 3 (y := (7, [some (.ref 0), some (.int x1)], [.int (g.1 37 6)], s_hg g)) rfl ?_
  by_cases hc : (g.1 37 6) = 0
  · rw [if_pos hc] at hB
    refine s_Fin.bf (c := ¬ (g.1 37 6) = 0) (tg := 12) (p2 := 7) (L1 := [some (.ref 0), some (.int x1)]) (st1 := []) (fun h => h hc) rfl ?_
    refine s_Fin.sg 1 (y := (11, [some (.ref 0), some (.int x1)], [.int (-1 : Int32)], s_hg g)) rfl ?_
    have hB := Option.some.inj hB
    subst hB
    obtain ⟨rfl, rfl⟩ := hr
    exact s_Fin.rt rfl rfl
  · rw [if_neg hc] at hB
    refine s_Fin.bt (c := ¬ (g.1 37 6) = 0) (tg := 12) (p2 := 7) (L1 := [some (.ref 0), some (.int x1)]) (st1 := []) hc rfl ?_
    refine s_Fin.sg 1 (y := (13, [some (.ref 0), some (.int x1)], [.int x1], s_hg g)) rfl ?_
    by_cases hc0 : x1 = 0
    · rw [if_pos hc0] at hB
      refine s_Fin.nx (pc1 := 44) (L1 := [some (.ref 0), some (.int x1)]) (st1 := []) (h1 := s_hg g) (by rw [hc0]; exact rfl) rfl ?_
      refine s_Fin.sg 3 (y := (51, [some (.ref 0), some (.int x1)], [.int (g.1 37 7)], s_hg g)) rfl ?_
      have hB := Option.some.inj hB
      subst hB
      obtain ⟨rfl, rfl⟩ := hr
      exact s_Fin.rt rfl rfl
    rw [if_neg hc0] at hB
    by_cases hc1 : x1 = 1
    · rw [if_pos hc1] at hB
      refine s_Fin.nx (pc1 := 52) (L1 := [some (.ref 0), some (.int x1)]) (st1 := []) (h1 := s_hg g) (by rw [hc1]; exact rfl) rfl ?_
      refine s_Fin.sg 3 (y := (59, [some (.ref 0), some (.int x1)], [.int (g.1 37 8)], s_hg g)) rfl ?_
      have hB := Option.some.inj hB
      subst hB
      obtain ⟨rfl, rfl⟩ := hr
      exact s_Fin.rt rfl rfl
    rw [if_neg hc1] at hB
    by_cases hc2 : x1 = 2
    · rw [if_pos hc2] at hB
      refine s_Fin.nx (pc1 := 60) (L1 := [some (.ref 0), some (.int x1)]) (st1 := []) (h1 := s_hg g) (by rw [hc2]; exact rfl) rfl ?_
      refine s_Fin.sg 3 (y := (67, [some (.ref 0), some (.int x1)], [.int (g.1 37 9)], s_hg g)) rfl ?_
      have hB := Option.some.inj hB
      subst hB
      obtain ⟨rfl, rfl⟩ := hr
      exact s_Fin.rt rfl rfl
    rw [if_neg hc2] at hB
    by_cases hc3 : x1 = 3
    · rw [if_pos hc3] at hB
      refine s_Fin.nx (pc1 := 68) (L1 := [some (.ref 0), some (.int x1)]) (st1 := []) (h1 := s_hg g) (by rw [hc3]; exact rfl) rfl ?_
      refine s_Fin.sg 3 (y := (75, [some (.ref 0), some (.int x1)], [.int (g.1 37 10)], s_hg g)) rfl ?_
      have hB := Option.some.inj hB
      subst hB
      obtain ⟨rfl, rfl⟩ := hr
      exact s_Fin.rt rfl rfl
    rw [if_neg hc3] at hB
    have ht : x1.toInt < 0 ∨ (4 : Int) ≤ x1.toInt := by
      have q0 : ¬ x1.toInt = 0 := s_tne hc0 (by decide)
      have q1 : ¬ x1.toInt = 1 := s_tne hc1 (by decide)
      have q2 : ¬ x1.toInt = 2 := s_tne hc2 (by decide)
      have q3 : ¬ x1.toInt = 3 := s_tne hc3 (by decide)
      omega
    refine s_Fin.nx (pc1 := 76) (L1 := [some (.ref 0), some (.int x1)]) (st1 := []) (h1 := s_hg g) ((show _ = s_ts x1.toInt 13 [some (.ref 0), some (.int x1)] [] (s_hg g) 63 0 [31, 39, 47, 55] from rfl).trans (s_ts_ms (n := 4) rfl ht (t := 76) rfl)) rfl ?_
    refine s_Fin.sg 1 (y := (77, [some (.ref 0), some (.int x1)], [.int (-1 : Int32)], s_hg g)) rfl ?_
    have hB := Option.some.inj hB
    subst hB
    obtain ⟨rfl, rfl⟩ := hr
    exact s_Fin.rt rfl rfl
-- CampAshesModel.saysOne
noncomputable def fM_saysOne_130 (x1 : Int32) (x2 : Int32) (x3 : Int32) (x4 : Int32) (g : s_G) : Option (Int32 × s_G) :=
  s_b1 (s_ix 240 ((4 : Int32) * (g.1 130 44))) fun k2 => s_b1 (s_ix 240 (((4 : Int32) * (g.1 130 44)) + (1 : Int32))) fun k4 => s_b1 (s_ix 240 (((4 : Int32) * (g.1 130 44)) + (2 : Int32))) fun k6 => s_b1 (s_ix 240 (((4 : Int32) * (g.1 130 44)) + (3 : Int32))) fun k8 => some (((g.1 130 44) + (1 : Int32)) - (1 : Int32), (s_si (s_si (s_si (s_si (s_si g 151 k2 x1) 151 k4 x2) 151 k6 x3) 151 k8 x4) 130 44 ((g.1 130 44) + (1 : Int32))))
theorem fM_saysOne_130_s {x1 : Int32} {x2 : Int32} {x3 : Int32} {x4 : Int32} {g : s_G} {z : Int32 × s_G} (hB : fM_saysOne_130 x1 x2 x3 x4 g = some z) : s_Ev 0 s_m273 [.ref 130, .int x1, .int x2, .int x3, .int x4] (s_hg g) (some (.int z.1)) (s_hg z.2) := by
  unfold fM_saysOne_130 at hB
  refine s_Ev.fin ((?_ : ∀ (v : Option Value) (h' : s_H), (fun (z : Int32 × s_G) (v : Option Value) (h' : s_H) => v = some (.int z.1) ∧ h' = s_hg z.2) z v h' → s_Fin 0 s_m273 (0, s_ent [.ref 130, .int x1, .int x2, .int x3, .int x4] (s_m273).2.2.1, [], s_hg g) v h') _ _ ⟨rfl, rfl⟩)
  intro v h' hr
  refine (show s_Fin 0 s_m273 (0, [some (.ref 130), some (.int x1), some (.int x2), some (.int x3), some (.int x4), none], [], s_hg g) v h' from ?_)
  refine s_Fin.sg 9 (y := (15, [some (.ref 130), some (.int x1), some (.int x2), some (.int x3), some (.int x4), some (.int ((4 : Int32) * (g.1 130 44)))], [.int x1, .int ((4 : Int32) * (g.1 130 44)), .ref 151], s_hg g)) rfl ?_
  obtain ⟨k2, hk2, hB⟩ := s_bd hB
  refine s_Fin.ix (n := 240) (i := (4 : Int32) * (g.1 130 44)) (pc1 := 16) (L1 := [some (.ref 130), some (.int x1), some (.int x2), some (.int x3), some (.int x4), some (.int ((4 : Int32) * (g.1 130 44)))]) (fun j1 => []) (fun j1 => s_hg (s_si g 151 j1 x1)) hk2 rfl rfl ?_
  refine s_Fin.sg 6 (y := (25, [some (.ref 130), some (.int x1), some (.int x2), some (.int x3), some (.int x4), some (.int ((4 : Int32) * (g.1 130 44)))], [.int x2, .int (((4 : Int32) * (g.1 130 44)) + (1 : Int32)), .ref 151], s_hg (s_si g 151 k2 x1))) rfl ?_
  obtain ⟨k4, hk4, hB⟩ := s_bd hB
  refine s_Fin.ix (n := 240) (i := ((4 : Int32) * (g.1 130 44)) + (1 : Int32)) (pc1 := 26) (L1 := [some (.ref 130), some (.int x1), some (.int x2), some (.int x3), some (.int x4), some (.int ((4 : Int32) * (g.1 130 44)))]) (fun j3 => []) (fun j3 => s_hg (s_si (s_si g 151 k2 x1) 151 j3 x2)) hk4 rfl rfl ?_
  refine s_Fin.sg 6 (y := (35, [some (.ref 130), some (.int x1), some (.int x2), some (.int x3), some (.int x4), some (.int ((4 : Int32) * (g.1 130 44)))], [.int x3, .int (((4 : Int32) * (g.1 130 44)) + (2 : Int32)), .ref 151], s_hg (s_si (s_si g 151 k2 x1) 151 k4 x2))) rfl ?_
  obtain ⟨k6, hk6, hB⟩ := s_bd hB
  refine s_Fin.ix (n := 240) (i := ((4 : Int32) * (g.1 130 44)) + (2 : Int32)) (pc1 := 36) (L1 := [some (.ref 130), some (.int x1), some (.int x2), some (.int x3), some (.int x4), some (.int ((4 : Int32) * (g.1 130 44)))]) (fun j5 => []) (fun j5 => s_hg (s_si (s_si (s_si g 151 k2 x1) 151 k4 x2) 151 j5 x3)) hk6 rfl rfl ?_
  refine s_Fin.sg 6 (y := (46, [some (.ref 130), some (.int x1), some (.int x2), some (.int x3), some (.int x4), some (.int ((4 : Int32) * (g.1 130 44)))], [.int x4, .int (((4 : Int32) * (g.1 130 44)) + (3 : Int32)), .ref 151], s_hg (s_si (s_si (s_si g 151 k2 x1) 151 k4 x2) 151 k6 x3))) rfl ?_
  obtain ⟨k8, hk8, hB⟩ := s_bd hB
  refine s_Fin.ix (n := 240) (i := ((4 : Int32) * (g.1 130 44)) + (3 : Int32)) (pc1 := 47) (L1 := [some (.ref 130), some (.int x1), some (.int x2), some (.int x3), some (.int x4), some (.int ((4 : Int32) * (g.1 130 44)))]) (fun j7 => []) (fun j7 => s_hg (s_si (s_si (s_si (s_si g 151 k2 x1) 151 k4 x2) 151 k6 x3) 151 j7 x4)) hk8 rfl rfl ?_
  refine s_Fin.sg 10 (y := (63, [some (.ref 130), some (.int x1), some (.int x2), some (.int x3), some (.int x4), some (.int ((4 : Int32) * (g.1 130 44)))], [.int (((g.1 130 44) + (1 : Int32)) - (1 : Int32))], s_hg (s_si (s_si (s_si (s_si (s_si g 151 k2 x1) 151 k4 x2) 151 k6 x3) 151 k8 x4) 130 44 ((g.1 130 44) + (1 : Int32))))) rfl ?_
  have hB := Option.some.inj hB
  subst hB
  obtain ⟨rfl, rfl⟩ := hr
  exact s_Fin.rt rfl rfl
-- CampAshesModel.readNot
noncomputable def fM_readNot_130 (K : s_G → Option (Int32 × s_G)) (g : s_G) : Option (Int32 × s_G) :=
  s_b2 (K g) fun v2 g1 => if v2 = 0 then (some ((0 : Int32), g1))
  else s_b2 (fM_saysOne_130 (1 : Int32) (g1.1 130 47) (0 : Int32) (0 : Int32) g1) fun v4 g3 => some ((1 : Int32), (s_si g3 130 47 v4))
theorem fM_readNot_130_s {K : s_G → Option (Int32 × s_G)} {e : Nat} (he : 40 ≤ e) (hK : ∀ (g : s_G) (z : Int32 × s_G), K g = some z → s_Ev e s_m270 [.ref 130] (s_hg g) (some (.int z.1)) (s_hg z.2)) {g : s_G} {z : Int32 × s_G} (hB : fM_readNot_130 K g = some z) : s_Ev (e + 1) s_m272 [.ref 130] (s_hg g) (some (.int z.1)) (s_hg z.2) := by
  unfold fM_readNot_130 at hB
  refine s_Ev.fin ((?_ : ∀ (v : Option Value) (h' : s_H), (fun (z : Int32 × s_G) (v : Option Value) (h' : s_H) => v = some (.int z.1) ∧ h' = s_hg z.2) z v h' → s_Fin (e + 1) s_m272 (0, s_ent [.ref 130] (s_m272).2.2.1, [], s_hg g) v h') _ _ ⟨rfl, rfl⟩)
  intro v h' hr
  refine (show s_Fin (e + 1) s_m272 (0, [some (.ref 130)], [], s_hg g) v h' from ?_)
  refine s_Fin.sg 1 (y := (1, [some (.ref 130)], [.ref 130], s_hg g)) rfl ?_
  obtain ⟨v2, g1, hp, hB⟩ := s_bd2 hB
  refine s_Fin.cl (d := e + 0) (q1 := s_m270) (md := 270) (vs := [.ref 130]) (rest := []) (h1 := s_hg g1) (u := some (.int v2)) (s_Ev.up (by omega) (hK _ _ hp)) rfl rfl rfl rfl ?_
  by_cases hc : v2 = 0
  · rw [if_pos hc] at hB
    refine s_Fin.bf (c := ¬ v2 = 0) (tg := 9) (p2 := 4) (L1 := [some (.ref 130)]) (st1 := []) (fun h => h hc) rfl ?_
    refine s_Fin.sg 1 (y := (8, [some (.ref 130)], [.int (0 : Int32)], s_hg g1)) rfl ?_
    have hB := Option.some.inj hB
    subst hB
    obtain ⟨rfl, rfl⟩ := hr
    exact s_Fin.rt rfl rfl
  · rw [if_neg hc] at hB
    refine s_Fin.bt (c := ¬ v2 = 0) (tg := 9) (p2 := 4) (L1 := [some (.ref 130)]) (st1 := []) hc rfl ?_
    refine s_Fin.sg 7 (y := (18, [some (.ref 130)], [.int (0 : Int32), .int (0 : Int32), .int (g1.1 130 47), .int (1 : Int32), .ref 130, .ref 130], s_hg g1)) rfl ?_
    obtain ⟨v4, g3, hp, hB⟩ := s_bd2 hB
    refine s_Fin.cl (d := e + 0) (q1 := s_m273) (md := 273) (vs := [.ref 130, .int (1 : Int32), .int (g1.1 130 47), .int (0 : Int32), .int (0 : Int32)]) (rest := [.ref 130]) (h1 := s_hg g3) (u := some (.int v4)) (s_Ev.up (by omega) (fM_saysOne_130_s hp)) rfl rfl rfl rfl ?_
    refine s_Fin.sg 2 (y := (25, [some (.ref 130)], [.int (1 : Int32)], s_hg (s_si g3 130 47 v4))) rfl ?_
    have hB := Option.some.inj hB
    subst hB
    obtain ⟨rfl, rfl⟩ := hr
    exact s_Fin.rt rfl rfl
-- CampAshesModel.readEventName
noncomputable def fM_readEventName_130 (g : s_G) : Option (Int32 × s_G) :=
  s_b2 (fM_readNamed_130 (7 : Int32) (g.1 132 1) g) fun v2 g1 => if v2 = 0 ∨ v2 = 1 then some (v2, g1)
  else none
theorem fM_readEventName_130_s {g : s_G} {z : Int32 × s_G} (hB : fM_readEventName_130 g = some z) : s_Ev 4 s_m275 [.ref 130] (s_hg g) (some (.int z.1)) (s_hg z.2) := by
  unfold fM_readEventName_130 at hB
  refine s_Ev.fin ((?_ : ∀ (v : Option Value) (h' : s_H), (fun (z : Int32 × s_G) (v : Option Value) (h' : s_H) => v = some (.int z.1) ∧ h' = s_hg z.2) z v h' → s_Fin 4 s_m275 (0, s_ent [.ref 130] (s_m275).2.2.1, [], s_hg g) v h') _ _ ⟨rfl, rfl⟩)
  intro v h' hr
  refine (show s_Fin 4 s_m275 (0, [some (.ref 130)], [], s_hg g) v h' from ?_)
  refine s_Fin.sg 6 (y := (9, [some (.ref 130)], [.int (g.1 132 1), .int (7 : Int32), .ref 130], s_hg g)) rfl ?_
  obtain ⟨v2, g1, hp, hB⟩ := s_bd2 hB
  refine s_Fin.cl (d := 3) (q1 := s_m262) (md := 262) (vs := [.ref 130, .int (7 : Int32), .int (g.1 132 1)]) (rest := []) (h1 := s_hg g1) (u := some (.int v2)) (s_Ev.up (by omega) (fM_readNamed_130_s hp)) rfl rfl rfl rfl ?_
  have hc : v2 = 0 ∨ v2 = 1 := Classical.byContradiction fun h => (by rw [if_neg h] at hB; cases hB)
  rw [if_pos hc] at hB
  have hB := Option.some.inj hB
  subst hB
  obtain ⟨rfl, rfl⟩ := hr
  exact s_Fin.rt (by rcases hc with hc | hc <;> rw [hc] <;> exact rfl) rfl
-- CampAshesModel.readOf
noncomputable def fM_readOf_130 (x1 : Int32) (g : s_G) : Option (Int32 × s_G) :=
  s_b2 (fM_readEventName_130 g) fun v2 g1 => if v2 = 0 then (some ((0 : Int32), g1))
  else s_b2 (fM_saysOne_130 ((50 : Int32) + x1) (g1.1 130 13) (0 : Int32) (0 : Int32) g1) fun v4 g3 => some ((1 : Int32), (s_si g3 130 47 v4))
theorem fM_readOf_130_s {x1 : Int32} {g : s_G} {z : Int32 × s_G} (hB : fM_readOf_130 x1 g = some z) : s_Ev 5 s_m274 [.ref 130, .int x1] (s_hg g) (some (.int z.1)) (s_hg z.2) := by
  unfold fM_readOf_130 at hB
  refine s_Ev.fin ((?_ : ∀ (v : Option Value) (h' : s_H), (fun (z : Int32 × s_G) (v : Option Value) (h' : s_H) => v = some (.int z.1) ∧ h' = s_hg z.2) z v h' → s_Fin 5 s_m274 (0, s_ent [.ref 130, .int x1] (s_m274).2.2.1, [], s_hg g) v h') _ _ ⟨rfl, rfl⟩)
  intro v h' hr
  refine (show s_Fin 5 s_m274 (0, [some (.ref 130), some (.int x1)], [], s_hg g) v h' from ?_)
  refine s_Fin.sg 1 (y := (1, [some (.ref 130), some (.int x1)], [.ref 130], s_hg g)) rfl ?_
  obtain ⟨v2, g1, hp, hB⟩ := s_bd2 hB
  refine s_Fin.cl (d := 4) (q1 := s_m275) (md := 275) (vs := [.ref 130]) (rest := []) (h1 := s_hg g1) (u := some (.int v2)) (s_Ev.up (by omega) (fM_readEventName_130_s hp)) rfl rfl rfl rfl ?_
  by_cases hc : v2 = 0
  · rw [if_pos hc] at hB
    refine s_Fin.bf (c := ¬ v2 = 0) (tg := 9) (p2 := 4) (L1 := [some (.ref 130), some (.int x1)]) (st1 := []) (fun h => h hc) rfl ?_
    refine s_Fin.sg 1 (y := (8, [some (.ref 130), some (.int x1)], [.int (0 : Int32)], s_hg g1)) rfl ?_
    have hB := Option.some.inj hB
    subst hB
    obtain ⟨rfl, rfl⟩ := hr
    exact s_Fin.rt rfl rfl
  · rw [if_neg hc] at hB
    refine s_Fin.bt (c := ¬ v2 = 0) (tg := 9) (p2 := 4) (L1 := [some (.ref 130), some (.int x1)]) (st1 := []) hc rfl ?_
    refine s_Fin.sg 9 (y := (21, [some (.ref 130), some (.int x1)], [.int (0 : Int32), .int (0 : Int32), .int (g1.1 130 13), .int ((50 : Int32) + x1), .ref 130, .ref 130], s_hg g1)) rfl ?_
    obtain ⟨v4, g3, hp, hB⟩ := s_bd2 hB
    refine s_Fin.cl (d := 4) (q1 := s_m273) (md := 273) (vs := [.ref 130, .int ((50 : Int32) + x1), .int (g1.1 130 13), .int (0 : Int32), .int (0 : Int32)]) (rest := [.ref 130]) (h1 := s_hg g3) (u := some (.int v4)) (s_Ev.up (by omega) (fM_saysOne_130_s hp)) rfl rfl rfl rfl ?_
    refine s_Fin.sg 2 (y := (28, [some (.ref 130), some (.int x1)], [.int (1 : Int32)], s_hg (s_si g3 130 47 v4))) rfl ?_
    have hB := Option.some.inj hB
    subst hB
    obtain ⟨rfl, rfl⟩ := hr
    exact s_Fin.rt rfl rfl
-- CampAshesModel.readCompare
noncomputable def fM_readCompare_130_33 (x1 : Int32) (g : s_G) : Option (Int32 × s_G) :=
  s_b1 (fM_go_130 g) fun g6 => s_b2 (fM_readNumber_130 (0 : Int32) (999 : Int32) g6) fun v8 g7 => if v8 = 0 then (some ((0 : Int32), g7))
  else s_b2 (fM_saysOne_130 ((50 : Int32) + x1) (0 : Int32) (g7.1 130 13) (g.1 130 9) g7) fun v10 g9 => some ((1 : Int32), (s_si g9 130 47 v10))
theorem fM_readCompare_130_33_s {x1 : Int32} {g : s_G} {z : Int32 × s_G} (hB : fM_readCompare_130_33 x1 g = some z) {v : Option Value} {h' : s_H} (hr : (fun (z : Int32 × s_G) (v : Option Value) (h' : s_H) => v = some (.int z.1) ∧ h' = s_hg z.2) z v h') : s_Fin 3 s_m276 (33, [some (.ref 130), some (.int x1), none], [], s_hg g) v h' := by
  unfold fM_readCompare_130_33 at hB
  refine s_Fin.sg 4 (y := (39, [some (.ref 130), some (.int x1), some (.int (g.1 130 9))], [.ref 130], s_hg g)) rfl ?_
  obtain ⟨g6, hp, hB⟩ := s_bd hB
  refine s_Fin.cl (d := 2) (q1 := s_m166) (md := 166) (vs := [.ref 130]) (rest := []) (h1 := s_hg g6) (u := none) (s_Ev.up (by omega) (fM_go_130_s hp)) rfl rfl rfl rfl ?_
  refine s_Fin.sg 3 (y := (47, [some (.ref 130), some (.int x1), some (.int (g.1 130 9))], [.int (999 : Int32), .int (0 : Int32), .ref 130], s_hg g6)) rfl ?_
  obtain ⟨v8, g7, hp, hB⟩ := s_bd2 hB
  refine s_Fin.cl (d := 2) (q1 := s_m180) (md := 180) (vs := [.ref 130, .int (0 : Int32), .int (999 : Int32)]) (rest := []) (h1 := s_hg g7) (u := some (.int v8)) (s_Ev.up (by omega) (fM_readNumber_130_s hp)) rfl rfl rfl rfl ?_
  by_cases hc : v8 = 0
  · rw [if_pos hc] at hB
    refine s_Fin.bf (c := ¬ v8 = 0) (tg := 55) (p2 := 50) (L1 := [some (.ref 130), some (.int x1), some (.int (g.1 130 9))]) (st1 := []) (fun h => h hc) rfl ?_
    refine s_Fin.sg 1 (y := (54, [some (.ref 130), some (.int x1), some (.int (g.1 130 9))], [.int (0 : Int32)], s_hg g7)) rfl ?_
    have hB := Option.some.inj hB
    subst hB
    obtain ⟨rfl, rfl⟩ := hr
    exact s_Fin.rt rfl rfl
  · rw [if_neg hc] at hB
    refine s_Fin.bt (c := ¬ v8 = 0) (tg := 55) (p2 := 50) (L1 := [some (.ref 130), some (.int x1), some (.int (g.1 130 9))]) (st1 := []) hc rfl ?_
    refine s_Fin.sg 9 (y := (67, [some (.ref 130), some (.int x1), some (.int (g.1 130 9))], [.int (g.1 130 9), .int (g7.1 130 13), .int (0 : Int32), .int ((50 : Int32) + x1), .ref 130, .ref 130], s_hg g7)) rfl ?_
    obtain ⟨v10, g9, hp, hB⟩ := s_bd2 hB
    refine s_Fin.cl (d := 2) (q1 := s_m273) (md := 273) (vs := [.ref 130, .int ((50 : Int32) + x1), .int (0 : Int32), .int (g7.1 130 13), .int (g.1 130 9)]) (rest := [.ref 130]) (h1 := s_hg g9) (u := some (.int v10)) (s_Ev.up (by omega) (fM_saysOne_130_s hp)) rfl rfl rfl rfl ?_
    refine s_Fin.sg 2 (y := (74, [some (.ref 130), some (.int x1), some (.int (g.1 130 9))], [.int (1 : Int32)], s_hg (s_si g9 130 47 v10))) rfl ?_
    have hB := Option.some.inj hB
    subst hB
    obtain ⟨rfl, rfl⟩ := hr
    exact s_Fin.rt rfl rfl
noncomputable def fM_readCompare_130 (x1 : Int32) (g : s_G) : Option (Int32 × s_G) :=
  s_b1 (fM_isSign_130 (60 : Int32) g) fun v1 => if v1 = 0 then (s_b1 (fM_isSign_130 (61 : Int32) g) fun v2 => if v2 = 0 then (s_b1 (fM_isSign_130 (62 : Int32) g) fun v3 => if v3 = 0 then (s_b2 (fM_bad_130 (1 : Int32) g) fun v5 g4 => if v5 = 0 ∨ v5 = 1 then some (v5, g4)
  else none)
  else fM_readCompare_130_33 x1 g)
  else fM_readCompare_130_33 x1 g)
  else fM_readCompare_130_33 x1 g
theorem fM_readCompare_130_s {x1 : Int32} {g : s_G} {z : Int32 × s_G} (hB : fM_readCompare_130 x1 g = some z) : s_Ev 3 s_m276 [.ref 130, .int x1] (s_hg g) (some (.int z.1)) (s_hg z.2) := by
  unfold fM_readCompare_130 at hB
  refine s_Ev.fin ((?_ : ∀ (v : Option Value) (h' : s_H), (fun (z : Int32 × s_G) (v : Option Value) (h' : s_H) => v = some (.int z.1) ∧ h' = s_hg z.2) z v h' → s_Fin 3 s_m276 (0, s_ent [.ref 130, .int x1] (s_m276).2.2.1, [], s_hg g) v h') _ _ ⟨rfl, rfl⟩)
  intro v h' hr
  refine (show s_Fin 3 s_m276 (0, [some (.ref 130), some (.int x1), none], [], s_hg g) v h' from ?_)
  refine s_Fin.sg 2 (y := (3, [some (.ref 130), some (.int x1), none], [.int (60 : Int32), .ref 130], s_hg g)) rfl ?_
  obtain ⟨v1, hp, hB⟩ := s_bd hB
  refine s_Fin.cl (d := 2) (q1 := s_m189) (md := 189) (vs := [.ref 130, .int (60 : Int32)]) (rest := []) (h1 := s_hg g) (u := some (.int v1)) (s_Ev.up (by omega) (fM_isSign_130_s hp)) rfl rfl rfl rfl ?_
  by_cases hc : v1 = 0
  · rw [if_pos hc] at hB
    refine s_Fin.bf (c := ¬ v1 = 0) (tg := 33) (p2 := 6) (L1 := [some (.ref 130), some (.int x1), none]) (st1 := []) (fun h => h hc) rfl ?_
    refine s_Fin.sg 2 (y := (12, [some (.ref 130), some (.int x1), none], [.int (61 : Int32), .ref 130], s_hg g)) rfl ?_
    obtain ⟨v2, hp, hB⟩ := s_bd hB
    refine s_Fin.cl (d := 2) (q1 := s_m189) (md := 189) (vs := [.ref 130, .int (61 : Int32)]) (rest := []) (h1 := s_hg g) (u := some (.int v2)) (s_Ev.up (by omega) (fM_isSign_130_s hp)) rfl rfl rfl rfl ?_
    by_cases hc : v2 = 0
    · rw [if_pos hc] at hB
      refine s_Fin.bf (c := ¬ v2 = 0) (tg := 33) (p2 := 15) (L1 := [some (.ref 130), some (.int x1), none]) (st1 := []) (fun h => h hc) rfl ?_
      refine s_Fin.sg 2 (y := (21, [some (.ref 130), some (.int x1), none], [.int (62 : Int32), .ref 130], s_hg g)) rfl ?_
      obtain ⟨v3, hp, hB⟩ := s_bd hB
      refine s_Fin.cl (d := 2) (q1 := s_m189) (md := 189) (vs := [.ref 130, .int (62 : Int32)]) (rest := []) (h1 := s_hg g) (u := some (.int v3)) (s_Ev.up (by omega) (fM_isSign_130_s hp)) rfl rfl rfl rfl ?_
      by_cases hc : v3 = 0
      · rw [if_pos hc] at hB
        refine s_Fin.bf (c := ¬ v3 = 0) (tg := 33) (p2 := 24) (L1 := [some (.ref 130), some (.int x1), none]) (st1 := []) (fun h => h hc) rfl ?_
        refine s_Fin.sg 2 (y := (29, [some (.ref 130), some (.int x1), none], [.int (1 : Int32), .ref 130], s_hg g)) rfl ?_
        obtain ⟨v5, g4, hp, hB⟩ := s_bd2 hB
        refine s_Fin.cl (d := 2) (q1 := s_m176) (md := 176) (vs := [.ref 130, .int (1 : Int32)]) (rest := []) (h1 := s_hg g4) (u := some (.int v5)) (s_Ev.up (by omega) (fM_bad_130_s hp)) rfl rfl rfl rfl ?_
        have hc : v5 = 0 ∨ v5 = 1 := Classical.byContradiction fun h => (by rw [if_neg h] at hB; cases hB)
        rw [if_pos hc] at hB
        have hB := Option.some.inj hB
        subst hB
        obtain ⟨rfl, rfl⟩ := hr
        exact s_Fin.rt (by rcases hc with hc | hc <;> rw [hc] <;> exact rfl) rfl
      · rw [if_neg hc] at hB
        refine s_Fin.bt (c := ¬ v3 = 0) (tg := 33) (p2 := 24) (L1 := [some (.ref 130), some (.int x1), none]) (st1 := []) hc rfl ?_
        exact s_Fin.more (L := [some (.ref 130), some (.int x1), none]) ⟨Or.inr rfl, Or.inr rfl, Or.inl rfl, trivial⟩ (fM_readCompare_130_33_s hB hr)
    · rw [if_neg hc] at hB
      refine s_Fin.bt (c := ¬ v2 = 0) (tg := 33) (p2 := 15) (L1 := [some (.ref 130), some (.int x1), none]) (st1 := []) hc rfl ?_
      exact s_Fin.more (L := [some (.ref 130), some (.int x1), none]) ⟨Or.inr rfl, Or.inr rfl, Or.inl rfl, trivial⟩ (fM_readCompare_130_33_s hB hr)
  · rw [if_neg hc] at hB
    refine s_Fin.bt (c := ¬ v1 = 0) (tg := 33) (p2 := 6) (L1 := [some (.ref 130), some (.int x1), none]) (st1 := []) hc rfl ?_
    exact s_Fin.more (L := [some (.ref 130), some (.int x1), none]) ⟨Or.inr rfl, Or.inr rfl, Or.inl rfl, trivial⟩ (fM_readCompare_130_33_s hB hr)
-- CampAshesModel.readAnd
noncomputable def fM_readAnd_130_14 (K : s_G → Option (Int32 × s_G)) (x1 : Int32) (g : s_G) : Option ((Int32 × s_G) ⊕ (Int32 × s_G)) :=
  s_b1 (fM_isWord_130 (18 : Int32) g) fun v3 => if v3 = 0 then (s_in (some ((1 : Int32), (s_si g 130 47 x1))))
  else s_b1 (fM_go_130 g) fun g4 => s_b2 (K g4) fun v6 g5 => if v6 = 0 then (s_in (some ((0 : Int32), g5)))
  else s_b2 (fM_saysOne_130 (2 : Int32) x1 (g5.1 130 47) (0 : Int32) g5) fun v8 g7 => some (.inl (v8, g7))
theorem fM_readAnd_130_14_s {K : s_G → Option (Int32 × s_G)} {e : Nat} (he : 40 ≤ e) (hK : ∀ (g : s_G) (z : Int32 × s_G), K g = some z → s_Ev e s_m270 [.ref 130] (s_hg g) (some (.int z.1)) (s_hg z.2)) {x1 : Int32} {g : s_G} {z : (Int32 × s_G) ⊕ (Int32 × s_G)} (hB : fM_readAnd_130_14 K x1 g = some z) {v : Option Value} {h' : s_H} (hr : (s_sm (fun (x : Int32 × s_G) (v : Option Value) (h' : s_H) => s_Fin (e + 1) s_m269 (14, [some (.ref 130), some (.int x.1)], [], s_hg x.2) v h') (fun (z : Int32 × s_G) (v : Option Value) (h' : s_H) => v = some (.int z.1) ∧ h' = s_hg z.2)) z v h') : s_Fin (e + 1) s_m269 (14, [some (.ref 130), some (.int x1)], [], s_hg g) v h' := by
  unfold fM_readAnd_130_14 at hB
  refine s_Fin.sg 2 (y := (17, [some (.ref 130), some (.int x1)], [.int (18 : Int32), .ref 130], s_hg g)) rfl ?_
  obtain ⟨v3, hp, hB⟩ := s_bd hB
  refine s_Fin.cl (d := e + 0) (q1 := s_m171) (md := 171) (vs := [.ref 130, .int (18 : Int32)]) (rest := []) (h1 := s_hg g) (u := some (.int v3)) (s_Ev.up (by omega) (fM_isWord_130_s hp)) rfl rfl rfl rfl ?_
  by_cases hc : v3 = 0
  · rw [if_pos hc] at hB
    refine s_Fin.bt (c := v3 = 0) (tg := 51) (p2 := 20) (L1 := [some (.ref 130), some (.int x1)]) (st1 := []) hc rfl ?_
    obtain ⟨_, hN, hz⟩ := s_in_of hB
    subst hz
    have hB := hN
    refine s_Fin.sg 4 (y := (57, [some (.ref 130), some (.int x1)], [.int (1 : Int32)], s_hg (s_si g 130 47 x1))) rfl ?_
    have hB := Option.some.inj hB
    subst hB
    obtain ⟨rfl, rfl⟩ := hr
    exact s_Fin.rt rfl rfl
  · rw [if_neg hc] at hB
    refine s_Fin.bf (c := v3 = 0) (tg := 51) (p2 := 20) (L1 := [some (.ref 130), some (.int x1)]) (st1 := []) hc rfl ?_
    refine s_Fin.sg 1 (y := (24, [some (.ref 130), some (.int x1)], [.ref 130], s_hg g)) rfl ?_
    obtain ⟨g4, hp, hB⟩ := s_bd hB
    refine s_Fin.cl (d := e + 0) (q1 := s_m166) (md := 166) (vs := [.ref 130]) (rest := []) (h1 := s_hg g4) (u := none) (s_Ev.up (by omega) (fM_go_130_s hp)) rfl rfl rfl rfl ?_
    refine s_Fin.sg 1 (y := (28, [some (.ref 130), some (.int x1)], [.ref 130], s_hg g4)) rfl ?_
    obtain ⟨v6, g5, hp, hB⟩ := s_bd2 hB
    refine s_Fin.cl (d := e + 0) (q1 := s_m270) (md := 270) (vs := [.ref 130]) (rest := []) (h1 := s_hg g5) (u := some (.int v6)) (s_Ev.up (by omega) (hK _ _ hp)) rfl rfl rfl rfl ?_
    by_cases hc : v6 = 0
    · rw [if_pos hc] at hB
      refine s_Fin.bf (c := ¬ v6 = 0) (tg := 36) (p2 := 31) (L1 := [some (.ref 130), some (.int x1)]) (st1 := []) (fun h => h hc) rfl ?_
      obtain ⟨_, hN, hz⟩ := s_in_of hB
      subst hz
      have hB := hN
      refine s_Fin.sg 1 (y := (35, [some (.ref 130), some (.int x1)], [.int (0 : Int32)], s_hg g5)) rfl ?_
      have hB := Option.some.inj hB
      subst hB
      obtain ⟨rfl, rfl⟩ := hr
      exact s_Fin.rt rfl rfl
    · rw [if_neg hc] at hB
      refine s_Fin.bt (c := ¬ v6 = 0) (tg := 36) (p2 := 31) (L1 := [some (.ref 130), some (.int x1)]) (st1 := []) hc rfl ?_
      refine s_Fin.sg 6 (y := (44, [some (.ref 130), some (.int x1)], [.int (0 : Int32), .int (g5.1 130 47), .int x1, .int (2 : Int32), .ref 130], s_hg g5)) rfl ?_
      obtain ⟨v8, g7, hp, hB⟩ := s_bd2 hB
      refine s_Fin.cl (d := e + 0) (q1 := s_m273) (md := 273) (vs := [.ref 130, .int (2 : Int32), .int x1, .int (g5.1 130 47), .int (0 : Int32)]) (rest := []) (h1 := s_hg g7) (u := some (.int v8)) (s_Ev.up (by omega) (fM_saysOne_130_s hp)) rfl rfl rfl rfl ?_
      refine s_Fin.sg 2 (y := (14, [some (.ref 130), some (.int v8)], [], s_hg g7)) rfl ?_
      have hB := Option.some.inj hB
      subst hB
      exact s_Fin.more (L := [some (.ref 130), some (.int v8)]) ⟨Or.inr rfl, Or.inr rfl, trivial⟩ hr
noncomputable def fM_readAnd_130 (K : s_G → Option (Int32 × s_G)) (g : s_G) : Option (Int32 × s_G) :=
  s_b2 (K g) fun v2 g1 => if v2 = 0 then (some ((0 : Int32), g1))
  else s_lp (fun x => fM_readAnd_130_14 K x.1 x.2) (g1.1 130 47, g1)
theorem fM_readAnd_130_s {K : s_G → Option (Int32 × s_G)} {e : Nat} (he : 40 ≤ e) (hK : ∀ (g : s_G) (z : Int32 × s_G), K g = some z → s_Ev e s_m270 [.ref 130] (s_hg g) (some (.int z.1)) (s_hg z.2)) {g : s_G} {z : Int32 × s_G} (hB : fM_readAnd_130 K g = some z) : s_Ev (e + 1) s_m269 [.ref 130] (s_hg g) (some (.int z.1)) (s_hg z.2) := by
  unfold fM_readAnd_130 at hB
  refine s_Ev.fin ((?_ : ∀ (v : Option Value) (h' : s_H), (fun (z : Int32 × s_G) (v : Option Value) (h' : s_H) => v = some (.int z.1) ∧ h' = s_hg z.2) z v h' → s_Fin (e + 1) s_m269 (0, s_ent [.ref 130] (s_m269).2.2.1, [], s_hg g) v h') _ _ ⟨rfl, rfl⟩)
  intro v h' hr
  refine (show s_Fin (e + 1) s_m269 (0, [some (.ref 130), none], [], s_hg g) v h' from ?_)
  refine s_Fin.sg 1 (y := (1, [some (.ref 130), none], [.ref 130], s_hg g)) rfl ?_
  obtain ⟨v2, g1, hp, hB⟩ := s_bd2 hB
  refine s_Fin.cl (d := e + 0) (q1 := s_m270) (md := 270) (vs := [.ref 130]) (rest := []) (h1 := s_hg g1) (u := some (.int v2)) (s_Ev.up (by omega) (hK _ _ hp)) rfl rfl rfl rfl ?_
  by_cases hc : v2 = 0
  · rw [if_pos hc] at hB
    refine s_Fin.bf (c := ¬ v2 = 0) (tg := 9) (p2 := 4) (L1 := [some (.ref 130), none]) (st1 := []) (fun h => h hc) rfl ?_
    refine s_Fin.sg 1 (y := (8, [some (.ref 130), none], [.int (0 : Int32)], s_hg g1)) rfl ?_
    have hB := Option.some.inj hB
    subst hB
    obtain ⟨rfl, rfl⟩ := hr
    exact s_Fin.rt rfl rfl
  · rw [if_neg hc] at hB
    refine s_Fin.bt (c := ¬ v2 = 0) (tg := 9) (p2 := 4) (L1 := [some (.ref 130), none]) (st1 := []) hc rfl ?_
    refine s_Fin.sg 3 (y := (14, [some (.ref 130), some (.int (g1.1 130 47))], [], s_hg g1)) rfl ?_
    exact s_Fin.more (L := [some (.ref 130), some (.int (g1.1 130 47))]) ⟨Or.inr rfl, Or.inr rfl, trivial⟩ (s_lp_s (P := (fun (x : Int32 × s_G) (v : Option Value) (h' : s_H) => s_Fin (e + 1) s_m269 (14, [some (.ref 130), some (.int x.1)], [], s_hg x.2) v h')) (Q := (fun (z : Int32 × s_G) (v : Option Value) (h' : s_H) => v = some (.int z.1) ∧ h' = s_hg z.2)) (fun x z hB v h' hr => fM_readAnd_130_14_s he hK hB hr) hB _ _ hr)
-- CampAshesModel.readOr
noncomputable def fM_readOr_130_14 (K : s_G → Option (Int32 × s_G)) (x1 : Int32) (g : s_G) : Option ((Int32 × s_G) ⊕ (Int32 × s_G)) :=
  s_b1 (fM_isWord_130 (17 : Int32) g) fun v3 => if v3 = 0 then (s_in (some ((1 : Int32), (s_si g 130 47 x1))))
  else s_b1 (fM_go_130 g) fun g4 => s_b2 (fM_readAnd_130 K g4) fun v6 g5 => if v6 = 0 then (s_in (some ((0 : Int32), g5)))
  else s_b2 (fM_saysOne_130 (3 : Int32) x1 (g5.1 130 47) (0 : Int32) g5) fun v8 g7 => some (.inl (v8, g7))
theorem fM_readOr_130_14_s {K : s_G → Option (Int32 × s_G)} {e : Nat} (he : 40 ≤ e) (hK : ∀ (g : s_G) (z : Int32 × s_G), K g = some z → s_Ev e s_m270 [.ref 130] (s_hg g) (some (.int z.1)) (s_hg z.2)) {x1 : Int32} {g : s_G} {z : (Int32 × s_G) ⊕ (Int32 × s_G)} (hB : fM_readOr_130_14 K x1 g = some z) {v : Option Value} {h' : s_H} (hr : (s_sm (fun (x : Int32 × s_G) (v : Option Value) (h' : s_H) => s_Fin (e + 2) s_m268 (14, [some (.ref 130), some (.int x.1)], [], s_hg x.2) v h') (fun (z : Int32 × s_G) (v : Option Value) (h' : s_H) => v = some (.int z.1) ∧ h' = s_hg z.2)) z v h') : s_Fin (e + 2) s_m268 (14, [some (.ref 130), some (.int x1)], [], s_hg g) v h' := by
  unfold fM_readOr_130_14 at hB
  refine s_Fin.sg 2 (y := (17, [some (.ref 130), some (.int x1)], [.int (17 : Int32), .ref 130], s_hg g)) rfl ?_
  obtain ⟨v3, hp, hB⟩ := s_bd hB
  refine s_Fin.cl (d := e + 1) (q1 := s_m171) (md := 171) (vs := [.ref 130, .int (17 : Int32)]) (rest := []) (h1 := s_hg g) (u := some (.int v3)) (s_Ev.up (by omega) (fM_isWord_130_s hp)) rfl rfl rfl rfl ?_
  by_cases hc : v3 = 0
  · rw [if_pos hc] at hB
    refine s_Fin.bt (c := v3 = 0) (tg := 51) (p2 := 20) (L1 := [some (.ref 130), some (.int x1)]) (st1 := []) hc rfl ?_
    obtain ⟨_, hN, hz⟩ := s_in_of hB
    subst hz
    have hB := hN
    refine s_Fin.sg 4 (y := (57, [some (.ref 130), some (.int x1)], [.int (1 : Int32)], s_hg (s_si g 130 47 x1))) rfl ?_
    have hB := Option.some.inj hB
    subst hB
    obtain ⟨rfl, rfl⟩ := hr
    exact s_Fin.rt rfl rfl
  · rw [if_neg hc] at hB
    refine s_Fin.bf (c := v3 = 0) (tg := 51) (p2 := 20) (L1 := [some (.ref 130), some (.int x1)]) (st1 := []) hc rfl ?_
    refine s_Fin.sg 1 (y := (24, [some (.ref 130), some (.int x1)], [.ref 130], s_hg g)) rfl ?_
    obtain ⟨g4, hp, hB⟩ := s_bd hB
    refine s_Fin.cl (d := e + 1) (q1 := s_m166) (md := 166) (vs := [.ref 130]) (rest := []) (h1 := s_hg g4) (u := none) (s_Ev.up (by omega) (fM_go_130_s hp)) rfl rfl rfl rfl ?_
    refine s_Fin.sg 1 (y := (28, [some (.ref 130), some (.int x1)], [.ref 130], s_hg g4)) rfl ?_
    obtain ⟨v6, g5, hp, hB⟩ := s_bd2 hB
    refine s_Fin.cl (d := e + 1) (q1 := s_m269) (md := 269) (vs := [.ref 130]) (rest := []) (h1 := s_hg g5) (u := some (.int v6)) (s_Ev.up (by omega) (fM_readAnd_130_s he hK hp)) rfl rfl rfl rfl ?_
    by_cases hc : v6 = 0
    · rw [if_pos hc] at hB
      refine s_Fin.bf (c := ¬ v6 = 0) (tg := 36) (p2 := 31) (L1 := [some (.ref 130), some (.int x1)]) (st1 := []) (fun h => h hc) rfl ?_
      obtain ⟨_, hN, hz⟩ := s_in_of hB
      subst hz
      have hB := hN
      refine s_Fin.sg 1 (y := (35, [some (.ref 130), some (.int x1)], [.int (0 : Int32)], s_hg g5)) rfl ?_
      have hB := Option.some.inj hB
      subst hB
      obtain ⟨rfl, rfl⟩ := hr
      exact s_Fin.rt rfl rfl
    · rw [if_neg hc] at hB
      refine s_Fin.bt (c := ¬ v6 = 0) (tg := 36) (p2 := 31) (L1 := [some (.ref 130), some (.int x1)]) (st1 := []) hc rfl ?_
      refine s_Fin.sg 6 (y := (44, [some (.ref 130), some (.int x1)], [.int (0 : Int32), .int (g5.1 130 47), .int x1, .int (3 : Int32), .ref 130], s_hg g5)) rfl ?_
      obtain ⟨v8, g7, hp, hB⟩ := s_bd2 hB
      refine s_Fin.cl (d := e + 1) (q1 := s_m273) (md := 273) (vs := [.ref 130, .int (3 : Int32), .int x1, .int (g5.1 130 47), .int (0 : Int32)]) (rest := []) (h1 := s_hg g7) (u := some (.int v8)) (s_Ev.up (by omega) (fM_saysOne_130_s hp)) rfl rfl rfl rfl ?_
      refine s_Fin.sg 2 (y := (14, [some (.ref 130), some (.int v8)], [], s_hg g7)) rfl ?_
      have hB := Option.some.inj hB
      subst hB
      exact s_Fin.more (L := [some (.ref 130), some (.int v8)]) ⟨Or.inr rfl, Or.inr rfl, trivial⟩ hr
noncomputable def fM_readOr_130 (K : s_G → Option (Int32 × s_G)) (g : s_G) : Option (Int32 × s_G) :=
  s_b2 (fM_readAnd_130 K g) fun v2 g1 => if v2 = 0 then (some ((0 : Int32), g1))
  else s_lp (fun x => fM_readOr_130_14 K x.1 x.2) (g1.1 130 47, g1)
theorem fM_readOr_130_s {K : s_G → Option (Int32 × s_G)} {e : Nat} (he : 40 ≤ e) (hK : ∀ (g : s_G) (z : Int32 × s_G), K g = some z → s_Ev e s_m270 [.ref 130] (s_hg g) (some (.int z.1)) (s_hg z.2)) {g : s_G} {z : Int32 × s_G} (hB : fM_readOr_130 K g = some z) : s_Ev (e + 2) s_m268 [.ref 130] (s_hg g) (some (.int z.1)) (s_hg z.2) := by
  unfold fM_readOr_130 at hB
  refine s_Ev.fin ((?_ : ∀ (v : Option Value) (h' : s_H), (fun (z : Int32 × s_G) (v : Option Value) (h' : s_H) => v = some (.int z.1) ∧ h' = s_hg z.2) z v h' → s_Fin (e + 2) s_m268 (0, s_ent [.ref 130] (s_m268).2.2.1, [], s_hg g) v h') _ _ ⟨rfl, rfl⟩)
  intro v h' hr
  refine (show s_Fin (e + 2) s_m268 (0, [some (.ref 130), none], [], s_hg g) v h' from ?_)
  refine s_Fin.sg 1 (y := (1, [some (.ref 130), none], [.ref 130], s_hg g)) rfl ?_
  obtain ⟨v2, g1, hp, hB⟩ := s_bd2 hB
  refine s_Fin.cl (d := e + 1) (q1 := s_m269) (md := 269) (vs := [.ref 130]) (rest := []) (h1 := s_hg g1) (u := some (.int v2)) (s_Ev.up (by omega) (fM_readAnd_130_s he hK hp)) rfl rfl rfl rfl ?_
  by_cases hc : v2 = 0
  · rw [if_pos hc] at hB
    refine s_Fin.bf (c := ¬ v2 = 0) (tg := 9) (p2 := 4) (L1 := [some (.ref 130), none]) (st1 := []) (fun h => h hc) rfl ?_
    refine s_Fin.sg 1 (y := (8, [some (.ref 130), none], [.int (0 : Int32)], s_hg g1)) rfl ?_
    have hB := Option.some.inj hB
    subst hB
    obtain ⟨rfl, rfl⟩ := hr
    exact s_Fin.rt rfl rfl
  · rw [if_neg hc] at hB
    refine s_Fin.bt (c := ¬ v2 = 0) (tg := 9) (p2 := 4) (L1 := [some (.ref 130), none]) (st1 := []) hc rfl ?_
    refine s_Fin.sg 3 (y := (14, [some (.ref 130), some (.int (g1.1 130 47))], [], s_hg g1)) rfl ?_
    exact s_Fin.more (L := [some (.ref 130), some (.int (g1.1 130 47))]) ⟨Or.inr rfl, Or.inr rfl, trivial⟩ (s_lp_s (P := (fun (x : Int32 × s_G) (v : Option Value) (h' : s_H) => s_Fin (e + 2) s_m268 (14, [some (.ref 130), some (.int x.1)], [], s_hg x.2) v h')) (Q := (fun (z : Int32 × s_G) (v : Option Value) (h' : s_H) => v = some (.int z.1) ∧ h' = s_hg z.2)) (fun x z hB v h' hr => fM_readOr_130_14_s he hK hB hr) hB _ _ hr)
-- CampAshesModel.readBracket
noncomputable def fM_readBracket_130 (K : s_G → Option (Int32 × s_G)) (g : s_G) : Option (Int32 × s_G) :=
  s_b2 (fM_readOr_130 K g) fun v2 g1 => if v2 = 0 then (some ((0 : Int32), g1))
  else s_b1 (fM_isSign_130 (41 : Int32) g1) fun v3 => if v3 = 0 then (s_b2 (fM_bad_130 (1 : Int32) g1) fun v5 g4 => if v5 = 0 ∨ v5 = 1 then some (v5, g4)
  else none)
  else s_b1 (fM_go_130 g1) fun g6 => some ((1 : Int32), g6)
theorem fM_readBracket_130_s {K : s_G → Option (Int32 × s_G)} {e : Nat} (he : 40 ≤ e) (hK : ∀ (g : s_G) (z : Int32 × s_G), K g = some z → s_Ev e s_m270 [.ref 130] (s_hg g) (some (.int z.1)) (s_hg z.2)) {g : s_G} {z : Int32 × s_G} (hB : fM_readBracket_130 K g = some z) : s_Ev (e + 3) s_m271 [.ref 130] (s_hg g) (some (.int z.1)) (s_hg z.2) := by
  unfold fM_readBracket_130 at hB
  refine s_Ev.fin ((?_ : ∀ (v : Option Value) (h' : s_H), (fun (z : Int32 × s_G) (v : Option Value) (h' : s_H) => v = some (.int z.1) ∧ h' = s_hg z.2) z v h' → s_Fin (e + 3) s_m271 (0, s_ent [.ref 130] (s_m271).2.2.1, [], s_hg g) v h') _ _ ⟨rfl, rfl⟩)
  intro v h' hr
  refine (show s_Fin (e + 3) s_m271 (0, [some (.ref 130)], [], s_hg g) v h' from ?_)
  refine s_Fin.sg 1 (y := (1, [some (.ref 130)], [.ref 130], s_hg g)) rfl ?_
  obtain ⟨v2, g1, hp, hB⟩ := s_bd2 hB
  refine s_Fin.cl (d := e + 2) (q1 := s_m268) (md := 268) (vs := [.ref 130]) (rest := []) (h1 := s_hg g1) (u := some (.int v2)) (s_Ev.up (by omega) (fM_readOr_130_s he hK hp)) rfl rfl rfl rfl ?_
  by_cases hc : v2 = 0
  · rw [if_pos hc] at hB
    refine s_Fin.bf (c := ¬ v2 = 0) (tg := 9) (p2 := 4) (L1 := [some (.ref 130)]) (st1 := []) (fun h => h hc) rfl ?_
    refine s_Fin.sg 1 (y := (8, [some (.ref 130)], [.int (0 : Int32)], s_hg g1)) rfl ?_
    have hB := Option.some.inj hB
    subst hB
    obtain ⟨rfl, rfl⟩ := hr
    exact s_Fin.rt rfl rfl
  · rw [if_neg hc] at hB
    refine s_Fin.bt (c := ¬ v2 = 0) (tg := 9) (p2 := 4) (L1 := [some (.ref 130)]) (st1 := []) hc rfl ?_
    refine s_Fin.sg 2 (y := (12, [some (.ref 130)], [.int (41 : Int32), .ref 130], s_hg g1)) rfl ?_
    obtain ⟨v3, hp, hB⟩ := s_bd hB
    refine s_Fin.cl (d := e + 2) (q1 := s_m189) (md := 189) (vs := [.ref 130, .int (41 : Int32)]) (rest := []) (h1 := s_hg g1) (u := some (.int v3)) (s_Ev.up (by omega) (fM_isSign_130_s hp)) rfl rfl rfl rfl ?_
    by_cases hc : v3 = 0
    · rw [if_pos hc] at hB
      refine s_Fin.bf (c := ¬ v3 = 0) (tg := 24) (p2 := 15) (L1 := [some (.ref 130)]) (st1 := []) (fun h => h hc) rfl ?_
      refine s_Fin.sg 2 (y := (20, [some (.ref 130)], [.int (1 : Int32), .ref 130], s_hg g1)) rfl ?_
      obtain ⟨v5, g4, hp, hB⟩ := s_bd2 hB
      refine s_Fin.cl (d := e + 2) (q1 := s_m176) (md := 176) (vs := [.ref 130, .int (1 : Int32)]) (rest := []) (h1 := s_hg g4) (u := some (.int v5)) (s_Ev.up (by omega) (fM_bad_130_s hp)) rfl rfl rfl rfl ?_
      have hc : v5 = 0 ∨ v5 = 1 := Classical.byContradiction fun h => (by rw [if_neg h] at hB; cases hB)
      rw [if_pos hc] at hB
      have hB := Option.some.inj hB
      subst hB
      obtain ⟨rfl, rfl⟩ := hr
      exact s_Fin.rt (by rcases hc with hc | hc <;> rw [hc] <;> exact rfl) rfl
    · rw [if_neg hc] at hB
      refine s_Fin.bt (c := ¬ v3 = 0) (tg := 24) (p2 := 15) (L1 := [some (.ref 130)]) (st1 := []) hc rfl ?_
      refine s_Fin.sg 1 (y := (25, [some (.ref 130)], [.ref 130], s_hg g1)) rfl ?_
      obtain ⟨g6, hp, hB⟩ := s_bd hB
      refine s_Fin.cl (d := e + 2) (q1 := s_m166) (md := 166) (vs := [.ref 130]) (rest := []) (h1 := s_hg g6) (u := none) (s_Ev.up (by omega) (fM_go_130_s hp)) rfl rfl rfl rfl ?_
      refine s_Fin.sg 1 (y := (29, [some (.ref 130)], [.int (1 : Int32)], s_hg g6)) rfl ?_
      have hB := Option.some.inj hB
      subst hB
      obtain ⟨rfl, rfl⟩ := hr
      exact s_Fin.rt rfl rfl
