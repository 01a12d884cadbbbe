-- CampAshesModel.book
noncomputable def fM_book_130_159 (x2 : Int32) (x3 : Int32) (g : s_G) : Option (Int32 × s_G) :=
  s_b1 (fM_stay_130 (0 : Int32) g) fun g8 => if x3 = 0 then (some ((-1 : Int32), g8))
  else some (x2, g8)
theorem fM_book_130_159_s {x2 : Int32} {x3 : Int32} {g : s_G} {z : Int32 × s_G} (hB : fM_book_130_159 x2 x3 g = some z) {v : Option Value} {h' : s_H} (hr : (fun (z : Int32 × s_G) (v : Option Value) (h' : s_H) => v = some (.int z.1) ∧ h' = s_hg z.2) z v h') : s_Fin 6 s_m259 (159, [none, none, some (.int x2), some (.int x3)], [.ref 130], s_hg g) v h' := by
  unfold fM_book_130_159 at hB
  refine s_Fin.sg 1 (y := (160, [none, none, some (.int x2), some (.int x3)], [.int (0 : Int32), .ref 130], s_hg g)) rfl ?_
  obtain ⟨g8, hp, hB⟩ := s_bd hB
  refine s_Fin.cl (d := 5) (q1 := s_m265) (md := 265) (vs := [.ref 130, .int (0 : Int32)]) (rest := []) (h1 := s_hg g8) (u := none) (s_Ev.up (by omega) (fM_stay_130_s hp)) rfl rfl rfl rfl ?_
  refine s_Fin.sg 1 (y := (164, [none, none, some (.int x2), some (.int x3)], [.int x3], s_hg g8)) rfl ?_
  by_cases hc : x3 = 0
  · rw [if_pos hc] at hB
    refine s_Fin.bf (c := ¬ x3 = 0) (tg := 171) (p2 := 164) (L1 := [none, none, some (.int x2), some (.int x3)]) (st1 := []) (fun h => h hc) rfl ?_
    refine s_Fin.sg 2 (y := (172, [none, none, some (.int x2), some (.int x3)], [.int (-1 : Int32)], s_hg g8)) rfl ?_
    have hB := Option.some.inj hB
    subst hB
    obtain ⟨rfl, rfl⟩ := hr
    exact s_Fin.rt rfl rfl
  · rw [if_neg hc] at hB
    refine s_Fin.bt (c := ¬ x3 = 0) (tg := 171) (p2 := 164) (L1 := [none, none, some (.int x2), some (.int x3)]) (st1 := []) hc rfl ?_
    refine s_Fin.sg 1 (y := (172, [none, none, some (.int x2), some (.int x3)], [.int x2], s_hg g8)) rfl ?_
    have hB := Option.some.inj hB
    subst hB
    obtain ⟨rfl, rfl⟩ := hr
    exact s_Fin.rt rfl rfl
noncomputable def fM_book_130_103 (x1 : Int32) (x2 : Int32) (x3 : Int32) (g : s_G) : Option (Int32 × s_G) :=
  s_b1 (fM_overs_130 (s_si (s_si (s_si g 150 0 x3) 150 1 x2) 150 2 (g.1 132 47))) fun v6 => if x1 = (1 : Int32) then (if 0 < x2 then (s_b1 (fM_stay_130 (1 : Int32) (s_si (s_si (s_si (s_si (s_si g 150 0 x3) 150 1 x2) 150 2 (g.1 132 47)) 150 3 v6) 130 42 (1 : Int32))) fun g7 => if x3 = 0 then (some ((-1 : Int32), g7))
  else some (x2, g7))
  else fM_book_130_159 x2 x3 (s_si (s_si (s_si (s_si (s_si g 150 0 x3) 150 1 x2) 150 2 (g.1 132 47)) 150 3 v6) 130 42 (1 : Int32)))
  else fM_book_130_159 x2 x3 (s_si (s_si (s_si (s_si (s_si g 150 0 x3) 150 1 x2) 150 2 (g.1 132 47)) 150 3 v6) 130 42 (1 : Int32))
theorem fM_book_130_103_s {x1 : Int32} {x2 : Int32} {x3 : Int32} {g : s_G} {z : Int32 × s_G} (hB : fM_book_130_103 x1 x2 x3 g = some z) {v : Option Value} {h' : s_H} (hr : (fun (z : Int32 × s_G) (v : Option Value) (h' : s_H) => v = some (.int z.1) ∧ h' = s_hg z.2) z v h') : s_Fin 6 s_m259 (103, [some (.ref 130), some (.int x1), some (.int x2), some (.int x3)], [], s_hg g) v h' := by
  unfold fM_book_130_103 at hB
  refine s_Fin.sg 22 (y := (136, [some (.ref 130), some (.int x1), some (.int x2), some (.int x3)], [.ref 130, .int (3 : Int32), .ref 150], s_hg (s_si (s_si (s_si g 150 0 x3) 150 1 x2) 150 2 (g.1 132 47)))) rfl ?_
  obtain ⟨v6, hp, hB⟩ := s_bd hB
  refine s_Fin.cl (d := 5) (q1 := s_m209) (md := 209) (vs := [.ref 130]) (rest := [.int (3 : Int32), .ref 150]) (h1 := s_hg (s_si (s_si (s_si g 150 0 x3) 150 1 x2) 150 2 (g.1 132 47))) (u := some (.int v6)) (s_Ev.up (by omega) (fM_overs_130_s hp)) rfl rfl rfl rfl ?_
  refine s_Fin.sg 7 (y := (148, [some (.ref 130), some (.int x1), some (.int x2), some (.int x3)], [.int (1 : Int32), .int x1, .ref 130], s_hg (s_si (s_si (s_si (s_si (s_si g 150 0 x3) 150 1 x2) 150 2 (g.1 132 47)) 150 3 v6) 130 42 (1 : Int32)))) rfl ?_
  by_cases hc : x1 = (1 : Int32)
  · rw [if_pos hc] at hB
    refine s_Fin.bf (c := ¬ x1 = (1 : Int32)) (tg := 159) (p2 := 148) (L1 := [some (.ref 130), some (.int x1), some (.int x2), some (.int x3)]) (st1 := [.ref 130]) (fun h => h hc) rfl ?_
    refine s_Fin.sg 1 (y := (152, [some (.ref 130), some (.int x1), some (.int x2), some (.int x3)], [.int x2, .ref 130], s_hg (s_si (s_si (s_si (s_si (s_si g 150 0 x3) 150 1 x2) 150 2 (g.1 132 47)) 150 3 v6) 130 42 (1 : Int32)))) rfl ?_
    by_cases hc : 0 < x2
    · rw [if_pos hc] at hB
      refine s_Fin.bf (c := x2 ≤ 0) (tg := 159) (p2 := 152) (L1 := [some (.ref 130), some (.int x1), some (.int x2), some (.int x3)]) (st1 := [.ref 130]) (Int32.not_le.mpr hc) rfl ?_
      refine s_Fin.sg 2 (y := (160, [some (.ref 130), some (.int x1), some (.int x2), some (.int x3)], [.int (1 : Int32), .ref 130], s_hg (s_si (s_si (s_si (s_si (s_si g 150 0 x3) 150 1 x2) 150 2 (g.1 132 47)) 150 3 v6) 130 42 (1 : Int32)))) rfl ?_
      obtain ⟨g7, hp, hB⟩ := s_bd hB
      refine s_Fin.cl (d := 5) (q1 := s_m265) (md := 265) (vs := [.ref 130, .int (1 : Int32)]) (rest := []) (h1 := s_hg g7) (u := none) (s_Ev.up (by omega) (fM_stay_130_s hp)) rfl rfl rfl rfl ?_
      refine s_Fin.sg 1 (y := (164, [some (.ref 130), some (.int x1), some (.int x2), some (.int x3)], [.int x3], s_hg g7)) rfl ?_
      by_cases hc : x3 = 0
      · rw [if_pos hc] at hB
        refine s_Fin.bf (c := ¬ x3 = 0) (tg := 171) (p2 := 164) (L1 := [some (.ref 130), some (.int x1), some (.int x2), some (.int x3)]) (st1 := []) (fun h => h hc) rfl ?_
        refine s_Fin.sg 2 (y := (172, [some (.ref 130), some (.int x1), some (.int x2), some (.int x3)], [.int (-1 : Int32)], s_hg g7)) rfl ?_
        have hB := Option.some.inj hB
        subst hB
        obtain ⟨rfl, rfl⟩ := hr
        exact s_Fin.rt rfl rfl
      · rw [if_neg hc] at hB
        refine s_Fin.bt (c := ¬ x3 = 0) (tg := 171) (p2 := 164) (L1 := [some (.ref 130), some (.int x1), some (.int x2), some (.int x3)]) (st1 := []) hc rfl ?_
        refine s_Fin.sg 1 (y := (172, [some (.ref 130), some (.int x1), some (.int x2), some (.int x3)], [.int x2], s_hg g7)) rfl ?_
        have hB := Option.some.inj hB
        subst hB
        obtain ⟨rfl, rfl⟩ := hr
        exact s_Fin.rt rfl rfl
    · rw [if_neg hc] at hB
      refine s_Fin.bt (c := x2 ≤ 0) (tg := 159) (p2 := 152) (L1 := [some (.ref 130), some (.int x1), some (.int x2), some (.int x3)]) (st1 := [.ref 130]) (Int32.not_lt.mp hc) rfl ?_
      exact s_Fin.more (L := [none, none, some (.int x2), some (.int x3)]) ⟨Or.inl rfl, Or.inl rfl, Or.inr rfl, Or.inr rfl, trivial⟩ (fM_book_130_159_s hB hr)
  · rw [if_neg hc] at hB
    refine s_Fin.bt (c := ¬ x1 = (1 : Int32)) (tg := 159) (p2 := 148) (L1 := [some (.ref 130), some (.int x1), some (.int x2), some (.int x3)]) (st1 := [.ref 130]) hc rfl ?_
    exact s_Fin.more (L := [none, none, some (.int x2), some (.int x3)]) ⟨Or.inl rfl, Or.inl rfl, Or.inr rfl, Or.inr rfl, trivial⟩ (fM_book_130_159_s hB hr)
noncomputable def fM_book_130_73 (x1 : Int32) (x2 : Int32) (x3 : Int32) (g : s_G) : Option ((Int32 × Int32 × s_G) ⊕ (Int32 × s_G)) :=
  if x2 < (g.1 130 41) then (if x3 = 0 then (s_b2 (fM_goBy_130 ((5 : Int32) * x2) g) fun v5 g4 => if v5 = 0 then (some (.inl (x2 + (1 : Int32), v5, g4)))
  else some (.inl (x2, v5, g4)))
  else s_in (fM_book_130_103 x1 x2 x3 g))
  else s_in (fM_book_130_103 x1 x2 x3 g)
theorem fM_book_130_73_s {x1 : Int32} {x2 : Int32} {x3 : Int32} {g : s_G} {z : (Int32 × Int32 × s_G) ⊕ (Int32 × s_G)} (hB : fM_book_130_73 x1 x2 x3 g = some z) {v : Option Value} {h' : s_H} (hr : (s_sm (fun (x : Int32 × Int32 × s_G) (v : Option Value) (h' : s_H) => s_Fin 6 s_m259 (73, [some (.ref 130), some (.int x1), some (.int x.1), some (.int x.2.1)], [], s_hg x.2.2) v h') (fun (z : Int32 × s_G) (v : Option Value) (h' : s_H) => v = some (.int z.1) ∧ h' = s_hg z.2)) z v h') : s_Fin 6 s_m259 (73, [some (.ref 130), some (.int x1), some (.int x2), some (.int x3)], [], s_hg g) v h' := by
  unfold fM_book_130_73 at hB
  refine s_Fin.sg 3 (y := (78, [some (.ref 130), some (.int x1), some (.int x2), some (.int x3)], [.int (g.1 130 41), .int x2], s_hg g)) rfl ?_
  by_cases hc : x2 < (g.1 130 41)
  · rw [if_pos hc] at hB
    refine s_Fin.bf (c := (g.1 130 41) ≤ x2) (tg := 103) (p2 := 78) (L1 := [some (.ref 130), some (.int x1), some (.int x2), some (.int x3)]) (st1 := []) (Int32.not_le.mpr hc) rfl ?_
    refine s_Fin.sg 1 (y := (82, [some (.ref 130), some (.int x1), some (.int x2), some (.int x3)], [.int x3], s_hg g)) rfl ?_
    by_cases hc : x3 = 0
    · rw [if_pos hc] at hB
      refine s_Fin.bf (c := ¬ x3 = 0) (tg := 103) (p2 := 82) (L1 := [some (.ref 130), some (.int x1), some (.int x2), some (.int x3)]) (st1 := []) (fun h => h hc) rfl ?_
      refine s_Fin.sg 4 (y := (89, [some (.ref 130), some (.int x1), some (.int x2), some (.int x3)], [.int ((5 : Int32) * x2), .ref 130], s_hg g)) rfl ?_
      obtain ⟨v5, g4, hp, hB⟩ := s_bd2 hB
      refine s_Fin.cl (d := 5) (q1 := s_m264) (md := 264) (vs := [.ref 130, .int ((5 : Int32) * x2)]) (rest := []) (h1 := s_hg g4) (u := some (.int v5)) (s_Ev.up (by omega) (fM_goBy_130_s hp)) rfl rfl rfl rfl ?_
      refine s_Fin.sg 2 (y := (94, [some (.ref 130), some (.int x1), some (.int x2), some (.int v5)], [.int v5], s_hg g4)) rfl ?_
      by_cases hc : v5 = 0
      · rw [if_pos hc] at hB
        refine s_Fin.bf (c := ¬ v5 = 0) (tg := 73) (p2 := 94) (L1 := [some (.ref 130), some (.int x1), some (.int x2), some (.int v5)]) (st1 := []) (fun h => h hc) rfl ?_
        refine s_Fin.sg 2 (y := (73, [some (.ref 130), some (.int x1), some (.int (x2 + (1 : Int32))), some (.int v5)], [], s_hg g4)) rfl ?_
        have hB := Option.some.inj hB
        subst hB
        exact s_Fin.more (L := [some (.ref 130), some (.int x1), some (.int (x2 + (1 : Int32))), some (.int v5)]) ⟨Or.inr rfl, Or.inr rfl, Or.inr rfl, Or.inr rfl, trivial⟩ hr
      · rw [if_neg hc] at hB
        refine s_Fin.bt (c := ¬ v5 = 0) (tg := 73) (p2 := 94) (L1 := [some (.ref 130), some (.int x1), some (.int x2), some (.int v5)]) (st1 := []) hc rfl ?_
        have hB := Option.some.inj hB
        subst hB
        exact s_Fin.more (L := [some (.ref 130), some (.int x1), some (.int x2), some (.int v5)]) ⟨Or.inr rfl, Or.inr rfl, Or.inr rfl, Or.inr rfl, trivial⟩ hr
    · rw [if_neg hc] at hB
      refine s_Fin.bt (c := ¬ x3 = 0) (tg := 103) (p2 := 82) (L1 := [some (.ref 130), some (.int x1), some (.int x2), some (.int x3)]) (st1 := []) hc rfl ?_
      obtain ⟨_, hN, hz⟩ := s_in_of hB
      subst hz
      have hB := hN
      exact s_Fin.more (L := [some (.ref 130), some (.int x1), some (.int x2), some (.int x3)]) ⟨Or.inr rfl, Or.inr rfl, Or.inr rfl, Or.inr rfl, trivial⟩ (fM_book_130_103_s hB hr)
  · rw [if_neg hc] at hB
    refine s_Fin.bt (c := (g.1 130 41) ≤ x2) (tg := 103) (p2 := 78) (L1 := [some (.ref 130), some (.int x1), some (.int x2), some (.int x3)]) (st1 := []) (Int32.not_lt.mp hc) rfl ?_
    obtain ⟨_, hN, hz⟩ := s_in_of hB
    subst hz
    have hB := hN
    exact s_Fin.more (L := [some (.ref 130), some (.int x1), some (.int x2), some (.int x3)]) ⟨Or.inr rfl, Or.inr rfl, Or.inr rfl, Or.inr rfl, trivial⟩ (fM_book_130_103_s hB hr)
noncomputable def fM_book_130_30 (x1 : Int32) (g : s_G) : Option ((s_G) ⊕ (Int32 × s_G)) :=
  if (g.1 130 7) = 0 then (s_in (s_b1 (fM_layAside_130 g) fun g3 => s_lp (fun x => fM_book_130_73 x1 x.1 x.2.1 x.2.2) ((0 : Int32), (0 : Int32), g3)))
  else s_b2 (fM_readBookLine_130 g) fun v10 g9 => if v10 = 0 then (s_in (some ((-2 : Int32) - (g9.1 130 11), g9)))
  else some (.inl (s_si g9 130 41 ((g9.1 130 41) + (1 : Int32))))
theorem fM_book_130_30_s {x1 : Int32} {g : s_G} {z : (s_G) ⊕ (Int32 × s_G)} (hB : fM_book_130_30 x1 g = some z) {v : Option Value} {h' : s_H} (hr : (s_sm (fun (x : s_G) (v : Option Value) (h' : s_H) => s_Fin 6 s_m259 (30, [some (.ref 130), some (.int x1), none, none], [], s_hg x) v h') (fun (z : Int32 × s_G) (v : Option Value) (h' : s_H) => v = some (.int z.1) ∧ h' = s_hg z.2)) z v h') : s_Fin 6 s_m259 (30, [some (.ref 130), some (.int x1), none, none], [], s_hg g) v h' := by
  unfold fM_book_130_30 at hB
  refine s_Fin.sg 2 (y := (34, [some (.ref 130), some (.int x1), none, none], [.int (g.1 130 7)], s_hg g)) rfl ?_
  by_cases hc : (g.1 130 7) = 0
  · rw [if_pos hc] at hB
    refine s_Fin.bt (c := (g.1 130 7) = 0) (tg := 65) (p2 := 34) (L1 := [some (.ref 130), some (.int x1), none, none]) (st1 := []) hc rfl ?_
    obtain ⟨_, hN, hz⟩ := s_in_of hB
    subst hz
    have hB := hN
    refine s_Fin.sg 1 (y := (66, [some (.ref 130), some (.int x1), none, none], [.ref 130], s_hg g)) rfl ?_
    obtain ⟨g3, hp, hB⟩ := s_bd hB
    refine s_Fin.cl (d := 5) (q1 := s_m246) (md := 246) (vs := [.ref 130]) (rest := []) (h1 := s_hg g3) (u := none) (s_Ev.up (by omega) (fM_layAside_130_s hp)) rfl rfl rfl rfl ?_
    refine s_Fin.sg 4 (y := (73, [some (.ref 130), some (.int x1), some (.int (0 : Int32)), some (.int (0 : Int32))], [], s_hg g3)) rfl ?_
    exact s_Fin.more (L := [some (.ref 130), some (.int x1), some (.int (0 : Int32)), some (.int (0 : Int32))]) ⟨Or.inr rfl, Or.inr rfl, Or.inr rfl, Or.inr rfl, trivial⟩ (s_lp_s (P := (fun (x : Int32 × Int32 × s_G) (v : Option Value) (h' : s_H) => s_Fin 6 s_m259 (73, [some (.ref 130), some (.int x1), some (.int x.1), some (.int x.2.1)], [], s_hg x.2.2) v h')) (Q := (fun (z : Int32 × s_G) (v : Option Value) (h' : s_H) => v = some (.int z.1) ∧ h' = s_hg z.2)) (fun x z hB v h' hr => fM_book_130_73_s hB hr) hB _ _ hr)
  · rw [if_neg hc] at hB
    refine s_Fin.bf (c := (g.1 130 7) = 0) (tg := 65) (p2 := 34) (L1 := [some (.ref 130), some (.int x1), none, none]) (st1 := []) hc rfl ?_
    refine s_Fin.sg 1 (y := (38, [some (.ref 130), some (.int x1), none, none], [.ref 130], s_hg g)) rfl ?_
    obtain ⟨v10, g9, hp, hB⟩ := s_bd2 hB
    refine s_Fin.cl (d := 5) (q1 := s_m260) (md := 260) (vs := [.ref 130]) (rest := []) (h1 := s_hg g9) (u := some (.int v10)) (s_Ev.up (by omega) (fM_readBookLine_130_s hp)) rfl rfl rfl rfl ?_
    by_cases hc : v10 = 0
    · rw [if_pos hc] at hB
      refine s_Fin.bf (c := ¬ v10 = 0) (tg := 52) (p2 := 41) (L1 := [some (.ref 130), some (.int x1), none, none]) (st1 := []) (fun h => h hc) rfl ?_
      obtain ⟨_, hN, hz⟩ := s_in_of hB
      subst hz
      have hB := hN
      refine s_Fin.sg 4 (y := (51, [some (.ref 130), some (.int x1), none, none], [.int ((-2 : Int32) - (g9.1 130 11))], s_hg g9)) rfl ?_
      have hB := Option.some.inj hB
      subst hB
      obtain ⟨rfl, rfl⟩ := hr
      exact s_Fin.rt rfl rfl
    · rw [if_neg hc] at hB
      refine s_Fin.bt (c := ¬ v10 = 0) (tg := 52) (p2 := 41) (L1 := [some (.ref 130), some (.int x1), none, none]) (st1 := []) hc rfl ?_
      refine s_Fin.sg 7 (y := (30, [some (.ref 130), some (.int x1), none, none], [], s_hg (s_si g9 130 41 ((g9.1 130 41) + (1 : Int32))))) rfl ?_
      have hB := Option.some.inj hB
      subst hB
      exact s_Fin.more (L := [some (.ref 130), some (.int x1), none, none]) ⟨Or.inr rfl, Or.inr rfl, Or.inl rfl, Or.inl rfl, trivial⟩ hr
noncomputable def fM_book_130 (x1 : Int32) (g : s_G) : Option (Int32 × s_G) :=
  s_b1 (fM_isIn_s x1 (0 : Int32) (1 : Int32) (s_si g 130 0 (0 : Int32))) fun v1 => if v1 = 0 then (some ((-1000 : Int32), (s_si g 130 0 (0 : Int32))))
  else s_b1 (fM_begin_130 (400 : Int32) (s_si g 130 0 (0 : Int32))) fun g2 => s_lp (fun x => fM_book_130_30 x1 x) (s_si g2 130 41 (0 : Int32))
theorem fM_book_130_s {x1 : Int32} {g : s_G} {z : Int32 × s_G} (hB : fM_book_130 x1 g = some z) : s_Ev 6 s_m259 [.ref 130, .int x1] (s_hg g) (some (.int z.1)) (s_hg z.2) := by
  unfold fM_book_130 at hB
  refine s_Ev.fin ((?_ : ∀ (v : Option Value) (h' : s_H), (fun (z : Int32 × s_G) (v : Option Value) (h' : s_H) => v = some (.int z.1) ∧ h' = s_hg z.2) z v h' → s_Fin 6 s_m259 (0, s_ent [.ref 130, .int x1] (s_m259).2.2.1, [], s_hg g) v h') _ _ ⟨rfl, rfl⟩)
  intro v h' hr
  refine (show s_Fin 6 s_m259 (0, [some (.ref 130), some (.int x1), none, none], [], s_hg g) v h' from ?_)
  refine s_Fin.sg 6 (y := (8, [some (.ref 130), some (.int x1), none, none], [.int (1 : Int32), .int (0 : Int32), .int x1], s_hg (s_si g 130 0 (0 : Int32)))) rfl ?_
  obtain ⟨v1, hp, hB⟩ := s_bd hB
  refine s_Fin.cl (d := 5) (q1 := s_m181) (md := 181) (vs := [.int x1, .int (0 : Int32), .int (1 : Int32)]) (rest := []) (h1 := s_hg (s_si g 130 0 (0 : Int32))) (u := some (.int v1)) (s_Ev.up (by omega) (fM_isIn_s_s hp)) rfl rfl rfl rfl ?_
  by_cases hc : v1 = 0
  · rw [if_pos hc] at hB
    refine s_Fin.bf (c := ¬ v1 = 0) (tg := 18) (p2 := 11) (L1 := [some (.ref 130), some (.int x1), none, none]) (st1 := []) (fun h => h hc) rfl ?_
    refine s_Fin.sg 1 (y := (17, [some (.ref 130), some (.int x1), none, none], [.int (-1000 : Int32)], s_hg (s_si g 130 0 (0 : Int32)))) rfl ?_
    have hB := Option.some.inj hB
    subst hB
    obtain ⟨rfl, rfl⟩ := hr
    exact s_Fin.rt rfl rfl
  · rw [if_neg hc] at hB
    refine s_Fin.bt (c := ¬ v1 = 0) (tg := 18) (p2 := 11) (L1 := [some (.ref 130), some (.int x1), none, none]) (st1 := []) hc rfl ?_
    refine s_Fin.sg 2 (y := (22, [some (.ref 130), some (.int x1), none, none], [.int (400 : Int32), .ref 130], s_hg (s_si g 130 0 (0 : Int32)))) rfl ?_
    obtain ⟨g2, hp, hB⟩ := s_bd hB
    refine s_Fin.cl (d := 5) (q1 := s_m164) (md := 164) (vs := [.ref 130, .int (400 : Int32)]) (rest := []) (h1 := s_hg g2) (u := none) (s_Ev.up (by omega) (fM_begin_130_s hp)) rfl rfl rfl rfl ?_
    refine s_Fin.sg 3 (y := (30, [some (.ref 130), some (.int x1), none, none], [], s_hg (s_si g2 130 41 (0 : Int32)))) rfl ?_
    exact s_Fin.more (L := [some (.ref 130), some (.int x1), none, none]) ⟨Or.inr rfl, Or.inr rfl, Or.inl rfl, Or.inl rfl, trivial⟩ (s_lp_s (P := (fun (x : s_G) (v : Option Value) (h' : s_H) => s_Fin 6 s_m259 (30, [some (.ref 130), some (.int x1), none, none], [], s_hg x) v h')) (Q := (fun (z : Int32 × s_G) (v : Option Value) (h' : s_H) => v = some (.int z.1) ∧ h' = s_hg z.2)) (fun x z hB v h' hr => fM_book_130_30_s hB hr) hB _ _ hr)
-- CampAshes$Tape.isWord
noncomputable def fQ_isWord_1_1014 (g : s_G) : Option (Int32) :=
  if (g.1 1 5) = (2 : Int32) then (if s_okw (g.2.2 1 9) = true then (if (g.2.2 1 9) = some 1014 then (some (1 : Int32))
  else some (0 : Int32)) else none)
  else some (0 : Int32)
theorem fQ_isWord_1_1014_s {g : s_G} {z : Int32} (hB : fQ_isWord_1_1014 g = some z) : s_Ev 0 s_m28 [.ref 1, .ref 1014] (s_hg g) (some (.int z)) (s_hg g) := by
  unfold fQ_isWord_1_1014 at hB
  refine s_Ev.fin ((?_ : ∀ (v : Option Value) (h' : s_H), (fun (z : Int32) (v : Option Value) (h' : s_H) => v = some (.int z) ∧ h' = s_hg g) z v h' → s_Fin 0 s_m28 (0, s_ent [.ref 1, .ref 1014] (s_m28).2.2.1, [], s_hg g) v h') _ _ ⟨rfl, rfl⟩)
  intro v h' hr
  refine (show s_Fin 0 s_m28 (0, [some (.ref 1), some (.ref 1014)], [], s_hg g) v h' from ?_)
  refine s_Fin.sg 3 (y := (5, [some (.ref 1), some (.ref 1014)], [.int (2 : Int32), .int (g.1 1 5)], s_hg g)) rfl ?_
  by_cases hc : (g.1 1 5) = (2 : Int32)
  · rw [if_pos hc] at hB
    refine s_Fin.bf (c := ¬ (g.1 1 5) = (2 : Int32)) (tg := 20) (p2 := 5) (L1 := [some (.ref 1), some (.ref 1014)]) (st1 := []) (fun h => h hc) rfl ?_
    refine s_Fin.sg 3 (y := (13, [some (.ref 1), some (.ref 1014)], [.ref 1014, va_rf (g.2.2 1 9)], s_hg g)) rfl ?_
    have hw : s_okw (g.2.2 1 9) = true := Classical.byContradiction fun h => (by rw [if_neg h] at hB; cases hB)
    rw [if_pos hw] at hB
    by_cases hc : (g.2.2 1 9) = some 1014
    · rw [if_pos hc] at hB
      refine s_Fin.nx (pc1 := 16) (L1 := [some (.ref 1), some (.ref 1014)]) (st1 := []) (h1 := s_hg g) ((show _ = s_acN 20 13 [some (.ref 1), some (.ref 1014)] [] (s_hg g) (.ref 1014) (va_rf (g.2.2 1 9)) from rfl).trans (s_acN_t hw rfl hc)) rfl ?_
      refine s_Fin.sg 2 (y := (21, [some (.ref 1), some (.ref 1014)], [.int (1 : Int32)], s_hg g)) rfl ?_
      have hB := Option.some.inj hB
      subst hB
      obtain ⟨rfl, rfl⟩ := hr
      exact s_Fin.rt rfl rfl
    · rw [if_neg hc] at hB
      refine s_Fin.nx (pc1 := 20) (L1 := [some (.ref 1), some (.ref 1014)]) (st1 := []) (h1 := s_hg g) ((show _ = s_acN 20 13 [some (.ref 1), some (.ref 1014)] [] (s_hg g) (.ref 1014) (va_rf (g.2.2 1 9)) from rfl).trans (s_acN_f hw rfl hc)) rfl ?_
      refine s_Fin.sg 1 (y := (21, [some (.ref 1), some (.ref 1014)], [.int (0 : Int32)], s_hg g)) rfl ?_
      have hB := Option.some.inj hB
      subst hB
      obtain ⟨rfl, rfl⟩ := hr
      exact s_Fin.rt rfl rfl
  · rw [if_neg hc] at hB
    refine s_Fin.bt (c := ¬ (g.1 1 5) = (2 : Int32)) (tg := 20) (p2 := 5) (L1 := [some (.ref 1), some (.ref 1014)]) (st1 := []) hc rfl ?_
    refine s_Fin.sg 1 (y := (21, [some (.ref 1), some (.ref 1014)], [.int (0 : Int32)], s_hg g)) rfl ?_
    have hB := Option.some.inj hB
    subst hB
    obtain ⟨rfl, rfl⟩ := hr
    exact s_Fin.rt rfl rfl
-- CampAshes$Tape.isWord
noncomputable def fQ_isWord_1_1015 (g : s_G) : Option (Int32) :=
  if (g.1 1 5) = (2 : Int32) then (if s_okw (g.2.2 1 9) = true then (if (g.2.2 1 9) = some 1015 then (some (1 : Int32))
  else some (0 : Int32)) else none)
  else some (0 : Int32)
theorem fQ_isWord_1_1015_s {g : s_G} {z : Int32} (hB : fQ_isWord_1_1015 g = some z) : s_Ev 0 s_m28 [.ref 1, .ref 1015] (s_hg g) (some (.int z)) (s_hg g) := by
  unfold fQ_isWord_1_1015 at hB
  refine s_Ev.fin ((?_ : ∀ (v : Option Value) (h' : s_H), (fun (z : Int32) (v : Option Value) (h' : s_H) => v = some (.int z) ∧ h' = s_hg g) z v h' → s_Fin 0 s_m28 (0, s_ent [.ref 1, .ref 1015] (s_m28).2.2.1, [], s_hg g) v h') _ _ ⟨rfl, rfl⟩)
  intro v h' hr
  refine (show s_Fin 0 s_m28 (0, [some (.ref 1), some (.ref 1015)], [], s_hg g) v h' from ?_)
  refine s_Fin.sg 3 (y := (5, [some (.ref 1), some (.ref 1015)], [.int (2 : Int32), .int (g.1 1 5)], s_hg g)) rfl ?_
  by_cases hc : (g.1 1 5) = (2 : Int32)
  · rw [if_pos hc] at hB
    refine s_Fin.bf (c := ¬ (g.1 1 5) = (2 : Int32)) (tg := 20) (p2 := 5) (L1 := [some (.ref 1), some (.ref 1015)]) (st1 := []) (fun h => h hc) rfl ?_
    refine s_Fin.sg 3 (y := (13, [some (.ref 1), some (.ref 1015)], [.ref 1015, va_rf (g.2.2 1 9)], s_hg g)) rfl ?_
    have hw : s_okw (g.2.2 1 9) = true := Classical.byContradiction fun h => (by rw [if_neg h] at hB; cases hB)
    rw [if_pos hw] at hB
    by_cases hc : (g.2.2 1 9) = some 1015
    · rw [if_pos hc] at hB
      refine s_Fin.nx (pc1 := 16) (L1 := [some (.ref 1), some (.ref 1015)]) (st1 := []) (h1 := s_hg g) ((show _ = s_acN 20 13 [some (.ref 1), some (.ref 1015)] [] (s_hg g) (.ref 1015) (va_rf (g.2.2 1 9)) from rfl).trans (s_acN_t hw rfl hc)) rfl ?_
      refine s_Fin.sg 2 (y := (21, [some (.ref 1), some (.ref 1015)], [.int (1 : Int32)], s_hg g)) rfl ?_
      have hB := Option.some.inj hB
      subst hB
      obtain ⟨rfl, rfl⟩ := hr
      exact s_Fin.rt rfl rfl
    · rw [if_neg hc] at hB
      refine s_Fin.nx (pc1 := 20) (L1 := [some (.ref 1), some (.ref 1015)]) (st1 := []) (h1 := s_hg g) ((show _ = s_acN 20 13 [some (.ref 1), some (.ref 1015)] [] (s_hg g) (.ref 1015) (va_rf (g.2.2 1 9)) from rfl).trans (s_acN_f hw rfl hc)) rfl ?_
      refine s_Fin.sg 1 (y := (21, [some (.ref 1), some (.ref 1015)], [.int (0 : Int32)], s_hg g)) rfl ?_
      have hB := Option.some.inj hB
      subst hB
      obtain ⟨rfl, rfl⟩ := hr
      exact s_Fin.rt rfl rfl
  · rw [if_neg hc] at hB
    refine s_Fin.bt (c := ¬ (g.1 1 5) = (2 : Int32)) (tg := 20) (p2 := 5) (L1 := [some (.ref 1), some (.ref 1015)]) (st1 := []) hc rfl ?_
    refine s_Fin.sg 1 (y := (21, [some (.ref 1), some (.ref 1015)], [.int (0 : Int32)], s_hg g)) rfl ?_
    have hB := Option.some.inj hB
    subst hB
    obtain ⟨rfl, rfl⟩ := hr
    exact s_Fin.rt rfl rfl
-- CampAshes$Tape.isWord
noncomputable def fQ_isWord_1_1016 (g : s_G) : Option (Int32) :=
  if (g.1 1 5) = (2 : Int32) then (if s_okw (g.2.2 1 9) = true then (if (g.2.2 1 9) = some 1016 then (some (1 : Int32))
  else some (0 : Int32)) else none)
  else some (0 : Int32)
theorem fQ_isWord_1_1016_s {g : s_G} {z : Int32} (hB : fQ_isWord_1_1016 g = some z) : s_Ev 0 s_m28 [.ref 1, .ref 1016] (s_hg g) (some (.int z)) (s_hg g) := by
  unfold fQ_isWord_1_1016 at hB
  refine s_Ev.fin ((?_ : ∀ (v : Option Value) (h' : s_H), (fun (z : Int32) (v : Option Value) (h' : s_H) => v = some (.int z) ∧ h' = s_hg g) z v h' → s_Fin 0 s_m28 (0, s_ent [.ref 1, .ref 1016] (s_m28).2.2.1, [], s_hg g) v h') _ _ ⟨rfl, rfl⟩)
  intro v h' hr
  refine (show s_Fin 0 s_m28 (0, [some (.ref 1), some (.ref 1016)], [], s_hg g) v h' from ?_)
  refine s_Fin.sg 3 (y := (5, [some (.ref 1), some (.ref 1016)], [.int (2 : Int32), .int (g.1 1 5)], s_hg g)) rfl ?_
  by_cases hc : (g.1 1 5) = (2 : Int32)
  · rw [if_pos hc] at hB
    refine s_Fin.bf (c := ¬ (g.1 1 5) = (2 : Int32)) (tg := 20) (p2 := 5) (L1 := [some (.ref 1), some (.ref 1016)]) (st1 := []) (fun h => h hc) rfl ?_
    refine s_Fin.sg 3 (y := (13, [some (.ref 1), some (.ref 1016)], [.ref 1016, va_rf (g.2.2 1 9)], s_hg g)) rfl ?_
    have hw : s_okw (g.2.2 1 9) = true := Classical.byContradiction fun h => (by rw [if_neg h] at hB; cases hB)
    rw [if_pos hw] at hB
    by_cases hc : (g.2.2 1 9) = some 1016
    · rw [if_pos hc] at hB
      refine s_Fin.nx (pc1 := 16) (L1 := [some (.ref 1), some (.ref 1016)]) (st1 := []) (h1 := s_hg g) ((show _ = s_acN 20 13 [some (.ref 1), some (.ref 1016)] [] (s_hg g) (.ref 1016) (va_rf (g.2.2 1 9)) from rfl).trans (s_acN_t hw rfl hc)) rfl ?_
      refine s_Fin.sg 2 (y := (21, [some (.ref 1), some (.ref 1016)], [.int (1 : Int32)], s_hg g)) rfl ?_
      have hB := Option.some.inj hB
      subst hB
      obtain ⟨rfl, rfl⟩ := hr
      exact s_Fin.rt rfl rfl
    · rw [if_neg hc] at hB
      refine s_Fin.nx (pc1 := 20) (L1 := [some (.ref 1), some (.ref 1016)]) (st1 := []) (h1 := s_hg g) ((show _ = s_acN 20 13 [some (.ref 1), some (.ref 1016)] [] (s_hg g) (.ref 1016) (va_rf (g.2.2 1 9)) from rfl).trans (s_acN_f hw rfl hc)) rfl ?_
      refine s_Fin.sg 1 (y := (21, [some (.ref 1), some (.ref 1016)], [.int (0 : Int32)], s_hg g)) rfl ?_
      have hB := Option.some.inj hB
      subst hB
      obtain ⟨rfl, rfl⟩ := hr
      exact s_Fin.rt rfl rfl
  · rw [if_neg hc] at hB
    refine s_Fin.bt (c := ¬ (g.1 1 5) = (2 : Int32)) (tg := 20) (p2 := 5) (L1 := [some (.ref 1), some (.ref 1016)]) (st1 := []) hc rfl ?_
    refine s_Fin.sg 1 (y := (21, [some (.ref 1), some (.ref 1016)], [.int (0 : Int32)], s_hg g)) rfl ?_
    have hB := Option.some.inj hB
    subst hB
    obtain ⟨rfl, rfl⟩ := hr
    exact s_Fin.rt rfl rfl
-- CampAshes$Camp.boyNamed
noncomputable def fP_boyNamed_3_2 (x1 : Int64) (x3 : Int32) (g : s_G) : Option ((Int32) ⊕ (Int32)) :=
  if x3 < (g.1 3 0) then (s_b1 (s_ix 17 x3) fun k2 => if (lg_cmp (g.2.1 4 k2) x1) = 0 then (s_in (some x3))
  else some (.inl (x3 + (1 : Int32))))
  else s_in (some (-1 : Int32))
theorem fP_boyNamed_3_2_s {x1 : Int64} {x3 : Int32} {g : s_G} {z : (Int32) ⊕ (Int32)} (hB : fP_boyNamed_3_2 x1 x3 g = some z) {v : Option Value} {h' : s_H} (hr : (s_sm (fun (x : Int32) (v : Option Value) (h' : s_H) => s_Fin 0 s_m32 (2, [some (.ref 3), some (.long x1), none, some (.int x)], [], s_hg g) v h') (fun (z : Int32) (v : Option Value) (h' : s_H) => v = some (.int z) ∧ h' = s_hg g)) z v h') : s_Fin 0 s_m32 (2, [some (.ref 3), some (.long x1), none, some (.int x3)], [], s_hg g) v h' := by
  unfold fP_boyNamed_3_2 at hB
  refine s_Fin.sg 3 (y := (7, [some (.ref 3), some (.long x1), none, some (.int x3)], [.int (g.1 3 0), .int x3], s_hg g)) rfl ?_
  by_cases hc : x3 < (g.1 3 0)
  · rw [if_pos hc] at hB
    refine s_Fin.bf (c := (g.1 3 0) ≤ x3) (tg := 29) (p2 := 7) (L1 := [some (.ref 3), some (.long x1), none, some (.int x3)]) (st1 := []) (Int32.not_le.mpr hc) rfl ?_
    refine s_Fin.sg 3 (y := (15, [some (.ref 3), some (.long x1), none, some (.int x3)], [.int x3, .ref 4], s_hg g)) rfl ?_
    obtain ⟨k2, hk2, hB⟩ := s_bd hB
    refine s_Fin.ix (n := 17) (i := x3) (pc1 := 16) (L1 := [some (.ref 3), some (.long x1), none, some (.int x3)]) (fun j1 => [.long (g.2.1 4 j1)]) (fun j1 => s_hg g) hk2 rfl rfl ?_
    refine s_Fin.sg 2 (y := (18, [some (.ref 3), some (.long x1), none, some (.int x3)], [.int (lg_cmp (g.2.1 4 k2) x1)], s_hg g)) rfl ?_
    by_cases hc : (lg_cmp (g.2.1 4 k2) x1) = 0
    · rw [if_pos hc] at hB
      refine s_Fin.bf (c := ¬ (lg_cmp (g.2.1 4 k2) x1) = 0) (tg := 23) (p2 := 18) (L1 := [some (.ref 3), some (.long x1), none, some (.int x3)]) (st1 := []) (fun h => h hc) rfl ?_
      obtain ⟨_, hN, hz⟩ := s_in_of hB
      subst hz
      have hB := hN
      refine s_Fin.sg 1 (y := (22, [some (.ref 3), some (.long x1), none, some (.int x3)], [.int x3], s_hg g)) rfl ?_
      have hB := Option.some.inj hB
      subst hB
      obtain ⟨rfl, rfl⟩ := hr
      exact s_Fin.rt rfl rfl
    · rw [if_neg hc] at hB
      refine s_Fin.bt (c := ¬ (lg_cmp (g.2.1 4 k2) x1) = 0) (tg := 23) (p2 := 18) (L1 := [some (.ref 3), some (.long x1), none, some (.int x3)]) (st1 := []) hc rfl ?_
      refine s_Fin.sg 2 (y := (2, [some (.ref 3), some (.long x1), none, some (.int (x3 + (1 : Int32)))], [], s_hg g)) rfl ?_
      have hB := Option.some.inj hB
      subst hB
      exact s_Fin.more (L := [some (.ref 3), some (.long x1), none, some (.int (x3 + (1 : Int32)))]) ⟨Or.inr rfl, Or.inr rfl, Or.inl rfl, Or.inr rfl, trivial⟩ hr
  · rw [if_neg hc] at hB
    refine s_Fin.bt (c := (g.1 3 0) ≤ x3) (tg := 29) (p2 := 7) (L1 := [some (.ref 3), some (.long x1), none, some (.int x3)]) (st1 := []) (Int32.not_lt.mp hc) rfl ?_
    obtain ⟨_, hN, hz⟩ := s_in_of hB
    subst hz
    have hB := hN
    refine s_Fin.sg 1 (y := (30, [some (.ref 3), some (.long x1), none, some (.int x3)], [.int (-1 : Int32)], s_hg g)) rfl ?_
    have hB := Option.some.inj hB
    subst hB
    obtain ⟨rfl, rfl⟩ := hr
    exact s_Fin.rt rfl rfl
noncomputable def fP_boyNamed_3 (x1 : Int64) (g : s_G) : Option (Int32) :=
  s_lp (fun x => fP_boyNamed_3_2 x1 x g) (0 : Int32)
theorem fP_boyNamed_3_s {x1 : Int64} {g : s_G} {z : Int32} (hB : fP_boyNamed_3 x1 g = some z) : s_Ev 0 s_m32 [.ref 3, .long x1] (s_hg g) (some (.int z)) (s_hg g) := by
  unfold fP_boyNamed_3 at hB
  refine s_Ev.fin ((?_ : ∀ (v : Option Value) (h' : s_H), (fun (z : Int32) (v : Option Value) (h' : s_H) => v = some (.int z) ∧ h' = s_hg g) z v h' → s_Fin 0 s_m32 (0, s_ent [.ref 3, .long x1] (s_m32).2.2.1, [], s_hg g) v h') _ _ ⟨rfl, rfl⟩)
  intro v h' hr
  refine (show s_Fin 0 s_m32 (0, [some (.ref 3), some (.long x1), none, none], [], s_hg g) v h' from ?_)
  refine s_Fin.sg 2 (y := (2, [some (.ref 3), some (.long x1), none, some (.int (0 : Int32))], [], s_hg g)) rfl ?_
  exact s_Fin.more (L := [some (.ref 3), some (.long x1), none, some (.int (0 : Int32))]) ⟨Or.inr rfl, Or.inr rfl, Or.inl rfl, Or.inr rfl, trivial⟩ (s_lp_s (P := (fun (x : Int32) (v : Option Value) (h' : s_H) => s_Fin 0 s_m32 (2, [some (.ref 3), some (.long x1), none, some (.int x)], [], s_hg g) v h')) (Q := (fun (z : Int32) (v : Option Value) (h' : s_H) => v = some (.int z) ∧ h' = s_hg g)) (fun x z hB v h' hr => fP_boyNamed_3_2_s hB hr) hB _ _ hr)
-- CampAshes$Tape.isWord
noncomputable def fQ_isWord_1_1011 (g : s_G) : Option (Int32) :=
  if (g.1 1 5) = (2 : Int32) then (if s_okw (g.2.2 1 9) = true then (if (g.2.2 1 9) = some 1011 then (some (1 : Int32))
  else some (0 : Int32)) else none)
  else some (0 : Int32)
theorem fQ_isWord_1_1011_s {g : s_G} {z : Int32} (hB : fQ_isWord_1_1011 g = some z) : s_Ev 0 s_m28 [.ref 1, .ref 1011] (s_hg g) (some (.int z)) (s_hg g) := by
  unfold fQ_isWord_1_1011 at hB
  refine s_Ev.fin ((?_ : ∀ (v : Option Value) (h' : s_H), (fun (z : Int32) (v : Option Value) (h' : s_H) => v = some (.int z) ∧ h' = s_hg g) z v h' → s_Fin 0 s_m28 (0, s_ent [.ref 1, .ref 1011] (s_m28).2.2.1, [], s_hg g) v h') _ _ ⟨rfl, rfl⟩)
  intro v h' hr
  refine (show s_Fin 0 s_m28 (0, [some (.ref 1), some (.ref 1011)], [], s_hg g) v h' from ?_)
  refine s_Fin.sg 3 (y := (5, [some (.ref 1), some (.ref 1011)], [.int (2 : Int32), .int (g.1 1 5)], s_hg g)) rfl ?_
  by_cases hc : (g.1 1 5) = (2 : Int32)
  · rw [if_pos hc] at hB
    refine s_Fin.bf (c := ¬ (g.1 1 5) = (2 : Int32)) (tg := 20) (p2 := 5) (L1 := [some (.ref 1), some (.ref 1011)]) (st1 := []) (fun h => h hc) rfl ?_
    refine s_Fin.sg 3 (y := (13, [some (.ref 1), some (.ref 1011)], [.ref 1011, va_rf (g.2.2 1 9)], s_hg g)) rfl ?_
    have hw : s_okw (g.2.2 1 9) = true := Classical.byContradiction fun h => (by rw [if_neg h] at hB; cases hB)
    rw [if_pos hw] at hB
    by_cases hc : (g.2.2 1 9) = some 1011
    · rw [if_pos hc] at hB
      refine s_Fin.nx (pc1 := 16) (L1 := [some (.ref 1), some (.ref 1011)]) (st1 := []) (h1 := s_hg g) ((show _ = s_acN 20 13 [some (.ref 1), some (.ref 1011)] [] (s_hg g) (.ref 1011) (va_rf (g.2.2 1 9)) from rfl).trans (s_acN_t hw rfl hc)) rfl ?_
      refine s_Fin.sg 2 (y := (21, [some (.ref 1), some (.ref 1011)], [.int (1 : Int32)], s_hg g)) rfl ?_
      have hB := Option.some.inj hB
      subst hB
      obtain ⟨rfl, rfl⟩ := hr
      exact s_Fin.rt rfl rfl
    · rw [if_neg hc] at hB
      refine s_Fin.nx (pc1 := 20) (L1 := [some (.ref 1), some (.ref 1011)]) (st1 := []) (h1 := s_hg g) ((show _ = s_acN 20 13 [some (.ref 1), some (.ref 1011)] [] (s_hg g) (.ref 1011) (va_rf (g.2.2 1 9)) from rfl).trans (s_acN_f hw rfl hc)) rfl ?_
      refine s_Fin.sg 1 (y := (21, [some (.ref 1), some (.ref 1011)], [.int (0 : Int32)], s_hg g)) rfl ?_
      have hB := Option.some.inj hB
      subst hB
      obtain ⟨rfl, rfl⟩ := hr
      exact s_Fin.rt rfl rfl
  · rw [if_neg hc] at hB
    refine s_Fin.bt (c := ¬ (g.1 1 5) = (2 : Int32)) (tg := 20) (p2 := 5) (L1 := [some (.ref 1), some (.ref 1011)]) (st1 := []) hc rfl ?_
    refine s_Fin.sg 1 (y := (21, [some (.ref 1), some (.ref 1011)], [.int (0 : Int32)], s_hg g)) rfl ?_
    have hB := Option.some.inj hB
    subst hB
    obtain ⟨rfl, rfl⟩ := hr
    exact s_Fin.rt rfl rfl
-- CampAshes$Tape.isWord
noncomputable def fQ_isWord_1_1012 (g : s_G) : Option (Int32) :=
  if (g.1 1 5) = (2 : Int32) then (if s_okw (g.2.2 1 9) = true then (if (g.2.2 1 9) = some 1012 then (some (1 : Int32))
  else some (0 : Int32)) else none)
  else some (0 : Int32)
theorem fQ_isWord_1_1012_s {g : s_G} {z : Int32} (hB : fQ_isWord_1_1012 g = some z) : s_Ev 0 s_m28 [.ref 1, .ref 1012] (s_hg g) (some (.int z)) (s_hg g) := by
  unfold fQ_isWord_1_1012 at hB
  refine s_Ev.fin ((?_ : ∀ (v : Option Value) (h' : s_H), (fun (z : Int32) (v : Option Value) (h' : s_H) => v = some (.int z) ∧ h' = s_hg g) z v h' → s_Fin 0 s_m28 (0, s_ent [.ref 1, .ref 1012] (s_m28).2.2.1, [], s_hg g) v h') _ _ ⟨rfl, rfl⟩)
  intro v h' hr
  refine (show s_Fin 0 s_m28 (0, [some (.ref 1), some (.ref 1012)], [], s_hg g) v h' from ?_)
  refine s_Fin.sg 3 (y := (5, [some (.ref 1), some (.ref 1012)], [.int (2 : Int32), .int (g.1 1 5)], s_hg g)) rfl ?_
  by_cases hc : (g.1 1 5) = (2 : Int32)
  · rw [if_pos hc] at hB
    refine s_Fin.bf (c := ¬ (g.1 1 5) = (2 : Int32)) (tg := 20) (p2 := 5) (L1 := [some (.ref 1), some (.ref 1012)]) (st1 := []) (fun h => h hc) rfl ?_
    refine s_Fin.sg 3 (y := (13, [some (.ref 1), some (.ref 1012)], [.ref 1012, va_rf (g.2.2 1 9)], s_hg g)) rfl ?_
    have hw : s_okw (g.2.2 1 9) = true := Classical.byContradiction fun h => (by rw [if_neg h] at hB; cases hB)
    rw [if_pos hw] at hB
    by_cases hc : (g.2.2 1 9) = some 1012
    · rw [if_pos hc] at hB
      refine s_Fin.nx (pc1 := 16) (L1 := [some (.ref 1), some (.ref 1012)]) (st1 := []) (h1 := s_hg g) ((show _ = s_acN 20 13 [some (.ref 1), some (.ref 1012)] [] (s_hg g) (.ref 1012) (va_rf (g.2.2 1 9)) from rfl).trans (s_acN_t hw rfl hc)) rfl ?_
      refine s_Fin.sg 2 (y := (21, [some (.ref 1), some (.ref 1012)], [.int (1 : Int32)], s_hg g)) rfl ?_
      have hB := Option.some.inj hB
      subst hB
      obtain ⟨rfl, rfl⟩ := hr
      exact s_Fin.rt rfl rfl
    · rw [if_neg hc] at hB
      refine s_Fin.nx (pc1 := 20) (L1 := [some (.ref 1), some (.ref 1012)]) (st1 := []) (h1 := s_hg g) ((show _ = s_acN 20 13 [some (.ref 1), some (.ref 1012)] [] (s_hg g) (.ref 1012) (va_rf (g.2.2 1 9)) from rfl).trans (s_acN_f hw rfl hc)) rfl ?_
      refine s_Fin.sg 1 (y := (21, [some (.ref 1), some (.ref 1012)], [.int (0 : Int32)], s_hg g)) rfl ?_
      have hB := Option.some.inj hB
      subst hB
      obtain ⟨rfl, rfl⟩ := hr
      exact s_Fin.rt rfl rfl
  · rw [if_neg hc] at hB
    refine s_Fin.bt (c := ¬ (g.1 1 5) = (2 : Int32)) (tg := 20) (p2 := 5) (L1 := [some (.ref 1), some (.ref 1012)]) (st1 := []) hc rfl ?_
    refine s_Fin.sg 1 (y := (21, [some (.ref 1), some (.ref 1012)], [.int (0 : Int32)], s_hg g)) rfl ?_
    have hB := Option.some.inj hB
    subst hB
    obtain ⟨rfl, rfl⟩ := hr
    exact s_Fin.rt rfl rfl
-- CampAshes$Tape.isWord
noncomputable def fQ_isWord_1_1013 (g : s_G) : Option (Int32) :=
  if (g.1 1 5) = (2 : Int32) then (if s_okw (g.2.2 1 9) = true then (if (g.2.2 1 9) = some 1013 then (some (1 : Int32))
  else some (0 : Int32)) else none)
  else some (0 : Int32)
theorem fQ_isWord_1_1013_s {g : s_G} {z : Int32} (hB : fQ_isWord_1_1013 g = some z) : s_Ev 0 s_m28 [.ref 1, .ref 1013] (s_hg g) (some (.int z)) (s_hg g) := by
  unfold fQ_isWord_1_1013 at hB
  refine s_Ev.fin ((?_ : ∀ (v : Option Value) (h' : s_H), (fun (z : Int32) (v : Option Value) (h' : s_H) => v = some (.int z) ∧ h' = s_hg g) z v h' → s_Fin 0 s_m28 (0, s_ent [.ref 1, .ref 1013] (s_m28).2.2.1, [], s_hg g) v h') _ _ ⟨rfl, rfl⟩)
  intro v h' hr
  refine (show s_Fin 0 s_m28 (0, [some (.ref 1), some (.ref 1013)], [], s_hg g) v h' from ?_)
  refine s_Fin.sg 3 (y := (5, [some (.ref 1), some (.ref 1013)], [.int (2 : Int32), .int (g.1 1 5)], s_hg g)) rfl ?_
  by_cases hc : (g.1 1 5) = (2 : Int32)
  · rw [if_pos hc] at hB
    refine s_Fin.bf (c := ¬ (g.1 1 5) = (2 : Int32)) (tg := 20) (p2 := 5) (L1 := [some (.ref 1), some (.ref 1013)]) (st1 := []) (fun h => h hc) rfl ?_
    refine s_Fin.sg 3 (y := (13, [some (.ref 1), some (.ref 1013)], [.ref 1013, va_rf (g.2.2 1 9)], s_hg g)) rfl ?_
    have hw : s_okw (g.2.2 1 9) = true := Classical.byContradiction fun h => (by rw [if_neg h] at hB; cases hB)
    rw [if_pos hw] at hB
    by_cases hc : (g.2.2 1 9) = some 1013
    · rw [if_pos hc] at hB
      refine s_Fin.nx (pc1 := 16) (L1 := [some (.ref 1), some (.ref 1013)]) (st1 := []) (h1 := s_hg g) ((show _ = s_acN 20 13 [some (.ref 1), some (.ref 1013)] [] (s_hg g) (.ref 1013) (va_rf (g.2.2 1 9)) from rfl).trans (s_acN_t hw rfl hc)) rfl ?_
      refine s_Fin.sg 2 (y := (21, [some (.ref 1), some (.ref 1013)], [.int (1 : Int32)], s_hg g)) rfl ?_
      have hB := Option.some.inj hB
      subst hB
      obtain ⟨rfl, rfl⟩ := hr
      exact s_Fin.rt rfl rfl
    · rw [if_neg hc] at hB
      refine s_Fin.nx (pc1 := 20) (L1 := [some (.ref 1), some (.ref 1013)]) (st1 := []) (h1 := s_hg g) ((show _ = s_acN 20 13 [some (.ref 1), some (.ref 1013)] [] (s_hg g) (.ref 1013) (va_rf (g.2.2 1 9)) from rfl).trans (s_acN_f hw rfl hc)) rfl ?_
      refine s_Fin.sg 1 (y := (21, [some (.ref 1), some (.ref 1013)], [.int (0 : Int32)], s_hg g)) rfl ?_
      have hB := Option.some.inj hB
      subst hB
      obtain ⟨rfl, rfl⟩ := hr
      exact s_Fin.rt rfl rfl
  · rw [if_neg hc] at hB
    refine s_Fin.bt (c := ¬ (g.1 1 5) = (2 : Int32)) (tg := 20) (p2 := 5) (L1 := [some (.ref 1), some (.ref 1013)]) (st1 := []) hc rfl ?_
    refine s_Fin.sg 1 (y := (21, [some (.ref 1), some (.ref 1013)], [.int (0 : Int32)], s_hg g)) rfl ?_
    have hB := Option.some.inj hB
    subst hB
    obtain ⟨rfl, rfl⟩ := hr
    exact s_Fin.rt rfl rfl
-- CampAshes$Camp.eventNamed
noncomputable def fP_eventNamed_3_2 (x1 : Int64) (x3 : Int32) (g : s_G) : Option ((Int32) ⊕ (Int32)) :=
  if x3 < (g.1 3 1) then (s_b1 (s_ix 17 ((7 : Int32) + x3)) fun k2 => if (lg_cmp (g.2.1 4 k2) x1) = 0 then (s_in (some x3))
  else some (.inl (x3 + (1 : Int32))))
  else s_in (some (-1 : Int32))
theorem fP_eventNamed_3_2_s {x1 : Int64} {x3 : Int32} {g : s_G} {z : (Int32) ⊕ (Int32)} (hB : fP_eventNamed_3_2 x1 x3 g = some z) {v : Option Value} {h' : s_H} (hr : (s_sm (fun (x : Int32) (v : Option Value) (h' : s_H) => s_Fin 0 s_m33 (2, [some (.ref 3), some (.long x1), none, some (.int x)], [], s_hg g) v h') (fun (z : Int32) (v : Option Value) (h' : s_H) => v = some (.int z) ∧ h' = s_hg g)) z v h') : s_Fin 0 s_m33 (2, [some (.ref 3), some (.long x1), none, some (.int x3)], [], s_hg g) v h' := by
  unfold fP_eventNamed_3_2 at hB
  refine s_Fin.sg 3 (y := (7, [some (.ref 3), some (.long x1), none, some (.int x3)], [.int (g.1 3 1), .int x3], s_hg g)) rfl ?_
  by_cases hc : x3 < (g.1 3 1)
  · rw [if_pos hc] at hB
    refine s_Fin.bf (c := (g.1 3 1) ≤ x3) (tg := 32) (p2 := 7) (L1 := [some (.ref 3), some (.long x1), none, some (.int x3)]) (st1 := []) (Int32.not_le.mpr hc) rfl ?_
    refine s_Fin.sg 5 (y := (18, [some (.ref 3), some (.long x1), none, some (.int x3)], [.int ((7 : Int32) + x3), .ref 4], s_hg g)) rfl ?_
    obtain ⟨k2, hk2, hB⟩ := s_bd hB
    refine s_Fin.ix (n := 17) (i := (7 : Int32) + x3) (pc1 := 19) (L1 := [some (.ref 3), some (.long x1), none, some (.int x3)]) (fun j1 => [.long (g.2.1 4 j1)]) (fun j1 => s_hg g) hk2 rfl rfl ?_
    refine s_Fin.sg 2 (y := (21, [some (.ref 3), some (.long x1), none, some (.int x3)], [.int (lg_cmp (g.2.1 4 k2) x1)], s_hg g)) rfl ?_
    by_cases hc : (lg_cmp (g.2.1 4 k2) x1) = 0
    · rw [if_pos hc] at hB
      refine s_Fin.bf (c := ¬ (lg_cmp (g.2.1 4 k2) x1) = 0) (tg := 26) (p2 := 21) (L1 := [some (.ref 3), some (.long x1), none, some (.int x3)]) (st1 := []) (fun h => h hc) rfl ?_
      obtain ⟨_, hN, hz⟩ := s_in_of hB
      subst hz
      have hB := hN
      refine s_Fin.sg 1 (y := (25, [some (.ref 3), some (.long x1), none, some (.int x3)], [.int x3], s_hg g)) rfl ?_
      have hB := Option.some.inj hB
      subst hB
      obtain ⟨rfl, rfl⟩ := hr
      exact s_Fin.rt rfl rfl
    · rw [if_neg hc] at hB
      refine s_Fin.bt (c := ¬ (lg_cmp (g.2.1 4 k2) x1) = 0) (tg := 26) (p2 := 21) (L1 := [some (.ref 3), some (.long x1), none, some (.int x3)]) (st1 := []) hc rfl ?_
      refine s_Fin.sg 2 (y := (2, [some (.ref 3), some (.long x1), none, some (.int (x3 + (1 : Int32)))], [], s_hg g)) rfl ?_
      have hB := Option.some.inj hB
      subst hB
      exact s_Fin.more (L := [some (.ref 3), some (.long x1), none, some (.int (x3 + (1 : Int32)))]) ⟨Or.inr rfl, Or.inr rfl, Or.inl rfl, Or.inr rfl, trivial⟩ hr
  · rw [if_neg hc] at hB
    refine s_Fin.bt (c := (g.1 3 1) ≤ x3) (tg := 32) (p2 := 7) (L1 := [some (.ref 3), some (.long x1), none, some (.int x3)]) (st1 := []) (Int32.not_lt.mp hc) rfl ?_
    obtain ⟨_, hN, hz⟩ := s_in_of hB
    subst hz
    have hB := hN
    refine s_Fin.sg 1 (y := (33, [some (.ref 3), some (.long x1), none, some (.int x3)], [.int (-1 : Int32)], s_hg g)) rfl ?_
    have hB := Option.some.inj hB
    subst hB
    obtain ⟨rfl, rfl⟩ := hr
    exact s_Fin.rt rfl rfl
noncomputable def fP_eventNamed_3 (x1 : Int64) (g : s_G) : Option (Int32) :=
  s_lp (fun x => fP_eventNamed_3_2 x1 x g) (0 : Int32)
theorem fP_eventNamed_3_s {x1 : Int64} {g : s_G} {z : Int32} (hB : fP_eventNamed_3 x1 g = some z) : s_Ev 0 s_m33 [.ref 3, .long x1] (s_hg g) (some (.int z)) (s_hg g) := by
  unfold fP_eventNamed_3 at hB
  refine s_Ev.fin ((?_ : ∀ (v : Option Value) (h' : s_H), (fun (z : Int32) (v : Option Value) (h' : s_H) => v = some (.int z) ∧ h' = s_hg g) z v h' → s_Fin 0 s_m33 (0, s_ent [.ref 3, .long x1] (s_m33).2.2.1, [], s_hg g) v h') _ _ ⟨rfl, rfl⟩)
  intro v h' hr
  refine (show s_Fin 0 s_m33 (0, [some (.ref 3), some (.long x1), none, none], [], s_hg g) v h' from ?_)
  refine s_Fin.sg 2 (y := (2, [some (.ref 3), some (.long x1), none, some (.int (0 : Int32))], [], s_hg g)) rfl ?_
  exact s_Fin.more (L := [some (.ref 3), some (.long x1), none, some (.int (0 : Int32))]) ⟨Or.inr rfl, Or.inr rfl, Or.inl rfl, Or.inr rfl, trivial⟩ (s_lp_s (P := (fun (x : Int32) (v : Option Value) (h' : s_H) => s_Fin 0 s_m33 (2, [some (.ref 3), some (.long x1), none, some (.int x)], [], s_hg g) v h')) (Q := (fun (z : Int32) (v : Option Value) (h' : s_H) => v = some (.int z) ∧ h' = s_hg g)) (fun x z hB v h' hr => fP_eventNamed_3_2_s hB hr) hB _ _ hr)
-- CampAshes$Book.readGift
noncomputable def fB_readGift_37_1_3 (g : s_G) : Option (Int32 × s_G) :=
  s_b1 (fP_boyNamed_3 (g.2.1 1 8) g) fun v1 => s_b2 (fQ_passNamed_1 v1 g) fun v3 g2 => s_b1 (s_ix 40 (g.1 37 5)) fun k5 => s_b1 (s_ix 40 (g2.1 37 5)) fun k7 => if ((s_si g2 41 k5 v3).1 41 k7) = (-1 : Int32) then (some ((0 : Int32), (s_si g2 41 k5 v3)))
  else s_b2 (fQ_passNumber_1 (1 : Int32) (40 : Int32) (s_si g2 41 k5 v3)) fun v9 g8 => s_b1 (s_ix 40 (g8.1 37 5)) fun k12 => if ((s_si g8 42 k7 v9).1 42 k12) = (-1 : Int32) then (some ((0 : Int32), (s_si g8 42 k7 v9)))
  else some ((1 : Int32), (s_si g8 42 k7 v9))
theorem fB_readGift_37_1_3_s {g : s_G} {z : Int32 × s_G} (hB : fB_readGift_37_1_3 g = some z) : s_Ev 3 s_m130 [.ref 37, .ref 1, .ref 3] (s_hg g) (some (.int z.1)) (s_hg z.2) := by
  unfold fB_readGift_37_1_3 at hB
  refine s_Ev.fin ((?_ : ∀ (v : Option Value) (h' : s_H), (fun (z : Int32 × s_G) (v : Option Value) (h' : s_H) => v = some (.int z.1) ∧ h' = s_hg z.2) z v h' → s_Fin 3 s_m130 (0, s_ent [.ref 37, .ref 1, .ref 3] (s_m130).2.2.1, [], s_hg g) v h') _ _ ⟨rfl, rfl⟩)
  intro v h' hr
  refine (show s_Fin 3 s_m130 (0, [some (.ref 37), some (.ref 1), some (.ref 3)], [], s_hg g) v h' from ?_)
  refine s_Fin.sg 8 (y := (14, [some (.ref 37), some (.ref 1), some (.ref 3)], [.long (g.2.1 1 8), .ref 3, .ref 1, .int (g.1 37 5), .ref 41], s_hg g)) rfl ?_
  obtain ⟨v1, hp, hB⟩ := s_bd hB
  refine s_Fin.cl (d := 2) (q1 := s_m32) (md := 32) (vs := [.ref 3, .long (g.2.1 1 8)]) (rest := [.ref 1, .int (g.1 37 5), .ref 41]) (h1 := s_hg g) (u := some (.int v1)) (s_Ev.up (by omega) (fP_boyNamed_3_s hp)) rfl rfl rfl rfl ?_
  obtain ⟨v3, g2, hp, hB⟩ := s_bd2 hB
  refine s_Fin.cl (d := 2) (q1 := s_m36) (md := 36) (vs := [.ref 1, .int v1]) (rest := [.int (g.1 37 5), .ref 41]) (h1 := s_hg g2) (u := some (.int v3)) (s_Ev.up (by omega) (fQ_passNamed_1_s hp)) rfl rfl rfl rfl ?_
  obtain ⟨k5, hk5, hB⟩ := s_bd hB
  refine s_Fin.ix (n := 40) (i := g.1 37 5) (pc1 := 21) (L1 := [some (.ref 37), some (.ref 1), some (.ref 3)]) (fun j4 => []) (fun j4 => s_hg (s_si g2 41 j4 v3)) hk5 rfl rfl ?_
  refine s_Fin.sg 4 (y := (29, [some (.ref 37), some (.ref 1), some (.ref 3)], [.int (g2.1 37 5), .ref 41], s_hg (s_si g2 41 k5 v3))) rfl ?_
  obtain ⟨k7, hk7, hB⟩ := s_bd hB
  refine s_Fin.ix (n := 40) (i := g2.1 37 5) (pc1 := 30) (L1 := [some (.ref 37), some (.ref 1), some (.ref 3)]) (fun j6 => [.int ((s_si g2 41 k5 v3).1 41 j6)]) (fun j6 => s_hg (s_si g2 41 k5 v3)) hk7 rfl rfl ?_
  refine s_Fin.sg 1 (y := (31, [some (.ref 37), some (.ref 1), some (.ref 3)], [.int (-1 : Int32), .int ((s_si g2 41 k5 v3).1 41 k7)], s_hg (s_si g2 41 k5 v3))) rfl ?_
  by_cases hc : ((s_si g2 41 k5 v3).1 41 k7) = (-1 : Int32)
  · rw [if_pos hc] at hB
    refine s_Fin.bf (c := ¬ ((s_si g2 41 k5 v3).1 41 k7) = (-1 : Int32)) (tg := 36) (p2 := 31) (L1 := [some (.ref 37), some (.ref 1), some (.ref 3)]) (st1 := []) (fun h => h hc) rfl ?_
    refine s_Fin.sg 1 (y := (35, [some (.ref 37), some (.ref 1), some (.ref 3)], [.int (0 : Int32)], s_hg (s_si g2 41 k5 v3))) rfl ?_
    have hB := Option.some.inj hB
    subst hB
    obtain ⟨rfl, rfl⟩ := hr
    exact s_Fin.rt rfl rfl
  · rw [if_neg hc] at hB
    refine s_Fin.bt (c := ¬ ((s_si g2 41 k5 v3).1 41 k7) = (-1 : Int32)) (tg := 36) (p2 := 31) (L1 := [some (.ref 37), some (.ref 1), some (.ref 3)]) (st1 := []) hc rfl ?_
    refine s_Fin.sg 7 (y := (48, [some (.ref 37), some (.ref 1), some (.ref 3)], [.int (40 : Int32), .int (1 : Int32), .ref 1, .int (g2.1 37 5), .ref 42], s_hg (s_si g2 41 k5 v3))) rfl ?_
    obtain ⟨v9, g8, hp, hB⟩ := s_bd2 hB
    refine s_Fin.cl (d := 2) (q1 := s_m34) (md := 34) (vs := [.ref 1, .int (1 : Int32), .int (40 : Int32)]) (rest := [.int (g2.1 37 5), .ref 42]) (h1 := s_hg g8) (u := some (.int v9)) (s_Ev.up (by omega) (fQ_passNumber_1_s hp)) rfl rfl rfl rfl ?_
    refine s_Fin.ix (n := 40) (i := g2.1 37 5) (pc1 := 52) (L1 := [some (.ref 37), some (.ref 1), some (.ref 3)]) (fun j10 => []) (fun j10 => s_hg (s_si g8 42 j10 v9)) hk7 rfl rfl ?_
    refine s_Fin.sg 4 (y := (60, [some (.ref 37), some (.ref 1), some (.ref 3)], [.int (g8.1 37 5), .ref 42], s_hg (s_si g8 42 k7 v9))) rfl ?_
    obtain ⟨k12, hk12, hB⟩ := s_bd hB
    refine s_Fin.ix (n := 40) (i := g8.1 37 5) (pc1 := 61) (L1 := [some (.ref 37), some (.ref 1), some (.ref 3)]) (fun j11 => [.int ((s_si g8 42 k7 v9).1 42 j11)]) (fun j11 => s_hg (s_si g8 42 k7 v9)) hk12 rfl rfl ?_
    refine s_Fin.sg 1 (y := (62, [some (.ref 37), some (.ref 1), some (.ref 3)], [.int (-1 : Int32), .int ((s_si g8 42 k7 v9).1 42 k12)], s_hg (s_si g8 42 k7 v9))) rfl ?_
    by_cases hc : ((s_si g8 42 k7 v9).1 42 k12) = (-1 : Int32)
    · rw [if_pos hc] at hB
      refine s_Fin.bt (c := ((s_si g8 42 k7 v9).1 42 k12) = (-1 : Int32)) (tg := 69) (p2 := 62) (L1 := [some (.ref 37), some (.ref 1), some (.ref 3)]) (st1 := []) hc rfl ?_
      refine s_Fin.sg 1 (y := (70, [some (.ref 37), some (.ref 1), some (.ref 3)], [.int (0 : Int32)], s_hg (s_si g8 42 k7 v9))) rfl ?_
      have hB := Option.some.inj hB
      subst hB
      obtain ⟨rfl, rfl⟩ := hr
      exact s_Fin.rt rfl rfl
    · rw [if_neg hc] at hB
      refine s_Fin.bf (c := ((s_si g8 42 k7 v9).1 42 k12) = (-1 : Int32)) (tg := 69) (p2 := 62) (L1 := [some (.ref 37), some (.ref 1), some (.ref 3)]) (st1 := []) hc rfl ?_
      refine s_Fin.sg 2 (y := (70, [some (.ref 37), some (.ref 1), some (.ref 3)], [.int (1 : Int32)], s_hg (s_si g8 42 k7 v9))) rfl ?_
      have hB := Option.some.inj hB
      subst hB
      obtain ⟨rfl, rfl⟩ := hr
      exact s_Fin.rt rfl rfl
