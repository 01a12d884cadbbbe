-- CampAshesModel.calm
noncomputable def fM_calm_130_115 (t0 : Int32) (g : s_G) : Option (Int32 × s_G) :=
  s_b1 (fM_takeBack_130 g) fun g5 => if t0 = (-1 : Int32) then (some ((-1 : Int32), g5))
  else some (t0 - (g5.1 132 47), g5)
theorem fM_calm_130_115_s {t0 : Int32} {g : s_G} {z : Int32 × s_G} (hB : fM_calm_130_115 t0 g = some z) {v : Option Value} {h' : s_H} (hr : (fun (z : Int32 × s_G) (v : Option Value) (h' : s_H) => v = some (.int z.1) ∧ h' = s_hg z.2) z v h') : s_Fin 4 s_m245 (115, [some (.ref 130), none, none], [.int t0], s_hg g) v h' := by
  unfold fM_calm_130_115 at hB
  refine s_Fin.sg 2 (y := (117, [some (.ref 130), none, some (.int t0)], [.ref 130], s_hg g)) rfl ?_
  obtain ⟨g5, hp, hB⟩ := s_bd hB
  refine s_Fin.cl (d := 3) (q1 := s_m247) (md := 247) (vs := [.ref 130]) (rest := []) (h1 := s_hg g5) (u := none) (s_Ev.up (by omega) (fM_takeBack_130_s hp)) rfl rfl rfl rfl ?_
  refine s_Fin.sg 2 (y := (122, [some (.ref 130), none, some (.int t0)], [.int (-1 : Int32), .int t0], s_hg g5)) rfl ?_
  by_cases hc : t0 = (-1 : Int32)
  · rw [if_pos hc] at hB
    refine s_Fin.bf (c := ¬ t0 = (-1 : Int32)) (tg := 129) (p2 := 122) (L1 := [some (.ref 130), none, some (.int t0)]) (st1 := []) (fun h => h hc) rfl ?_
    refine s_Fin.sg 2 (y := (138, [some (.ref 130), none, some (.int t0)], [.int (-1 : Int32)], s_hg g5)) rfl ?_
    have hB := Option.some.inj hB
    subst hB
    obtain ⟨rfl, rfl⟩ := hr
    exact s_Fin.rt rfl rfl
  · rw [if_neg hc] at hB
    refine s_Fin.bt (c := ¬ t0 = (-1 : Int32)) (tg := 129) (p2 := 122) (L1 := [some (.ref 130), none, some (.int t0)]) (st1 := []) hc rfl ?_
    refine s_Fin.sg 6 (y := (138, [some (.ref 130), none, some (.int t0)], [.int (t0 - (g5.1 132 47))], s_hg g5)) rfl ?_
    have hB := Option.some.inj hB
    subst hB
    obtain ⟨rfl, rfl⟩ := hr
    exact s_Fin.rt rfl rfl
noncomputable def fM_calm_130_96 (x1 : Int32) (g : s_G) : Option (Int32 × s_G) :=
  s_b1 (fM_isOver_130 x1 g) fun v4 => if v4 = 0 then (fM_calm_130_115 (g.1 132 47) g)
  else fM_calm_130_115 (-1 : Int32) g
theorem fM_calm_130_96_s {x1 : Int32} {g : s_G} {z : Int32 × s_G} (hB : fM_calm_130_96 x1 g = some z) {v : Option Value} {h' : s_H} (hr : (fun (z : Int32 × s_G) (v : Option Value) (h' : s_H) => v = some (.int z.1) ∧ h' = s_hg z.2) z v h') : s_Fin 4 s_m245 (96, [some (.ref 130), some (.int x1), none], [], s_hg g) v h' := by
  unfold fM_calm_130_96 at hB
  refine s_Fin.sg 2 (y := (98, [some (.ref 130), some (.int x1), none], [.int x1, .ref 130], s_hg g)) rfl ?_
  obtain ⟨v4, hp, hB⟩ := s_bd hB
  refine s_Fin.cl (d := 3) (q1 := s_m196) (md := 196) (vs := [.ref 130, .int x1]) (rest := []) (h1 := s_hg g) (u := some (.int v4)) (s_Ev.up (by omega) (fM_isOver_130_s hp)) rfl rfl rfl rfl ?_
  by_cases hc : v4 = 0
  · rw [if_pos hc] at hB
    refine s_Fin.bt (c := v4 = 0) (tg := 108) (p2 := 101) (L1 := [some (.ref 130), some (.int x1), none]) (st1 := []) hc rfl ?_
    refine s_Fin.sg 4 (y := (115, [some (.ref 130), some (.int x1), none], [.int (g.1 132 47)], s_hg g)) rfl ?_
    exact s_Fin.more (L := [some (.ref 130), none, none]) ⟨Or.inr rfl, Or.inl rfl, Or.inl rfl, trivial⟩ (fM_calm_130_115_s hB hr)
  · rw [if_neg hc] at hB
    refine s_Fin.bf (c := v4 = 0) (tg := 108) (p2 := 101) (L1 := [some (.ref 130), some (.int x1), none]) (st1 := []) hc rfl ?_
    refine s_Fin.sg 2 (y := (115, [some (.ref 130), some (.int x1), none], [.int (-1 : Int32)], s_hg g)) rfl ?_
    exact s_Fin.more (L := [some (.ref 130), none, none]) ⟨Or.inr rfl, Or.inl rfl, Or.inl rfl, trivial⟩ (fM_calm_130_115_s hB hr)
noncomputable def fM_calm_130_42 (x1 : Int32) (x2 : Int32) (g : s_G) : Option ((Int32 × s_G) ⊕ ((s_G) ⊕ (Int32 × s_G))) :=
  if x2 < (g.1 132 0) then (s_b1 (fM_isOver_130 x2 g) fun v6 => if v6 = 0 then (some (.inl (x2 + (1 : Int32), g)))
  else s_b1 (fM_mostOf_130 x2 g) fun v7 => s_b1 (fM_whySay_130 x2 v7 g) fun v8 => if v8 = 0 then (s_b1 (fM_mostOf_130 x2 g) fun v9 => s_b1 (fM_doTell_130 x2 v9 g) fun g10 => some (.inl (x2 + (1 : Int32), g10)))
  else some (.inl (x2 + (1 : Int32), g)))
  else s_in (s_b1 (fM_oneDay_130 g) fun g11 => some (.inl g11))
theorem fM_calm_130_42_s {x1 : Int32} {x2 : Int32} {g : s_G} {z : (Int32 × s_G) ⊕ ((s_G) ⊕ (Int32 × s_G))} (hB : fM_calm_130_42 x1 x2 g = some z) {v : Option Value} {h' : s_H} (hr : (s_sm (fun (x : Int32 × s_G) (v : Option Value) (h' : s_H) => s_Fin 4 s_m245 (42, [some (.ref 130), some (.int x1), some (.int x.1)], [], s_hg x.2) v h') (s_sm (fun (x : s_G) (v : Option Value) (h' : s_H) => s_Fin 4 s_m245 (19, [some (.ref 130), some (.int x1), none], [], s_hg x) v h') (fun (z : Int32 × s_G) (v : Option Value) (h' : s_H) => v = some (.int z.1) ∧ h' = s_hg z.2))) z v h') : s_Fin 4 s_m245 (42, [some (.ref 130), some (.int x1), some (.int x2)], [], s_hg g) v h' := by
  unfold fM_calm_130_42 at hB
  refine s_Fin.sg 5 (y := (49, [some (.ref 130), some (.int x1), some (.int x2)], [.int (g.1 132 0), .int x2], s_hg g)) rfl ?_
  by_cases hc : x2 < (g.1 132 0)
  · rw [if_pos hc] at hB
    refine s_Fin.bf (c := (g.1 132 0) ≤ x2) (tg := 89) (p2 := 49) (L1 := [some (.ref 130), some (.int x1), some (.int x2)]) (st1 := []) (Int32.not_le.mpr hc) rfl ?_
    refine s_Fin.sg 2 (y := (54, [some (.ref 130), some (.int x1), some (.int x2)], [.int x2, .ref 130], s_hg g)) rfl ?_
    obtain ⟨v6, hp, hB⟩ := s_bd hB
    refine s_Fin.cl (d := 3) (q1 := s_m196) (md := 196) (vs := [.ref 130, .int x2]) (rest := []) (h1 := s_hg g) (u := some (.int v6)) (s_Ev.up (by omega) (fM_isOver_130_s hp)) rfl rfl rfl rfl ?_
    by_cases hc : v6 = 0
    · rw [if_pos hc] at hB
      refine s_Fin.bt (c := v6 = 0) (tg := 83) (p2 := 57) (L1 := [some (.ref 130), some (.int x1), some (.int x2)]) (st1 := []) hc rfl ?_
      refine s_Fin.sg 2 (y := (42, [some (.ref 130), some (.int x1), some (.int (x2 + (1 : Int32)))], [], s_hg g)) rfl ?_
      have hB := Option.some.inj hB
      subst hB
      exact s_Fin.more (L := [some (.ref 130), some (.int x1), some (.int (x2 + (1 : Int32)))]) ⟨Or.inr rfl, Or.inr rfl, Or.inr rfl, trivial⟩ hr
    · rw [if_neg hc] at hB
      refine s_Fin.bf (c := v6 = 0) (tg := 83) (p2 := 57) (L1 := [some (.ref 130), some (.int x1), some (.int x2)]) (st1 := []) hc rfl ?_
      refine s_Fin.sg 4 (y := (64, [some (.ref 130), some (.int x1), some (.int x2)], [.int x2, .ref 130, .int x2, .ref 130], s_hg g)) rfl ?_
      obtain ⟨v7, hp, hB⟩ := s_bd hB
      refine s_Fin.cl (d := 3) (q1 := s_m229) (md := 229) (vs := [.ref 130, .int x2]) (rest := [.int x2, .ref 130]) (h1 := s_hg g) (u := some (.int v7)) (s_Ev.up (by omega) (fM_mostOf_130_s hp)) rfl rfl rfl rfl ?_
      obtain ⟨v8, hp, hB⟩ := s_bd hB
      refine s_Fin.cl (d := 3) (q1 := s_m213) (md := 213) (vs := [.ref 130, .int x2, .int v7]) (rest := []) (h1 := s_hg g) (u := some (.int v8)) (s_Ev.up (by omega) (fM_whySay_130_s hp)) rfl rfl rfl rfl ?_
      by_cases hc : v8 = 0
      · rw [if_pos hc] at hB
        refine s_Fin.bf (c := ¬ v8 = 0) (tg := 83) (p2 := 70) (L1 := [some (.ref 130), some (.int x1), some (.int x2)]) (st1 := []) (fun h => h hc) rfl ?_
        refine s_Fin.sg 4 (y := (77, [some (.ref 130), some (.int x1), some (.int x2)], [.int x2, .ref 130, .int x2, .ref 130], s_hg g)) rfl ?_
        obtain ⟨v9, hp, hB⟩ := s_bd hB
        refine s_Fin.cl (d := 3) (q1 := s_m229) (md := 229) (vs := [.ref 130, .int x2]) (rest := [.int x2, .ref 130]) (h1 := s_hg g) (u := some (.int v9)) (s_Ev.up (by omega) (fM_mostOf_130_s hp)) rfl rfl rfl rfl ?_
        obtain ⟨g10, hp, hB⟩ := s_bd hB
        refine s_Fin.cl (d := 3) (q1 := s_m216) (md := 216) (vs := [.ref 130, .int x2, .int v9]) (rest := []) (h1 := s_hg g10) (u := none) (s_Ev.up (by omega) (fM_doTell_130_s hp)) rfl rfl rfl rfl ?_
        refine s_Fin.sg 2 (y := (42, [some (.ref 130), some (.int x1), some (.int (x2 + (1 : Int32)))], [], s_hg g10)) rfl ?_
        have hB := Option.some.inj hB
        subst hB
        exact s_Fin.more (L := [some (.ref 130), some (.int x1), some (.int (x2 + (1 : Int32)))]) ⟨Or.inr rfl, Or.inr rfl, Or.inr rfl, trivial⟩ hr
      · rw [if_neg hc] at hB
        refine s_Fin.bt (c := ¬ v8 = 0) (tg := 83) (p2 := 70) (L1 := [some (.ref 130), some (.int x1), some (.int x2)]) (st1 := []) hc rfl ?_
        refine s_Fin.sg 2 (y := (42, [some (.ref 130), some (.int x1), some (.int (x2 + (1 : Int32)))], [], s_hg g)) rfl ?_
        have hB := Option.some.inj hB
        subst hB
        exact s_Fin.more (L := [some (.ref 130), some (.int x1), some (.int (x2 + (1 : Int32)))]) ⟨Or.inr rfl, Or.inr rfl, Or.inr rfl, trivial⟩ hr
  · rw [if_neg hc] at hB
    refine s_Fin.bt (c := (g.1 132 0) ≤ x2) (tg := 89) (p2 := 49) (L1 := [some (.ref 130), some (.int x1), some (.int x2)]) (st1 := []) (Int32.not_lt.mp hc) rfl ?_
    obtain ⟨_, hN, hz⟩ := s_in_of hB
    subst hz
    have hB := hN
    refine s_Fin.sg 1 (y := (90, [some (.ref 130), some (.int x1), some (.int x2)], [.ref 130], s_hg g)) rfl ?_
    obtain ⟨g11, hp, hB⟩ := s_bd hB
    refine s_Fin.cl (d := 3) (q1 := s_m226) (md := 226) (vs := [.ref 130]) (rest := []) (h1 := s_hg g11) (u := none) (s_Ev.up (by omega) (fM_oneDay_130_s hp)) rfl rfl rfl rfl ?_
    refine s_Fin.sg 1 (y := (19, [some (.ref 130), some (.int x1), some (.int x2)], [], s_hg g11)) rfl ?_
    have hB := Option.some.inj hB
    subst hB
    exact s_Fin.more (L := [some (.ref 130), some (.int x1), none]) ⟨Or.inr rfl, Or.inr rfl, Or.inl rfl, trivial⟩ hr
noncomputable def fM_calm_130_19 (x1 : Int32) (g : s_G) : Option ((s_G) ⊕ (Int32 × s_G)) :=
  s_b1 (fM_isOver_130 x1 g) fun v3 => if v3 = 0 then (s_in (fM_calm_130_96 x1 g))
  else if (g.1 132 47) < (400 : Int32) then (s_lp (fun x => fM_calm_130_42 x1 x.1 x.2) ((0 : Int32), g))
  else s_in (fM_calm_130_96 x1 g)
theorem fM_calm_130_19_s {x1 : Int32} {g : s_G} {z : (s_G) ⊕ (Int32 × s_G)} (hB : fM_calm_130_19 x1 g = some z) {v : Option Value} {h' : s_H} (hr : (s_sm (fun (x : s_G) (v : Option Value) (h' : s_H) => s_Fin 4 s_m245 (19, [some (.ref 130), some (.int x1), none], [], s_hg x) v h') (fun (z : Int32 × s_G) (v : Option Value) (h' : s_H) => v = some (.int z.1) ∧ h' = s_hg z.2)) z v h') : s_Fin 4 s_m245 (19, [some (.ref 130), some (.int x1), none], [], s_hg g) v h' := by
  unfold fM_calm_130_19 at hB
  refine s_Fin.sg 2 (y := (21, [some (.ref 130), some (.int x1), none], [.int x1, .ref 130], s_hg g)) rfl ?_
  obtain ⟨v3, hp, hB⟩ := s_bd hB
  refine s_Fin.cl (d := 3) (q1 := s_m196) (md := 196) (vs := [.ref 130, .int x1]) (rest := []) (h1 := s_hg g) (u := some (.int v3)) (s_Ev.up (by omega) (fM_isOver_130_s hp)) rfl rfl rfl rfl ?_
  by_cases hc : v3 = 0
  · rw [if_pos hc] at hB
    refine s_Fin.bt (c := v3 = 0) (tg := 96) (p2 := 24) (L1 := [some (.ref 130), some (.int x1), none]) (st1 := []) hc rfl ?_
    obtain ⟨_, hN, hz⟩ := s_in_of hB
    subst hz
    have hB := hN
    exact s_Fin.more (L := [some (.ref 130), some (.int x1), none]) ⟨Or.inr rfl, Or.inr rfl, Or.inl rfl, trivial⟩ (fM_calm_130_96_s hB hr)
  · rw [if_neg hc] at hB
    refine s_Fin.bf (c := v3 = 0) (tg := 96) (p2 := 24) (L1 := [some (.ref 130), some (.int x1), none]) (st1 := []) hc rfl ?_
    refine s_Fin.sg 5 (y := (37, [some (.ref 130), some (.int x1), none], [.int (400 : Int32), .int (g.1 132 47)], s_hg g)) rfl ?_
    by_cases hc : (g.1 132 47) < (400 : Int32)
    · rw [if_pos hc] at hB
      refine s_Fin.bf (c := (400 : Int32) ≤ (g.1 132 47)) (tg := 96) (p2 := 37) (L1 := [some (.ref 130), some (.int x1), none]) (st1 := []) (Int32.not_le.mpr hc) rfl ?_
      refine s_Fin.sg 2 (y := (42, [some (.ref 130), some (.int x1), some (.int (0 : Int32))], [], s_hg g)) rfl ?_
      exact s_Fin.more (L := [some (.ref 130), some (.int x1), some (.int (0 : Int32))]) ⟨Or.inr rfl, Or.inr rfl, Or.inr rfl, trivial⟩ (s_lp_s (P := (fun (x : Int32 × s_G) (v : Option Value) (h' : s_H) => s_Fin 4 s_m245 (42, [some (.ref 130), some (.int x1), some (.int x.1)], [], s_hg x.2) v h')) (Q := (s_sm (fun (x : s_G) (v : Option Value) (h' : s_H) => s_Fin 4 s_m245 (19, [some (.ref 130), some (.int x1), none], [], s_hg x) v h') (fun (z : Int32 × s_G) (v : Option Value) (h' : s_H) => v = some (.int z.1) ∧ h' = s_hg z.2))) (fun x z hB v h' hr => fM_calm_130_42_s hB hr) hB _ _ hr)
    · rw [if_neg hc] at hB
      refine s_Fin.bt (c := (400 : Int32) ≤ (g.1 132 47)) (tg := 96) (p2 := 37) (L1 := [some (.ref 130), some (.int x1), none]) (st1 := []) (Int32.not_lt.mp hc) rfl ?_
      obtain ⟨_, hN, hz⟩ := s_in_of hB
      subst hz
      have hB := hN
      exact s_Fin.more (L := [some (.ref 130), some (.int x1), none]) ⟨Or.inr rfl, Or.inr rfl, Or.inl rfl, trivial⟩ (fM_calm_130_96_s hB hr)
noncomputable def fM_calm_130 (x1 : Int32) (g : s_G) : Option (Int32 × s_G) :=
  s_b1 (fM_isBoy_130 x1 (s_si g 130 0 (0 : Int32))) fun v1 => if v1 = 0 then (some ((-1 : Int32), (s_si g 130 0 (0 : Int32))))
  else s_b1 (fM_layAside_130 (s_si g 130 0 (0 : Int32))) fun g2 => s_lp (fun x => fM_calm_130_19 x1 x) g2
theorem fM_calm_130_s {x1 : Int32} {g : s_G} {z : Int32 × s_G} (hB : fM_calm_130 x1 g = some z) : s_Ev 4 s_m245 [.ref 130, .int x1] (s_hg g) (some (.int z.1)) (s_hg z.2) := by
  unfold fM_calm_130 at hB
  refine s_Ev.fin ((?_ : ∀ (v : Option Value) (h' : s_H), (fun (z : Int32 × s_G) (v : Option Value) (h' : s_H) => v = some (.int z.1) ∧ h' = s_hg z.2) z v h' → s_Fin 4 s_m245 (0, s_ent [.ref 130, .int x1] (s_m245).2.2.1, [], s_hg g) v h') _ _ ⟨rfl, rfl⟩)
  intro v h' hr
  refine (show s_Fin 4 s_m245 (0, [some (.ref 130), some (.int x1), none], [], s_hg g) v h' from ?_)
  refine s_Fin.sg 5 (y := (7, [some (.ref 130), some (.int x1), none], [.int x1, .ref 130], s_hg (s_si g 130 0 (0 : Int32)))) rfl ?_
  obtain ⟨v1, hp, hB⟩ := s_bd hB
  refine s_Fin.cl (d := 3) (q1 := s_m192) (md := 192) (vs := [.ref 130, .int x1]) (rest := []) (h1 := s_hg (s_si g 130 0 (0 : Int32))) (u := some (.int v1)) (s_Ev.up (by omega) (fM_isBoy_130_s hp)) rfl rfl rfl rfl ?_
  by_cases hc : v1 = 0
  · rw [if_pos hc] at hB
    refine s_Fin.bf (c := ¬ v1 = 0) (tg := 15) (p2 := 10) (L1 := [some (.ref 130), some (.int x1), none]) (st1 := []) (fun h => h hc) rfl ?_
    refine s_Fin.sg 1 (y := (14, [some (.ref 130), some (.int x1), none], [.int (-1 : Int32)], s_hg (s_si g 130 0 (0 : Int32)))) rfl ?_
    have hB := Option.some.inj hB
    subst hB
    obtain ⟨rfl, rfl⟩ := hr
    exact s_Fin.rt rfl rfl
  · rw [if_neg hc] at hB
    refine s_Fin.bt (c := ¬ v1 = 0) (tg := 15) (p2 := 10) (L1 := [some (.ref 130), some (.int x1), none]) (st1 := []) hc rfl ?_
    refine s_Fin.sg 1 (y := (16, [some (.ref 130), some (.int x1), none], [.ref 130], s_hg (s_si g 130 0 (0 : Int32)))) rfl ?_
    obtain ⟨g2, hp, hB⟩ := s_bd hB
    refine s_Fin.cl (d := 3) (q1 := s_m246) (md := 246) (vs := [.ref 130]) (rest := []) (h1 := s_hg g2) (u := none) (s_Ev.up (by omega) (fM_layAside_130_s hp)) rfl rfl rfl rfl ?_
    exact s_Fin.more (L := [some (.ref 130), some (.int x1), none]) ⟨Or.inr rfl, Or.inr rfl, Or.inl rfl, trivial⟩ (s_lp_s (P := (fun (x : s_G) (v : Option Value) (h' : s_H) => s_Fin 4 s_m245 (19, [some (.ref 130), some (.int x1), none], [], s_hg x) v h')) (Q := (fun (z : Int32 × s_G) (v : Option Value) (h' : s_H) => v = some (.int z.1) ∧ h' = s_hg z.2)) (fun x z hB v h' hr => fM_calm_130_19_s hB hr) hB _ _ hr)
-- CampAshes$State.heaviest
noncomputable def fT_heaviest_22_7 (x1 : Int32) (x2 : Int32) (x3 : Int32) (x4 : Int32) (g : s_G) : Option ((Int32 × Int32 × Int32) ⊕ (Int32)) :=
  if x4 < (g.1 3 1) then (s_b1 (fT_onBoy_22 x4 x1 g) fun v1 => if x3 < v1 then (s_b1 (fT_onBoy_22 x4 x1 g) fun v2 => some (.inl (x4, v2, x4 + (1 : Int32))))
  else some (.inl (x2, x3, x4 + (1 : Int32))))
  else s_in (some x2)
theorem fT_heaviest_22_7_s {x1 : Int32} {x2 : Int32} {x3 : Int32} {x4 : Int32} {g : s_G} {z : (Int32 × Int32 × Int32) ⊕ (Int32)} (hB : fT_heaviest_22_7 x1 x2 x3 x4 g = some z) {v : Option Value} {h' : s_H} (hr : (s_sm (fun (x : Int32 × Int32 × Int32) (v : Option Value) (h' : s_H) => s_Fin 1 s_m87 (7, [some (.ref 22), some (.int x1), some (.int x.1), some (.int x.2.1), some (.int x.2.2)], [], s_hg g) v h') (fun (z : Int32) (v : Option Value) (h' : s_H) => v = some (.int z) ∧ h' = s_hg g)) z v h') : s_Fin 1 s_m87 (7, [some (.ref 22), some (.int x1), some (.int x2), some (.int x3), some (.int x4)], [], s_hg g) v h' := by
  unfold fT_heaviest_22_7 at hB
  refine s_Fin.sg 4 (y := (16, [some (.ref 22), some (.int x1), some (.int x2), some (.int x3), some (.int x4)], [.int (g.1 3 1), .int x4], s_hg g)) rfl ?_
  by_cases hc : x4 < (g.1 3 1)
  · rw [if_pos hc] at hB
    refine s_Fin.bf (c := (g.1 3 1) ≤ x4) (tg := 47) (p2 := 16) (L1 := [some (.ref 22), some (.int x1), some (.int x2), some (.int x3), some (.int x4)]) (st1 := []) (Int32.not_le.mpr hc) rfl ?_
    refine s_Fin.sg 3 (y := (23, [some (.ref 22), some (.int x1), some (.int x2), some (.int x3), some (.int x4)], [.int x1, .int x4, .ref 22], s_hg g)) rfl ?_
    obtain ⟨v1, hp, hB⟩ := s_bd hB
    refine s_Fin.cl (d := 0) (q1 := s_m50) (md := 50) (vs := [.ref 22, .int x4, .int x1]) (rest := []) (h1 := s_hg g) (u := some (.int v1)) (s_Ev.up (by omega) (fT_onBoy_22_s hp)) rfl rfl rfl rfl ?_
    refine s_Fin.sg 1 (y := (27, [some (.ref 22), some (.int x1), some (.int x2), some (.int x3), some (.int x4)], [.int x3, .int v1], s_hg g)) rfl ?_
    by_cases hc : x3 < v1
    · rw [if_pos hc] at hB
      refine s_Fin.bf (c := v1 ≤ x3) (tg := 41) (p2 := 27) (L1 := [some (.ref 22), some (.int x1), some (.int x2), some (.int x3), some (.int x4)]) (st1 := []) (Int32.not_le.mpr hc) rfl ?_
      refine s_Fin.sg 3 (y := (34, [some (.ref 22), some (.int x1), some (.int x2), some (.int x3), some (.int x4)], [.int x1, .int x4, .ref 22], s_hg g)) rfl ?_
      obtain ⟨v2, hp, hB⟩ := s_bd hB
      refine s_Fin.cl (d := 0) (q1 := s_m50) (md := 50) (vs := [.ref 22, .int x4, .int x1]) (rest := []) (h1 := s_hg g) (u := some (.int v2)) (s_Ev.up (by omega) (fT_onBoy_22_s hp)) rfl rfl rfl rfl ?_
      refine s_Fin.sg 5 (y := (7, [some (.ref 22), some (.int x1), some (.int x4), some (.int v2), some (.int (x4 + (1 : Int32)))], [], s_hg g)) rfl ?_
      have hB := Option.some.inj hB
      subst hB
      exact s_Fin.more (L := [some (.ref 22), some (.int x1), some (.int x4), some (.int v2), some (.int (x4 + (1 : Int32)))]) ⟨Or.inr rfl, Or.inr rfl, Or.inr rfl, Or.inr rfl, Or.inr rfl, trivial⟩ hr
    · rw [if_neg hc] at hB
      refine s_Fin.bt (c := v1 ≤ x3) (tg := 41) (p2 := 27) (L1 := [some (.ref 22), some (.int x1), some (.int x2), some (.int x3), some (.int x4)]) (st1 := []) (Int32.not_lt.mp hc) rfl ?_
      refine s_Fin.sg 2 (y := (7, [some (.ref 22), some (.int x1), some (.int x2), some (.int x3), some (.int (x4 + (1 : Int32)))], [], s_hg g)) rfl ?_
      have hB := Option.some.inj hB
      subst hB
      exact s_Fin.more (L := [some (.ref 22), some (.int x1), some (.int x2), some (.int x3), some (.int (x4 + (1 : Int32)))]) ⟨Or.inr rfl, Or.inr rfl, Or.inr rfl, Or.inr rfl, Or.inr rfl, trivial⟩ hr
  · rw [if_neg hc] at hB
    refine s_Fin.bt (c := (g.1 3 1) ≤ x4) (tg := 47) (p2 := 16) (L1 := [some (.ref 22), some (.int x1), some (.int x2), some (.int x3), some (.int x4)]) (st1 := []) (Int32.not_lt.mp hc) rfl ?_
    obtain ⟨_, hN, hz⟩ := s_in_of hB
    subst hz
    have hB := hN
    refine s_Fin.sg 1 (y := (48, [some (.ref 22), some (.int x1), some (.int x2), some (.int x3), some (.int x4)], [.int x2], s_hg g)) rfl ?_
    have hB := Option.some.inj hB
    subst hB
    obtain ⟨rfl, rfl⟩ := hr
    exact s_Fin.rt rfl rfl
noncomputable def fT_heaviest_22 (x1 : Int32) (g : s_G) : Option (Int32) :=
  s_lp (fun x => fT_heaviest_22_7 x1 x.1 x.2.1 x.2.2 g) ((-1 : Int32), (0 : Int32), (0 : Int32))
theorem fT_heaviest_22_s {x1 : Int32} {g : s_G} {z : Int32} (hB : fT_heaviest_22 x1 g = some z) : s_Ev 1 s_m87 [.ref 22, .int x1] (s_hg g) (some (.int z)) (s_hg g) := by
  unfold fT_heaviest_22 at hB
  refine s_Ev.fin ((?_ : ∀ (v : Option Value) (h' : s_H), (fun (z : Int32) (v : Option Value) (h' : s_H) => v = some (.int z) ∧ h' = s_hg g) z v h' → s_Fin 1 s_m87 (0, s_ent [.ref 22, .int x1] (s_m87).2.2.1, [], s_hg g) v h') _ _ ⟨rfl, rfl⟩)
  intro v h' hr
  refine (show s_Fin 1 s_m87 (0, [some (.ref 22), some (.int x1), none, none, none], [], s_hg g) v h' from ?_)
  refine s_Fin.sg 6 (y := (7, [some (.ref 22), some (.int x1), some (.int (-1 : Int32)), some (.int (0 : Int32)), some (.int (0 : Int32))], [], s_hg g)) rfl ?_
  exact s_Fin.more (L := [some (.ref 22), some (.int x1), some (.int (-1 : Int32)), some (.int (0 : Int32)), some (.int (0 : Int32))]) ⟨Or.inr rfl, Or.inr rfl, Or.inr rfl, Or.inr rfl, Or.inr rfl, trivial⟩ (s_lp_s (P := (fun (x : Int32 × Int32 × Int32) (v : Option Value) (h' : s_H) => s_Fin 1 s_m87 (7, [some (.ref 22), some (.int x1), some (.int x.1), some (.int x.2.1), some (.int x.2.2)], [], s_hg g) v h')) (Q := (fun (z : Int32) (v : Option Value) (h' : s_H) => v = some (.int z) ∧ h' = s_hg g)) (fun x z hB v h' hr => fT_heaviest_22_7_s hB hr) hB _ _ hr)
-- CampAshes$State.allWhoAreOverTell
noncomputable def fT_allWhoAreOverTell_22_30 (x1 : Int32) (t0 : Int32) (g : s_G) : Option ((Int32 × s_G) ⊕ (s_G)) :=
  if t0 = (-1 : Int32) then (some (.inl (x1 + (1 : Int32), g)))
  else s_b2 (fT_tellEvent_22 x1 t0 g) fun v3 g2 => some (.inl (x1 + (1 : Int32), g2))
theorem fT_allWhoAreOverTell_22_30_s {x1 : Int32} {t0 : Int32} {g : s_G} {z : (Int32 × s_G) ⊕ (s_G)} (hB : fT_allWhoAreOverTell_22_30 x1 t0 g = some z) {v : Option Value} {h' : s_H} (hr : (s_sm (fun (x : Int32 × s_G) (v : Option Value) (h' : s_H) => s_Fin 3 s_m112 (2, [some (.ref 22), some (.int x.1), none], [], s_hg x.2) v h') (fun (z : s_G) (v : Option Value) (h' : s_H) => v = none ∧ h' = s_hg z)) z v h') : s_Fin 3 s_m112 (30, [some (.ref 22), some (.int x1), none], [.int t0], s_hg g) v h' := by
  unfold fT_allWhoAreOverTell_22_30 at hB
  refine s_Fin.sg 3 (y := (33, [some (.ref 22), some (.int x1), some (.int t0)], [.int (-1 : Int32), .int t0], s_hg g)) rfl ?_
  by_cases hc : t0 = (-1 : Int32)
  · rw [if_pos hc] at hB
    refine s_Fin.bt (c := t0 = (-1 : Int32)) (tg := 43) (p2 := 33) (L1 := [some (.ref 22), some (.int x1), some (.int t0)]) (st1 := []) hc rfl ?_
    refine s_Fin.sg 2 (y := (2, [some (.ref 22), some (.int (x1 + (1 : Int32))), some (.int t0)], [], s_hg g)) rfl ?_
    have hB := Option.some.inj hB
    subst hB
    exact s_Fin.more (L := [some (.ref 22), some (.int (x1 + (1 : Int32))), none]) ⟨Or.inr rfl, Or.inr rfl, Or.inl rfl, trivial⟩ hr
  · rw [if_neg hc] at hB
    refine s_Fin.bf (c := t0 = (-1 : Int32)) (tg := 43) (p2 := 33) (L1 := [some (.ref 22), some (.int x1), some (.int t0)]) (st1 := []) hc rfl ?_
    refine s_Fin.sg 3 (y := (39, [some (.ref 22), some (.int x1), some (.int t0)], [.int t0, .int x1, .ref 22], s_hg g)) rfl ?_
    obtain ⟨v3, g2, hp, hB⟩ := s_bd2 hB
    refine s_Fin.cl (d := 2) (q1 := s_m63) (md := 63) (vs := [.ref 22, .int x1, .int t0]) (rest := []) (h1 := s_hg g2) (u := some (.int v3)) (s_Ev.up (by omega) (fT_tellEvent_22_s hp)) rfl rfl rfl rfl ?_
    refine s_Fin.sg 3 (y := (2, [some (.ref 22), some (.int (x1 + (1 : Int32))), some (.int t0)], [], s_hg g2)) rfl ?_
    have hB := Option.some.inj hB
    subst hB
    exact s_Fin.more (L := [some (.ref 22), some (.int (x1 + (1 : Int32))), none]) ⟨Or.inr rfl, Or.inr rfl, Or.inl rfl, trivial⟩ hr
noncomputable def fT_allWhoAreOverTell_22_2 (x1 : Int32) (g : s_G) : Option ((Int32 × s_G) ⊕ (s_G)) :=
  if x1 < (g.1 3 0) then (s_b1 (fT_isOver_22 x1 g) fun v1 => if v1 = 0 then (fT_allWhoAreOverTell_22_30 x1 (-1 : Int32) g)
  else s_b1 (fT_heaviest_22 x1 g) fun v4 => fT_allWhoAreOverTell_22_30 x1 v4 g)
  else s_in (some g)
theorem fT_allWhoAreOverTell_22_2_s {x1 : Int32} {g : s_G} {z : (Int32 × s_G) ⊕ (s_G)} (hB : fT_allWhoAreOverTell_22_2 x1 g = some z) {v : Option Value} {h' : s_H} (hr : (s_sm (fun (x : Int32 × s_G) (v : Option Value) (h' : s_H) => s_Fin 3 s_m112 (2, [some (.ref 22), some (.int x.1), none], [], s_hg x.2) v h') (fun (z : s_G) (v : Option Value) (h' : s_H) => v = none ∧ h' = s_hg z)) z v h') : s_Fin 3 s_m112 (2, [some (.ref 22), some (.int x1), none], [], s_hg g) v h' := by
  unfold fT_allWhoAreOverTell_22_2 at hB
  refine s_Fin.sg 4 (y := (10, [some (.ref 22), some (.int x1), none], [.int (g.1 3 0), .int x1], s_hg g)) rfl ?_
  by_cases hc : x1 < (g.1 3 0)
  · rw [if_pos hc] at hB
    refine s_Fin.bf (c := (g.1 3 0) ≤ x1) (tg := 49) (p2 := 10) (L1 := [some (.ref 22), some (.int x1), none]) (st1 := []) (Int32.not_le.mpr hc) rfl ?_
    refine s_Fin.sg 2 (y := (15, [some (.ref 22), some (.int x1), none], [.int x1, .ref 22], s_hg g)) rfl ?_
    obtain ⟨v1, hp, hB⟩ := s_bd hB
    refine s_Fin.cl (d := 2) (q1 := s_m59) (md := 59) (vs := [.ref 22, .int x1]) (rest := []) (h1 := s_hg g) (u := some (.int v1)) (s_Ev.up (by omega) (fT_isOver_22_s hp)) rfl rfl rfl rfl ?_
    by_cases hc : v1 = 0
    · rw [if_pos hc] at hB
      refine s_Fin.bt (c := v1 = 0) (tg := 29) (p2 := 18) (L1 := [some (.ref 22), some (.int x1), none]) (st1 := []) hc rfl ?_
      refine s_Fin.sg 1 (y := (30, [some (.ref 22), some (.int x1), none], [.int (-1 : Int32)], s_hg g)) rfl ?_
      exact s_Fin.more (L := [some (.ref 22), some (.int x1), none]) ⟨Or.inr rfl, Or.inr rfl, Or.inl rfl, trivial⟩ (fT_allWhoAreOverTell_22_30_s hB hr)
    · rw [if_neg hc] at hB
      refine s_Fin.bf (c := v1 = 0) (tg := 29) (p2 := 18) (L1 := [some (.ref 22), some (.int x1), none]) (st1 := []) hc rfl ?_
      refine s_Fin.sg 2 (y := (23, [some (.ref 22), some (.int x1), none], [.int x1, .ref 22], s_hg g)) rfl ?_
      obtain ⟨v4, hp, hB⟩ := s_bd hB
      refine s_Fin.cl (d := 2) (q1 := s_m87) (md := 87) (vs := [.ref 22, .int x1]) (rest := []) (h1 := s_hg g) (u := some (.int v4)) (s_Ev.up (by omega) (fT_heaviest_22_s hp)) rfl rfl rfl rfl ?_
      refine s_Fin.sg 1 (y := (30, [some (.ref 22), some (.int x1), none], [.int v4], s_hg g)) rfl ?_
      exact s_Fin.more (L := [some (.ref 22), some (.int x1), none]) ⟨Or.inr rfl, Or.inr rfl, Or.inl rfl, trivial⟩ (fT_allWhoAreOverTell_22_30_s hB hr)
  · rw [if_neg hc] at hB
    refine s_Fin.bt (c := (g.1 3 0) ≤ x1) (tg := 49) (p2 := 10) (L1 := [some (.ref 22), some (.int x1), none]) (st1 := []) (Int32.not_lt.mp hc) rfl ?_
    obtain ⟨_, hN, hz⟩ := s_in_of hB
    subst hz
    have hB := hN
    have hB := Option.some.inj hB
    subst hB
    obtain ⟨rfl, rfl⟩ := hr
    exact s_Fin.rt rfl rfl
noncomputable def fT_allWhoAreOverTell_22 (g : s_G) : Option (s_G) :=
  s_lp (fun x => fT_allWhoAreOverTell_22_2 x.1 x.2) ((0 : Int32), g)
theorem fT_allWhoAreOverTell_22_s {g : s_G} {z : s_G} (hB : fT_allWhoAreOverTell_22 g = some z) : s_Ev 3 s_m112 [.ref 22] (s_hg g) (none) (s_hg z) := by
  unfold fT_allWhoAreOverTell_22 at hB
  refine s_Ev.fin ((?_ : ∀ (v : Option Value) (h' : s_H), (fun (z : s_G) (v : Option Value) (h' : s_H) => v = none ∧ h' = s_hg z) z v h' → s_Fin 3 s_m112 (0, s_ent [.ref 22] (s_m112).2.2.1, [], s_hg g) v h') _ _ ⟨rfl, rfl⟩)
  intro v h' hr
  refine (show s_Fin 3 s_m112 (0, [some (.ref 22), none, none], [], s_hg g) v h' from ?_)
  refine s_Fin.sg 2 (y := (2, [some (.ref 22), some (.int (0 : Int32)), none], [], s_hg g)) rfl ?_
  exact s_Fin.more (L := [some (.ref 22), some (.int (0 : Int32)), none]) ⟨Or.inr rfl, Or.inr rfl, Or.inl rfl, trivial⟩ (s_lp_s (P := (fun (x : Int32 × s_G) (v : Option Value) (h' : s_H) => s_Fin 3 s_m112 (2, [some (.ref 22), some (.int x.1), none], [], s_hg x.2) v h')) (Q := (fun (z : s_G) (v : Option Value) (h' : s_H) => v = none ∧ h' = s_hg z)) (fun x z hB v h' hr => fT_allWhoAreOverTell_22_2_s hB hr) hB _ _ hr)
-- CampAshes$State.daysToCalm
noncomputable def fT_daysToCalm_22_7 (x1 : Int32) (x2 : Int32) (x3 : Int32) (g : s_G) : Option ((Int32 × s_G) ⊕ (Int32 × s_G)) :=
  if x2 < x3 then (s_in (some ((-1 : Int32), g)))
  else s_b1 (fT_isOver_22 x1 g) fun v2 => if v2 = 0 then (s_in (some (x3, g)))
  else if x3 < x2 then (s_b1 (fT_allWhoAreOverTell_22 g) fun g3 => s_b1 (fT_passDay_22 g3) fun g4 => some (.inl (x3 + (1 : Int32), g4)))
  else some (.inl (x3 + (1 : Int32), g))
theorem fT_daysToCalm_22_7_s {x1 : Int32} {x2 : Int32} {x3 : Int32} {g : s_G} {z : (Int32 × s_G) ⊕ (Int32 × s_G)} (hB : fT_daysToCalm_22_7 x1 x2 x3 g = some z) {v : Option Value} {h' : s_H} (hr : (s_sm (fun (x : Int32 × s_G) (v : Option Value) (h' : s_H) => s_Fin 4 s_m111 (7, [some (.ref 22), some (.int x1), some (.int x2), some (.int x.1)], [], s_hg x.2) v h') (fun (z : Int32 × s_G) (v : Option Value) (h' : s_H) => v = some (.int z.1) ∧ h' = s_hg z.2)) z v h') : s_Fin 4 s_m111 (7, [some (.ref 22), some (.int x1), some (.int x2), some (.int x3)], [], s_hg g) v h' := by
  unfold fT_daysToCalm_22_7 at hB
  refine s_Fin.sg 2 (y := (9, [some (.ref 22), some (.int x1), some (.int x2), some (.int x3)], [.int x2, .int x3], s_hg g)) rfl ?_
  by_cases hc : x2 < x3
  · rw [if_pos hc] at hB
    refine s_Fin.bt (c := x2 < x3) (tg := 41) (p2 := 9) (L1 := [some (.ref 22), some (.int x1), some (.int x2), some (.int x3)]) (st1 := []) hc rfl ?_
    obtain ⟨_, hN, hz⟩ := s_in_of hB
    subst hz
    have hB := hN
    refine s_Fin.sg 1 (y := (42, [some (.ref 22), some (.int x1), some (.int x2), some (.int x3)], [.int (-1 : Int32)], s_hg g)) rfl ?_
    have hB := Option.some.inj hB
    subst hB
    obtain ⟨rfl, rfl⟩ := hr
    exact s_Fin.rt rfl rfl
  · rw [if_neg hc] at hB
    refine s_Fin.bf (c := x2 < x3) (tg := 41) (p2 := 9) (L1 := [some (.ref 22), some (.int x1), some (.int x2), some (.int x3)]) (st1 := []) hc rfl ?_
    refine s_Fin.sg 2 (y := (14, [some (.ref 22), some (.int x1), some (.int x2), some (.int x3)], [.int x1, .ref 22], s_hg g)) rfl ?_
    obtain ⟨v2, hp, hB⟩ := s_bd hB
    refine s_Fin.cl (d := 3) (q1 := s_m59) (md := 59) (vs := [.ref 22, .int x1]) (rest := []) (h1 := s_hg g) (u := some (.int v2)) (s_Ev.up (by omega) (fT_isOver_22_s hp)) rfl rfl rfl rfl ?_
    by_cases hc : v2 = 0
    · rw [if_pos hc] at hB
      refine s_Fin.bf (c := ¬ v2 = 0) (tg := 22) (p2 := 17) (L1 := [some (.ref 22), some (.int x1), some (.int x2), some (.int x3)]) (st1 := []) (fun h => h hc) rfl ?_
      obtain ⟨_, hN, hz⟩ := s_in_of hB
      subst hz
      have hB := hN
      refine s_Fin.sg 1 (y := (21, [some (.ref 22), some (.int x1), some (.int x2), some (.int x3)], [.int x3], s_hg g)) rfl ?_
      have hB := Option.some.inj hB
      subst hB
      obtain ⟨rfl, rfl⟩ := hr
      exact s_Fin.rt rfl rfl
    · rw [if_neg hc] at hB
      refine s_Fin.bt (c := ¬ v2 = 0) (tg := 22) (p2 := 17) (L1 := [some (.ref 22), some (.int x1), some (.int x2), some (.int x3)]) (st1 := []) hc rfl ?_
      refine s_Fin.sg 2 (y := (24, [some (.ref 22), some (.int x1), some (.int x2), some (.int x3)], [.int x2, .int x3], s_hg g)) rfl ?_
      by_cases hc : x3 < x2
      · rw [if_pos hc] at hB
        refine s_Fin.bf (c := x2 ≤ x3) (tg := 35) (p2 := 24) (L1 := [some (.ref 22), some (.int x1), some (.int x2), some (.int x3)]) (st1 := []) (Int32.not_le.mpr hc) rfl ?_
        refine s_Fin.sg 1 (y := (28, [some (.ref 22), some (.int x1), some (.int x2), some (.int x3)], [.ref 22], s_hg g)) rfl ?_
        obtain ⟨g3, hp, hB⟩ := s_bd hB
        refine s_Fin.cl (d := 3) (q1 := s_m112) (md := 112) (vs := [.ref 22]) (rest := []) (h1 := s_hg g3) (u := none) (s_Ev.up (by omega) (fT_allWhoAreOverTell_22_s hp)) rfl rfl rfl rfl ?_
        refine s_Fin.sg 1 (y := (32, [some (.ref 22), some (.int x1), some (.int x2), some (.int x3)], [.ref 22], s_hg g3)) rfl ?_
        obtain ⟨g4, hp, hB⟩ := s_bd hB
        refine s_Fin.cl (d := 3) (q1 := s_m81) (md := 81) (vs := [.ref 22]) (rest := []) (h1 := s_hg g4) (u := none) (s_Ev.up (by omega) (fT_passDay_22_s hp)) rfl rfl rfl rfl ?_
        refine s_Fin.sg 2 (y := (7, [some (.ref 22), some (.int x1), some (.int x2), some (.int (x3 + (1 : Int32)))], [], s_hg g4)) rfl ?_
        have hB := Option.some.inj hB
        subst hB
        exact s_Fin.more (L := [some (.ref 22), some (.int x1), some (.int x2), some (.int (x3 + (1 : Int32)))]) ⟨Or.inr rfl, Or.inr rfl, Or.inr rfl, Or.inr rfl, trivial⟩ hr
      · rw [if_neg hc] at hB
        refine s_Fin.bt (c := x2 ≤ x3) (tg := 35) (p2 := 24) (L1 := [some (.ref 22), some (.int x1), some (.int x2), some (.int x3)]) (st1 := []) (Int32.not_lt.mp hc) rfl ?_
        refine s_Fin.sg 2 (y := (7, [some (.ref 22), some (.int x1), some (.int x2), some (.int (x3 + (1 : Int32)))], [], s_hg g)) rfl ?_
        have hB := Option.some.inj hB
        subst hB
        exact s_Fin.more (L := [some (.ref 22), some (.int x1), some (.int x2), some (.int (x3 + (1 : Int32)))]) ⟨Or.inr rfl, Or.inr rfl, Or.inr rfl, Or.inr rfl, trivial⟩ hr
noncomputable def fT_daysToCalm_22 (x1 : Int32) (g : s_G) : Option (Int32 × s_G) :=
  s_b1 (fT_daysLeft_22 g) fun v1 => s_lp (fun x => fT_daysToCalm_22_7 x1 v1 x.1 x.2) ((0 : Int32), g)
theorem fT_daysToCalm_22_s {x1 : Int32} {g : s_G} {z : Int32 × s_G} (hB : fT_daysToCalm_22 x1 g = some z) : s_Ev 4 s_m111 [.ref 22, .int x1] (s_hg g) (some (.int z.1)) (s_hg z.2) := by
  unfold fT_daysToCalm_22 at hB
  refine s_Ev.fin ((?_ : ∀ (v : Option Value) (h' : s_H), (fun (z : Int32 × s_G) (v : Option Value) (h' : s_H) => v = some (.int z.1) ∧ h' = s_hg z.2) z v h' → s_Fin 4 s_m111 (0, s_ent [.ref 22, .int x1] (s_m111).2.2.1, [], s_hg g) v h') _ _ ⟨rfl, rfl⟩)
  intro v h' hr
  refine (show s_Fin 4 s_m111 (0, [some (.ref 22), some (.int x1), none, none], [], s_hg g) v h' from ?_)
  refine s_Fin.sg 1 (y := (1, [some (.ref 22), some (.int x1), none, none], [.ref 22], s_hg g)) rfl ?_
  obtain ⟨v1, hp, hB⟩ := s_bd hB
  refine s_Fin.cl (d := 3) (q1 := s_m80) (md := 80) (vs := [.ref 22]) (rest := []) (h1 := s_hg g) (u := some (.int v1)) (s_Ev.up (by omega) (fT_daysLeft_22_s hp)) rfl rfl rfl rfl ?_
  refine s_Fin.sg 3 (y := (7, [some (.ref 22), some (.int x1), some (.int v1), some (.int (0 : Int32))], [], s_hg g)) rfl ?_
  exact s_Fin.more (L := [some (.ref 22), some (.int x1), some (.int v1), some (.int (0 : Int32))]) ⟨Or.inr rfl, Or.inr rfl, Or.inr rfl, Or.inr rfl, trivial⟩ (s_lp_s (P := (fun (x : Int32 × s_G) (v : Option Value) (h' : s_H) => s_Fin 4 s_m111 (7, [some (.ref 22), some (.int x1), some (.int v1), some (.int x.1)], [], s_hg x.2) v h')) (Q := (fun (z : Int32 × s_G) (v : Option Value) (h' : s_H) => v = some (.int z.1) ∧ h' = s_hg z.2)) (fun x z hB v h' hr => fT_daysToCalm_22_7_s hB hr) hB _ _ hr)
-- CampAshes.calm
noncomputable def fC_calm_0 (x1 : Int32) (g : s_G) : Option (Int32 × s_G) :=
  s_b1 (fP_hasBoy_3 x1 g) fun v1 => if v1 = 0 then (some ((-1 : Int32), g))
  else s_b1 (fT_copyFrom_22_17 g) fun g2 => s_b2 (fT_daysToCalm_22 x1 g2) fun v4 g3 => some (v4, g3)
theorem fC_calm_0_s {x1 : Int32} {g : s_G} {z : Int32 × s_G} (hB : fC_calm_0 x1 g = some z) : s_Ev 5 s_m110 [.ref 0, .int x1] (s_hg g) (some (.int z.1)) (s_hg z.2) := by
  unfold fC_calm_0 at hB
  refine s_Ev.fin ((?_ : ∀ (v : Option Value) (h' : s_H), (fun (z : Int32 × s_G) (v : Option Value) (h' : s_H) => v = some (.int z.1) ∧ h' = s_hg z.2) z v h' → s_Fin 5 s_m110 (0, s_ent [.ref 0, .int x1] (s_m110).2.2.1, [], s_hg g) v h') _ _ ⟨rfl, rfl⟩)
  intro v h' hr
  refine (show s_Fin 5 s_m110 (0, [some (.ref 0), some (.int x1)], [], s_hg g) v h' from ?_)
  refine s_Fin.sg 3 (y := (5, [some (.ref 0), some (.int x1)], [.int x1, .ref 3], s_hg g)) rfl ?_
  obtain ⟨v1, hp, hB⟩ := s_bd hB
  refine s_Fin.cl (d := 4) (q1 := s_m49) (md := 49) (vs := [.ref 3, .int x1]) (rest := []) (h1 := s_hg g) (u := some (.int v1)) (s_Ev.up (by omega) (fP_hasBoy_3_s hp)) rfl rfl rfl rfl ?_
  by_cases hc : v1 = 0
  · rw [if_pos hc] at hB
    refine s_Fin.bf (c := ¬ v1 = 0) (tg := 13) (p2 := 8) (L1 := [some (.ref 0), some (.int x1)]) (st1 := []) (fun h => h hc) rfl ?_
    refine s_Fin.sg 1 (y := (12, [some (.ref 0), some (.int x1)], [.int (-1 : Int32)], s_hg g)) rfl ?_
    have hB := Option.some.inj hB
    subst hB
    obtain ⟨rfl, rfl⟩ := hr
    exact s_Fin.rt rfl rfl
  · rw [if_neg hc] at hB
    refine s_Fin.bt (c := ¬ v1 = 0) (tg := 13) (p2 := 8) (L1 := [some (.ref 0), some (.int x1)]) (st1 := []) hc rfl ?_
    refine s_Fin.sg 4 (y := (21, [some (.ref 0), some (.int x1)], [.ref 17, .ref 22], s_hg g)) rfl ?_
    obtain ⟨g2, hp, hB⟩ := s_bd hB
    refine s_Fin.cl (d := 4) (q1 := s_m62) (md := 62) (vs := [.ref 22, .ref 17]) (rest := []) (h1 := s_hg g2) (u := none) (s_Ev.up (by omega) (fT_copyFrom_22_17_s hp)) rfl rfl rfl rfl ?_
    refine s_Fin.sg 3 (y := (29, [some (.ref 0), some (.int x1)], [.int x1, .ref 22], s_hg g2)) rfl ?_
    obtain ⟨v4, g3, hp, hB⟩ := s_bd2 hB
    refine s_Fin.cl (d := 4) (q1 := s_m111) (md := 111) (vs := [.ref 22, .int x1]) (rest := []) (h1 := s_hg g3) (u := some (.int v4)) (s_Ev.up (by omega) (fT_daysToCalm_22_s hp)) rfl rfl rfl rfl ?_
    have hB := Option.some.inj hB
    subst hB
    obtain ⟨rfl, rfl⟩ := hr
    exact s_Fin.rt rfl rfl
-- CampAshesModel.write
noncomputable def fM_write_130 (x1 : Int32) (g : s_G) : Option (s_G) :=
  s_b1 (s_ix 64 (g.1 130 37)) fun k2 => some (s_si (s_si g 148 k2 x1) 130 37 ((g.1 130 37) + (1 : Int32)))
theorem fM_write_130_s {x1 : Int32} {g : s_G} {z : s_G} (hB : fM_write_130 x1 g = some z) : s_Ev 0 s_m250 [.ref 130, .int x1] (s_hg g) (none) (s_hg z) := by
  unfold fM_write_130 at hB
  refine s_Ev.fin ((?_ : ∀ (v : Option Value) (h' : s_H), (fun (z : s_G) (v : Option Value) (h' : s_H) => v = none ∧ h' = s_hg z) z v h' → s_Fin 0 s_m250 (0, s_ent [.ref 130, .int x1] (s_m250).2.2.1, [], s_hg g) v h') _ _ ⟨rfl, rfl⟩)
  intro v h' hr
  refine (show s_Fin 0 s_m250 (0, [some (.ref 130), some (.int x1)], [], s_hg g) v h' from ?_)
  refine s_Fin.sg 5 (y := (9, [some (.ref 130), some (.int x1)], [.int x1, .int (g.1 130 37), .ref 148], s_hg g)) rfl ?_
  obtain ⟨k2, hk2, hB⟩ := s_bd hB
  refine s_Fin.ix (n := 64) (i := g.1 130 37) (pc1 := 10) (L1 := [some (.ref 130), some (.int x1)]) (fun j1 => []) (fun j1 => s_hg (s_si g 148 j1 x1)) hk2 rfl rfl ?_
  refine s_Fin.sg 6 (y := (20, [some (.ref 130), some (.int x1)], [], s_hg (s_si (s_si g 148 k2 x1) 130 37 ((g.1 130 37) + (1 : Int32))))) rfl ?_
  have hB := Option.some.inj hB
  subst hB
  obtain ⟨rfl, rfl⟩ := hr
  exact s_Fin.rt rfl rfl
-- CampAshesModel.writeWord
noncomputable def fM_writeWord_130_17 (K : Int64 → s_G → Option (s_G)) (x1 : Int64) (g : s_G) : Option (s_G) :=
  s_b1 (fM_write_130 ((96 : Int32) + ((x1 - x1 / (27 : Int64) * (27 : Int64)).toInt32)) g) fun g1 => some g1
theorem fM_writeWord_130_17_s {K : Int64 → s_G → Option (s_G)} {e : Nat} (he : 40 ≤ e) (hK : ∀ (x1 : Int64) (g : s_G) (z : s_G), K x1 g = some z → s_Ev e s_m249 [.ref 130, .long x1] (s_hg g) (none) (s_hg z)) {x1 : Int64} {g : s_G} {z : s_G} (hB : fM_writeWord_130_17 K x1 g = some z) {v : Option Value} {h' : s_H} (hr : (fun (z : s_G) (v : Option Value) (h' : s_H) => v = none ∧ h' = s_hg z) z v h') : s_Fin (e + 1) s_m249 (17, [some (.ref 130), some (.long x1), none], [], s_hg g) v h' := by
  unfold fM_writeWord_130_17 at hB
  refine s_Fin.sg 7 (y := (27, [some (.ref 130), some (.long x1), none], [.int ((96 : Int32) + ((x1 - x1 / (27 : Int64) * (27 : Int64)).toInt32)), .ref 130], s_hg g)) rfl ?_
  obtain ⟨g1, hp, hB⟩ := s_bd hB
  refine s_Fin.cl (d := e + 0) (q1 := s_m250) (md := 250) (vs := [.ref 130, .int ((96 : Int32) + ((x1 - x1 / (27 : Int64) * (27 : Int64)).toInt32))]) (rest := []) (h1 := s_hg g1) (u := none) (s_Ev.up (by omega) (fM_write_130_s hp)) rfl rfl rfl rfl ?_
  have hB := Option.some.inj hB
  subst hB
  obtain ⟨rfl, rfl⟩ := hr
  exact s_Fin.rt rfl rfl
noncomputable def fM_writeWord_130 (K : Int64 → s_G → Option (s_G)) (x1 : Int64) (g : s_G) : Option (s_G) :=
  if (lg_cmp x1 (27 : Int64)) < 0 then (fM_writeWord_130_17 K x1 g)
  else s_b1 (K (x1 / (27 : Int64)) g) fun g2 => fM_writeWord_130_17 K x1 g2
theorem fM_writeWord_130_s {K : Int64 → s_G → Option (s_G)} {e : Nat} (he : 40 ≤ e) (hK : ∀ (x1 : Int64) (g : s_G) (z : s_G), K x1 g = some z → s_Ev e s_m249 [.ref 130, .long x1] (s_hg g) (none) (s_hg z)) {x1 : Int64} {g : s_G} {z : s_G} (hB : fM_writeWord_130 K x1 g = some z) : s_Ev (e + 1) s_m249 [.ref 130, .long x1] (s_hg g) (none) (s_hg z) := by
  unfold fM_writeWord_130 at hB
  refine s_Ev.fin ((?_ : ∀ (v : Option Value) (h' : s_H), (fun (z : s_G) (v : Option Value) (h' : s_H) => v = none ∧ h' = s_hg z) z v h' → s_Fin (e + 1) s_m249 (0, s_ent [.ref 130, .long x1] (s_m249).2.2.1, [], s_hg g) v h') _ _ ⟨rfl, rfl⟩)
  intro v h' hr
  refine (show s_Fin (e + 1) s_m249 (0, [some (.ref 130), some (.long x1), none], [], s_hg g) v h' from ?_)
  refine s_Fin.sg 3 (y := (5, [some (.ref 130), some (.long x1), none], [.int (lg_cmp x1 (27 : Int64))], s_hg g)) rfl ?_
  by_cases hc : (lg_cmp x1 (27 : Int64)) < 0
  · rw [if_pos hc] at hB
    refine s_Fin.bt (c := (lg_cmp x1 (27 : Int64)) < 0) (tg := 17) (p2 := 5) (L1 := [some (.ref 130), some (.long x1), none]) (st1 := []) hc rfl ?_
    exact s_Fin.more (L := [some (.ref 130), some (.long x1), none]) ⟨Or.inr rfl, Or.inr rfl, Or.inl rfl, trivial⟩ (fM_writeWord_130_17_s he hK hB hr)
  · rw [if_neg hc] at hB
    refine s_Fin.bf (c := (lg_cmp x1 (27 : Int64)) < 0) (tg := 17) (p2 := 5) (L1 := [some (.ref 130), some (.long x1), none]) (st1 := []) hc rfl ?_
    refine s_Fin.sg 4 (y := (14, [some (.ref 130), some (.long x1), none], [.long (x1 / (27 : Int64)), .ref 130], s_hg g)) rfl ?_
    obtain ⟨g2, hp, hB⟩ := s_bd hB
    refine s_Fin.cl (d := e + 0) (q1 := s_m249) (md := 249) (vs := [.ref 130, .long (x1 / (27 : Int64))]) (rest := []) (h1 := s_hg g2) (u := none) (s_Ev.up (by omega) (hK _ _ _ hp)) rfl rfl rfl rfl ?_
    exact s_Fin.more (L := [some (.ref 130), some (.long x1), none]) ⟨Or.inr rfl, Or.inr rfl, Or.inl rfl, trivial⟩ (fM_writeWord_130_17_s he hK hB hr)
noncomputable def fM_writeWord_130_k : Nat → Int64 → s_G → Option (s_G)
  | 0 => fun _ _ => none
  | n + 1 => fun x1 g => fM_writeWord_130 (fM_writeWord_130_k n) x1 g
theorem fM_writeWord_130_k_s : ∀ (n : Nat) (x1 : Int64) (g : s_G) (z : s_G), fM_writeWord_130_k n x1 g = some z → s_Ev (40 + 1 * n) s_m249 [.ref 130, .long x1] (s_hg g) (none) (s_hg z)
  | 0, _, _, _, h => nomatch h
  | n + 1, x1, g, z, h => s_Ev.up (by omega) (fM_writeWord_130_s (e := 40 + 1 * n) (by omega) (fM_writeWord_130_k_s n) h)
-- CampAshesModel.writeNext
noncomputable def fM_writeNext_130 (x1 : Int64) (g : s_G) : Option (s_G) :=
  s_b1 (fM_write_130 (32 : Int32) g) fun g1 => s_b1 (fM_writeWord_130_k 14 x1 g1) fun g2 => some g2
theorem fM_writeNext_130_s {x1 : Int64} {g : s_G} {z : s_G} (hB : fM_writeNext_130 x1 g = some z) : s_Ev 55 s_m251 [.ref 130, .long x1] (s_hg g) (none) (s_hg z) := by
  unfold fM_writeNext_130 at hB
  refine s_Ev.fin ((?_ : ∀ (v : Option Value) (h' : s_H), (fun (z : s_G) (v : Option Value) (h' : s_H) => v = none ∧ h' = s_hg z) z v h' → s_Fin 55 s_m251 (0, s_ent [.ref 130, .long x1] (s_m251).2.2.1, [], s_hg g) v h') _ _ ⟨rfl, rfl⟩)
  intro v h' hr
  refine (show s_Fin 55 s_m251 (0, [some (.ref 130), some (.long x1), none], [], s_hg g) v h' from ?_)
  refine s_Fin.sg 2 (y := (3, [some (.ref 130), some (.long x1), none], [.int (32 : Int32), .ref 130], s_hg g)) rfl ?_
  obtain ⟨g1, hp, hB⟩ := s_bd hB
  refine s_Fin.cl (d := 54) (q1 := s_m250) (md := 250) (vs := [.ref 130, .int (32 : Int32)]) (rest := []) (h1 := s_hg g1) (u := none) (s_Ev.up (by omega) (fM_write_130_s hp)) rfl rfl rfl rfl ?_
  refine s_Fin.sg 2 (y := (8, [some (.ref 130), some (.long x1), none], [.long x1, .ref 130], s_hg g1)) rfl ?_
  obtain ⟨g2, hp, hB⟩ := s_bd hB
  refine s_Fin.cl (d := 54) (q1 := s_m249) (md := 249) (vs := [.ref 130, .long x1]) (rest := []) (h1 := s_hg g2) (u := none) (s_Ev.up (by omega) (fM_writeWord_130_k_s 14 _ _ _ hp)) rfl rfl rfl rfl ?_
  have hB := Option.some.inj hB
  subst hB
  obtain ⟨rfl, rfl⟩ := hr
  exact s_Fin.rt rfl rfl
-- CampAshesModel.writeNumber
noncomputable def fM_writeNumber_130_14 (K : Int32 → s_G → Option (s_G)) (x1 : Int32) (g : s_G) : Option (s_G) :=
  s_b1 (fM_write_130 ((48 : Int32) + (x1 - x1 / (10 : Int32) * (10 : Int32))) g) fun g2 => some g2
theorem fM_writeNumber_130_14_s {K : Int32 → s_G → Option (s_G)} {e : Nat} (he : 40 ≤ e) (hK : ∀ (x1 : Int32) (g : s_G) (z : s_G), K x1 g = some z → s_Ev e s_m252 [.ref 130, .int x1] (s_hg g) (none) (s_hg z)) {x1 : Int32} {g : s_G} {z : s_G} (hB : fM_writeNumber_130_14 K x1 g = some z) {v : Option Value} {h' : s_H} (hr : (fun (z : s_G) (v : Option Value) (h' : s_H) => v = none ∧ h' = s_hg z) z v h') : s_Fin (e + 1) s_m252 (14, [some (.ref 130), some (.int x1)], [], s_hg g) v h' := by
  unfold fM_writeNumber_130_14 at hB
  refine s_Fin.sg 6 (y := (22, [some (.ref 130), some (.int x1)], [.int ((48 : Int32) + (x1 - x1 / (10 : Int32) * (10 : Int32))), .ref 130], s_hg g)) rfl ?_
  obtain ⟨g2, hp, hB⟩ := s_bd hB
  refine s_Fin.cl (d := e + 0) (q1 := s_m250) (md := 250) (vs := [.ref 130, .int ((48 : Int32) + (x1 - x1 / (10 : Int32) * (10 : Int32)))]) (rest := []) (h1 := s_hg g2) (u := none) (s_Ev.up (by omega) (fM_write_130_s hp)) rfl rfl rfl rfl ?_
  have hB := Option.some.inj hB
  subst hB
  obtain ⟨rfl, rfl⟩ := hr
  exact s_Fin.rt rfl rfl
noncomputable def fM_writeNumber_130 (K : Int32 → s_G → Option (s_G)) (x1 : Int32) (g : s_G) : Option (s_G) :=
  if (9 : Int32) < x1 then (s_b1 (K (x1 / (10 : Int32)) g) fun g1 => fM_writeNumber_130_14 K x1 g1)
  else fM_writeNumber_130_14 K x1 g
theorem fM_writeNumber_130_s {K : Int32 → s_G → Option (s_G)} {e : Nat} (he : 40 ≤ e) (hK : ∀ (x1 : Int32) (g : s_G) (z : s_G), K x1 g = some z → s_Ev e s_m252 [.ref 130, .int x1] (s_hg g) (none) (s_hg z)) {x1 : Int32} {g : s_G} {z : s_G} (hB : fM_writeNumber_130 K x1 g = some z) : s_Ev (e + 1) s_m252 [.ref 130, .int x1] (s_hg g) (none) (s_hg z) := by
  unfold fM_writeNumber_130 at hB
  refine s_Ev.fin ((?_ : ∀ (v : Option Value) (h' : s_H), (fun (z : s_G) (v : Option Value) (h' : s_H) => v = none ∧ h' = s_hg z) z v h' → s_Fin (e + 1) s_m252 (0, s_ent [.ref 130, .int x1] (s_m252).2.2.1, [], s_hg g) v h') _ _ ⟨rfl, rfl⟩)
  intro v h' hr
  refine (show s_Fin (e + 1) s_m252 (0, [some (.ref 130), some (.int x1)], [], s_hg g) v h' from ?_)
  refine s_Fin.sg 2 (y := (3, [some (.ref 130), some (.int x1)], [.int (9 : Int32), .int x1], s_hg g)) rfl ?_
  by_cases hc : (9 : Int32) < x1
  · rw [if_pos hc] at hB
    refine s_Fin.bf (c := x1 ≤ (9 : Int32)) (tg := 14) (p2 := 3) (L1 := [some (.ref 130), some (.int x1)]) (st1 := []) (Int32.not_le.mpr hc) rfl ?_
    refine s_Fin.sg 4 (y := (11, [some (.ref 130), some (.int x1)], [.int (x1 / (10 : Int32)), .ref 130], s_hg g)) rfl ?_
    obtain ⟨g1, hp, hB⟩ := s_bd hB
    refine s_Fin.cl (d := e + 0) (q1 := s_m252) (md := 252) (vs := [.ref 130, .int (x1 / (10 : Int32))]) (rest := []) (h1 := s_hg g1) (u := none) (s_Ev.up (by omega) (hK _ _ _ hp)) rfl rfl rfl rfl ?_
    exact s_Fin.more (L := [some (.ref 130), some (.int x1)]) ⟨Or.inr rfl, Or.inr rfl, trivial⟩ (fM_writeNumber_130_14_s he hK hB hr)
  · rw [if_neg hc] at hB
    refine s_Fin.bt (c := x1 ≤ (9 : Int32)) (tg := 14) (p2 := 3) (L1 := [some (.ref 130), some (.int x1)]) (st1 := []) (Int32.not_lt.mp hc) rfl ?_
    exact s_Fin.more (L := [some (.ref 130), some (.int x1)]) ⟨Or.inr rfl, Or.inr rfl, trivial⟩ (fM_writeNumber_130_14_s he hK hB hr)
noncomputable def fM_writeNumber_130_k : Nat → Int32 → s_G → Option (s_G)
  | 0 => fun _ _ => none
  | n + 1 => fun x1 g => fM_writeNumber_130 (fM_writeNumber_130_k n) x1 g
theorem fM_writeNumber_130_k_s : ∀ (n : Nat) (x1 : Int32) (g : s_G) (z : s_G), fM_writeNumber_130_k n x1 g = some z → s_Ev (40 + 1 * n) s_m252 [.ref 130, .int x1] (s_hg g) (none) (s_hg z)
  | 0, _, _, _, h => nomatch h
  | n + 1, x1, g, z, h => s_Ev.up (by omega) (fM_writeNumber_130_s (e := 40 + 1 * n) (by omega) (fM_writeNumber_130_k_s n) h)
-- CampAshesModel.tag
noncomputable def fM_tag_130 (x1 : Int32) (g : s_G) : Option (Int32 × s_G) :=
  s_b1 (fM_isBoy_130 x1 (s_si g 130 0 (0 : Int32))) fun v1 => if v1 = 0 then (some ((-1 : Int32), (s_si g 130 0 (0 : Int32))))
  else s_b1 (s_ix 17 x1) fun k3 => s_b1 (fM_writeWord_130_k 14 (g.2.1 137 k3) (s_si (s_si g 130 0 (0 : Int32)) 130 37 (0 : Int32))) fun g4 => s_b1 (fM_wordOf_s (26 : Int32) g4) fun v5 => s_b1 (fM_writeNext_130 v5 g4) fun g6 => s_b1 (fM_write_130 (32 : Int32) g6) fun g7 => s_b1 (fM_loadOf_130 x1 g7) fun v8 => s_b1 (fM_writeNumber_130_k 10 v8 g7) fun g9 => s_b1 (fM_spelt_s (111 : Int32) (102 : Int32) (0 : Int32) (0 : Int32) (0 : Int32) (0 : Int32) g9) fun v10 => s_b1 (fM_writeNext_130 v10 g9) fun g11 => s_b1 (fM_write_130 (32 : Int32) g11) fun g12 => s_b1 (s_ix 375 ((10 : Int32) + x1)) fun k14 => s_b1 (fM_writeNumber_130_k 10 (g12.1 132 k14) g12) fun g15 => s_b1 (fM_isOver_130 x1 g15) fun v16 => if v16 = 0 then (some (g15.1 130 37, g15))
  else s_b1 (fM_spelt_s (119 : Int32) (101 : Int32) (101 : Int32) (112 : Int32) (115 : Int32) (0 : Int32) g15) fun v17 => s_b1 (fM_writeNext_130 v17 g15) fun g18 => some (g18.1 130 37, g18)
theorem fM_tag_130_s {x1 : Int32} {g : s_G} {z : Int32 × s_G} (hB : fM_tag_130 x1 g = some z) : s_Ev 56 s_m248 [.ref 130, .int x1] (s_hg g) (some (.int z.1)) (s_hg z.2) := by
  unfold fM_tag_130 at hB
  refine s_Ev.fin ((?_ : ∀ (v : Option Value) (h' : s_H), (fun (z : Int32 × s_G) (v : Option Value) (h' : s_H) => v = some (.int z.1) ∧ h' = s_hg z.2) z v h' → s_Fin 56 s_m248 (0, s_ent [.ref 130, .int x1] (s_m248).2.2.1, [], s_hg g) v h') _ _ ⟨rfl, rfl⟩)
  intro v h' hr
  refine (show s_Fin 56 s_m248 (0, [some (.ref 130), some (.int x1)], [], s_hg g) v h' from ?_)
  refine s_Fin.sg 5 (y := (7, [some (.ref 130), some (.int x1)], [.int x1, .ref 130], s_hg (s_si g 130 0 (0 : Int32)))) rfl ?_
  obtain ⟨v1, hp, hB⟩ := s_bd hB
  refine s_Fin.cl (d := 55) (q1 := s_m192) (md := 192) (vs := [.ref 130, .int x1]) (rest := []) (h1 := s_hg (s_si g 130 0 (0 : Int32))) (u := some (.int v1)) (s_Ev.up (by omega) (fM_isBoy_130_s hp)) rfl rfl rfl rfl ?_
  by_cases hc : v1 = 0
  · rw [if_pos hc] at hB
    refine s_Fin.bf (c := ¬ v1 = 0) (tg := 15) (p2 := 10) (L1 := [some (.ref 130), some (.int x1)]) (st1 := []) (fun h => h hc) rfl ?_
    refine s_Fin.sg 1 (y := (14, [some (.ref 130), some (.int x1)], [.int (-1 : Int32)], s_hg (s_si g 130 0 (0 : Int32)))) rfl ?_
    have hB := Option.some.inj hB
    subst hB
    obtain ⟨rfl, rfl⟩ := hr
    exact s_Fin.rt rfl rfl
  · rw [if_neg hc] at hB
    refine s_Fin.bt (c := ¬ v1 = 0) (tg := 15) (p2 := 10) (L1 := [some (.ref 130), some (.int x1)]) (st1 := []) hc rfl ?_
    refine s_Fin.sg 7 (y := (26, [some (.ref 130), some (.int x1)], [.int x1, .ref 137, .ref 130], s_hg (s_si (s_si g 130 0 (0 : Int32)) 130 37 (0 : Int32)))) rfl ?_
    obtain ⟨k3, hk3, hB⟩ := s_bd hB
    refine s_Fin.ix (n := 17) (i := x1) (pc1 := 27) (L1 := [some (.ref 130), some (.int x1)]) (fun j2 => [.long (g.2.1 137 j2), .ref 130]) (fun j2 => s_hg (s_si (s_si g 130 0 (0 : Int32)) 130 37 (0 : Int32))) hk3 rfl rfl ?_
    obtain ⟨g4, hp, hB⟩ := s_bd hB
    refine s_Fin.cl (d := 55) (q1 := s_m249) (md := 249) (vs := [.ref 130, .long (g.2.1 137 k3)]) (rest := []) (h1 := s_hg g4) (u := none) (s_Ev.up (by omega) (fM_writeWord_130_k_s 14 _ _ _ hp)) rfl rfl rfl rfl ?_
    refine s_Fin.sg 2 (y := (33, [some (.ref 130), some (.int x1)], [.int (26 : Int32), .ref 130], s_hg g4)) rfl ?_
    obtain ⟨v5, hp, hB⟩ := s_bd hB
    refine s_Fin.cl (d := 55) (q1 := s_m172) (md := 172) (vs := [.int (26 : Int32)]) (rest := [.ref 130]) (h1 := s_hg g4) (u := some (.long v5)) (s_Ev.up (by omega) (fM_wordOf_s_s hp)) rfl rfl rfl rfl ?_
    obtain ⟨g6, hp, hB⟩ := s_bd hB
    refine s_Fin.cl (d := 55) (q1 := s_m251) (md := 251) (vs := [.ref 130, .long v5]) (rest := []) (h1 := s_hg g6) (u := none) (s_Ev.up (by omega) (fM_writeNext_130_s hp)) rfl rfl rfl rfl ?_
    refine s_Fin.sg 2 (y := (42, [some (.ref 130), some (.int x1)], [.int (32 : Int32), .ref 130], s_hg g6)) rfl ?_
    obtain ⟨g7, hp, hB⟩ := s_bd hB
    refine s_Fin.cl (d := 55) (q1 := s_m250) (md := 250) (vs := [.ref 130, .int (32 : Int32)]) (rest := []) (h1 := s_hg g7) (u := none) (s_Ev.up (by omega) (fM_write_130_s hp)) rfl rfl rfl rfl ?_
    refine s_Fin.sg 3 (y := (48, [some (.ref 130), some (.int x1)], [.int x1, .ref 130, .ref 130], s_hg g7)) rfl ?_
    obtain ⟨v8, hp, hB⟩ := s_bd hB
    refine s_Fin.cl (d := 55) (q1 := s_m194) (md := 194) (vs := [.ref 130, .int x1]) (rest := [.ref 130]) (h1 := s_hg g7) (u := some (.int v8)) (s_Ev.up (by omega) (fM_loadOf_130_s hp)) rfl rfl rfl rfl ?_
    obtain ⟨g9, hp, hB⟩ := s_bd hB
    refine s_Fin.cl (d := 55) (q1 := s_m252) (md := 252) (vs := [.ref 130, .int v8]) (rest := []) (h1 := s_hg g9) (u := none) (s_Ev.up (by omega) (fM_writeNumber_130_k_s 10 _ _ _ hp)) rfl rfl rfl rfl ?_
    refine s_Fin.sg 7 (y := (63, [some (.ref 130), some (.int x1)], [.int (0 : Int32), .int (0 : Int32), .int (0 : Int32), .int (0 : Int32), .int (102 : Int32), .int (111 : Int32), .ref 130], s_hg g9)) rfl ?_
    obtain ⟨v10, hp, hB⟩ := s_bd hB
    refine s_Fin.cl (d := 55) (q1 := s_m173) (md := 173) (vs := [.int (111 : Int32), .int (102 : Int32), .int (0 : Int32), .int (0 : Int32), .int (0 : Int32), .int (0 : Int32)]) (rest := [.ref 130]) (h1 := s_hg g9) (u := some (.long v10)) (s_Ev.up (by omega) (fM_spelt_s_s hp)) rfl rfl rfl rfl ?_
    obtain ⟨g11, hp, hB⟩ := s_bd hB
    refine s_Fin.cl (d := 55) (q1 := s_m251) (md := 251) (vs := [.ref 130, .long v10]) (rest := []) (h1 := s_hg g11) (u := none) (s_Ev.up (by omega) (fM_writeNext_130_s hp)) rfl rfl rfl rfl ?_
    refine s_Fin.sg 2 (y := (72, [some (.ref 130), some (.int x1)], [.int (32 : Int32), .ref 130], s_hg g11)) rfl ?_
    obtain ⟨g12, hp, hB⟩ := s_bd hB
    refine s_Fin.cl (d := 55) (q1 := s_m250) (md := 250) (vs := [.ref 130, .int (32 : Int32)]) (rest := []) (h1 := s_hg g12) (u := none) (s_Ev.up (by omega) (fM_write_130_s hp)) rfl rfl rfl rfl ?_
    refine s_Fin.sg 6 (y := (84, [some (.ref 130), some (.int x1)], [.int ((10 : Int32) + x1), .ref 132, .ref 130], s_hg g12)) rfl ?_
    obtain ⟨k14, hk14, hB⟩ := s_bd hB
    refine s_Fin.ix (n := 375) (i := (10 : Int32) + x1) (pc1 := 85) (L1 := [some (.ref 130), some (.int x1)]) (fun j13 => [.int (g12.1 132 j13), .ref 130]) (fun j13 => s_hg g12) hk14 rfl rfl ?_
    obtain ⟨g15, hp, hB⟩ := s_bd hB
    refine s_Fin.cl (d := 55) (q1 := s_m252) (md := 252) (vs := [.ref 130, .int (g12.1 132 k14)]) (rest := []) (h1 := s_hg g15) (u := none) (s_Ev.up (by omega) (fM_writeNumber_130_k_s 10 _ _ _ hp)) rfl rfl rfl rfl ?_
    refine s_Fin.sg 2 (y := (90, [some (.ref 130), some (.int x1)], [.int x1, .ref 130], s_hg g15)) rfl ?_
    obtain ⟨v16, hp, hB⟩ := s_bd hB
    refine s_Fin.cl (d := 55) (q1 := s_m196) (md := 196) (vs := [.ref 130, .int x1]) (rest := []) (h1 := s_hg g15) (u := some (.int v16)) (s_Ev.up (by omega) (fM_isOver_130_s hp)) rfl rfl rfl rfl ?_
    by_cases hc : v16 = 0
    · rw [if_pos hc] at hB
      refine s_Fin.bt (c := v16 = 0) (tg := 114) (p2 := 93) (L1 := [some (.ref 130), some (.int x1)]) (st1 := []) hc rfl ?_
      refine s_Fin.sg 2 (y := (118, [some (.ref 130), some (.int x1)], [.int (g15.1 130 37)], s_hg g15)) rfl ?_
      have hB := Option.some.inj hB
      subst hB
      obtain ⟨rfl, rfl⟩ := hr
      exact s_Fin.rt rfl rfl
    · rw [if_neg hc] at hB
      refine s_Fin.bf (c := v16 = 0) (tg := 114) (p2 := 93) (L1 := [some (.ref 130), some (.int x1)]) (st1 := []) hc rfl ?_
      refine s_Fin.sg 7 (y := (108, [some (.ref 130), some (.int x1)], [.int (0 : Int32), .int (115 : Int32), .int (112 : Int32), .int (101 : Int32), .int (101 : Int32), .int (119 : Int32), .ref 130], s_hg g15)) rfl ?_
      obtain ⟨v17, hp, hB⟩ := s_bd hB
      refine s_Fin.cl (d := 55) (q1 := s_m173) (md := 173) (vs := [.int (119 : Int32), .int (101 : Int32), .int (101 : Int32), .int (112 : Int32), .int (115 : Int32), .int (0 : Int32)]) (rest := [.ref 130]) (h1 := s_hg g15) (u := some (.long v17)) (s_Ev.up (by omega) (fM_spelt_s_s hp)) rfl rfl rfl rfl ?_
      obtain ⟨g18, hp, hB⟩ := s_bd hB
      refine s_Fin.cl (d := 55) (q1 := s_m251) (md := 251) (vs := [.ref 130, .long v17]) (rest := []) (h1 := s_hg g18) (u := none) (s_Ev.up (by omega) (fM_writeNext_130_s hp)) rfl rfl rfl rfl ?_
      refine s_Fin.sg 2 (y := (118, [some (.ref 130), some (.int x1)], [.int (g18.1 130 37)], s_hg g18)) rfl ?_
      have hB := Option.some.inj hB
      subst hB
      obtain ⟨rfl, rfl⟩ := hr
      exact s_Fin.rt rfl rfl
-- CampAshes.putTagByte
noncomputable def fC_putTagByte_0 (x1 : Int32) (g : s_G) : Option (s_G) :=
  if (g.1 0 15) < (64 : Int32) then (s_b1 (s_ix 64 (g.1 0 15)) fun k2 => some (s_si (s_si g 129 k2 x1.toInt8.toInt32.toInt8.toInt32) 0 15 ((g.1 0 15) + (1 : Int32))))
  else some g
theorem fC_putTagByte_0_s {x1 : Int32} {g : s_G} {z : s_G} (hB : fC_putTagByte_0 x1 g = some z) : s_Ev 0 s_m115 [.ref 0, .int x1] (s_hg g) (none) (s_hg z) := by
  unfold fC_putTagByte_0 at hB
  refine s_Ev.fin ((?_ : ∀ (v : Option Value) (h' : s_H), (fun (z : s_G) (v : Option Value) (h' : s_H) => v = none ∧ h' = s_hg z) z v h' → s_Fin 0 s_m115 (0, s_ent [.ref 0, .int x1] (s_m115).2.2.1, [], s_hg g) v h') _ _ ⟨rfl, rfl⟩)
  intro v h' hr
  refine (show s_Fin 0 s_m115 (0, [some (.ref 0), some (.int x1)], [], s_hg g) v h' from ?_)
  refine s_Fin.sg 3 (y := (6, [some (.ref 0), some (.int x1)], [.int (64 : Int32), .int (g.1 0 15)], s_hg g)) rfl ?_
  by_cases hc : (g.1 0 15) < (64 : Int32)
  · rw [if_pos hc] at hB
    refine s_Fin.bf (c := (64 : Int32) ≤ (g.1 0 15)) (tg := 30) (p2 := 6) (L1 := [some (.ref 0), some (.int x1)]) (st1 := []) (Int32.not_le.mpr hc) rfl ?_
    refine s_Fin.sg 6 (y := (19, [some (.ref 0), some (.int x1)], [.int x1.toInt8.toInt32, .int (g.1 0 15), .ref 129], s_hg g)) rfl ?_
    obtain ⟨k2, hk2, hB⟩ := s_bd hB
    refine s_Fin.ix (n := 64) (i := g.1 0 15) (pc1 := 20) (L1 := [some (.ref 0), some (.int x1)]) (fun j1 => []) (fun j1 => s_hg (s_si g 129 j1 x1.toInt8.toInt32.toInt8.toInt32)) hk2 rfl rfl ?_
    refine s_Fin.sg 6 (y := (30, [some (.ref 0), some (.int x1)], [], s_hg (s_si (s_si g 129 k2 x1.toInt8.toInt32.toInt8.toInt32) 0 15 ((g.1 0 15) + (1 : Int32))))) rfl ?_
    have hB := Option.some.inj hB
    subst hB
    obtain ⟨rfl, rfl⟩ := hr
    exact s_Fin.rt rfl rfl
  · rw [if_neg hc] at hB
    refine s_Fin.bt (c := (64 : Int32) ≤ (g.1 0 15)) (tg := 30) (p2 := 6) (L1 := [some (.ref 0), some (.int x1)]) (st1 := []) (Int32.not_lt.mp hc) rfl ?_
    have hB := Option.some.inj hB
    subst hB
    obtain ⟨rfl, rfl⟩ := hr
    exact s_Fin.rt rfl rfl
