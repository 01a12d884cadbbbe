-- CampAshesModel.snap
noncomputable def fM_snap_130_51 (x1 : Int32) (g : s_G) : Option ((Int32 × s_G) ⊕ (s_G)) :=
  if x1 < (86 : Int32) then (s_b1 (s_ix 375 ((47 : Int32) + x1)) fun k6 => s_b1 (s_ix 688 (((86 : Int32) * (g.1 130 25)) + x1)) fun k8 => some (.inl (x1 + (1 : Int32), (s_si g 135 k8 (g.1 132 k6)))))
  else s_in (some (s_si g 130 25 ((g.1 130 25) + (1 : Int32))))
theorem fM_snap_130_51_s {x1 : Int32} {g : s_G} {z : (Int32 × s_G) ⊕ (s_G)} (hB : fM_snap_130_51 x1 g = some z) {v : Option Value} {h' : s_H} (hr : (s_sm (fun (x : Int32 × s_G) (v : Option Value) (h' : s_H) => s_Fin 0 s_m214 (51, [some (.ref 130), some (.int x.1)], [], s_hg x.2) v h') (fun (z : s_G) (v : Option Value) (h' : s_H) => v = none ∧ h' = s_hg z)) z v h') : s_Fin 0 s_m214 (51, [some (.ref 130), some (.int x1)], [], s_hg g) v h' := by
  unfold fM_snap_130_51 at hB
  refine s_Fin.sg 2 (y := (54, [some (.ref 130), some (.int x1)], [.int (86 : Int32), .int x1], s_hg g)) rfl ?_
  by_cases hc : x1 < (86 : Int32)
  · rw [if_pos hc] at hB
    refine s_Fin.bf (c := (86 : Int32) ≤ x1) (tg := 86) (p2 := 54) (L1 := [some (.ref 130), some (.int x1)]) (st1 := []) (Int32.not_le.mpr hc) rfl ?_
    refine s_Fin.sg 13 (y := (78, [some (.ref 130), some (.int x1)], [.int ((47 : Int32) + x1), .ref 132, .int (((86 : Int32) * (g.1 130 25)) + x1), .ref 135], s_hg g)) rfl ?_
    obtain ⟨k6, hk6, hB⟩ := s_bd hB
    refine s_Fin.ix (n := 375) (i := (47 : Int32) + x1) (pc1 := 79) (L1 := [some (.ref 130), some (.int x1)]) (fun j5 => [.int (g.1 132 j5), .int (((86 : Int32) * (g.1 130 25)) + x1), .ref 135]) (fun j5 => s_hg g) hk6 rfl rfl ?_
    obtain ⟨k8, hk8, hB⟩ := s_bd hB
    refine s_Fin.ix (n := 688) (i := ((86 : Int32) * (g.1 130 25)) + x1) (pc1 := 80) (L1 := [some (.ref 130), some (.int x1)]) (fun j7 => []) (fun j7 => s_hg (s_si g 135 j7 (g.1 132 k6))) hk8 rfl rfl ?_
    refine s_Fin.sg 2 (y := (51, [some (.ref 130), some (.int (x1 + (1 : Int32)))], [], s_hg (s_si g 135 k8 (g.1 132 k6)))) rfl ?_
    have hB := Option.some.inj hB
    subst hB
    exact s_Fin.more (L := [some (.ref 130), some (.int (x1 + (1 : Int32)))]) ⟨Or.inr rfl, Or.inr rfl, trivial⟩ hr
  · rw [if_neg hc] at hB
    refine s_Fin.bt (c := (86 : Int32) ≤ x1) (tg := 86) (p2 := 54) (L1 := [some (.ref 130), some (.int x1)]) (st1 := []) (Int32.not_lt.mp hc) rfl ?_
    obtain ⟨_, hN, hz⟩ := s_in_of hB
    subst hz
    have hB := hN
    refine s_Fin.sg 6 (y := (96, [some (.ref 130), some (.int x1)], [], s_hg (s_si g 130 25 ((g.1 130 25) + (1 : Int32))))) rfl ?_
    have hB := Option.some.inj hB
    subst hB
    obtain ⟨rfl, rfl⟩ := hr
    exact s_Fin.rt rfl rfl
noncomputable def fM_snap_130_49 (g : s_G) : Option (s_G) :=
  s_lp (fun x => fM_snap_130_51 x.1 x.2) ((0 : Int32), g)
theorem fM_snap_130_49_s {g : s_G} {z : s_G} (hB : fM_snap_130_49 g = some z) {v : Option Value} {h' : s_H} (hr : (fun (z : s_G) (v : Option Value) (h' : s_H) => v = none ∧ h' = s_hg z) z v h') : s_Fin 0 s_m214 (49, [some (.ref 130), none], [], s_hg g) v h' := by
  unfold fM_snap_130_49 at hB
  refine s_Fin.sg 2 (y := (51, [some (.ref 130), some (.int (0 : Int32))], [], s_hg g)) rfl ?_
  exact s_Fin.more (L := [some (.ref 130), some (.int (0 : Int32))]) ⟨Or.inr rfl, Or.inr rfl, trivial⟩ (s_lp_s (P := (fun (x : Int32 × s_G) (v : Option Value) (h' : s_H) => s_Fin 0 s_m214 (51, [some (.ref 130), some (.int x.1)], [], s_hg x.2) v h')) (Q := (fun (z : s_G) (v : Option Value) (h' : s_H) => v = none ∧ h' = s_hg z)) (fun x z hB v h' hr => fM_snap_130_51_s hB hr) hB _ _ hr)
noncomputable def fM_snap_130_11 (x1 : Int32) (g : s_G) : Option ((Int32 × s_G) ⊕ (s_G)) :=
  if x1 < (602 : Int32) then (s_b1 (s_ix 688 (x1 + (86 : Int32))) fun k2 => s_b1 (s_ix 688 x1) fun k4 => some (.inl (x1 + (1 : Int32), (s_si g 135 k4 (g.1 135 k2)))))
  else s_in (fM_snap_130_49 (s_si g 130 25 ((g.1 130 25) - (1 : Int32))))
theorem fM_snap_130_11_s {x1 : Int32} {g : s_G} {z : (Int32 × s_G) ⊕ (s_G)} (hB : fM_snap_130_11 x1 g = some z) {v : Option Value} {h' : s_H} (hr : (s_sm (fun (x : Int32 × s_G) (v : Option Value) (h' : s_H) => s_Fin 0 s_m214 (11, [some (.ref 130), some (.int x.1)], [], s_hg x.2) v h') (fun (z : s_G) (v : Option Value) (h' : s_H) => v = none ∧ h' = s_hg z)) z v h') : s_Fin 0 s_m214 (11, [some (.ref 130), some (.int x1)], [], s_hg g) v h' := by
  unfold fM_snap_130_11 at hB
  refine s_Fin.sg 2 (y := (15, [some (.ref 130), some (.int x1)], [.int (602 : Int32), .int x1], s_hg g)) rfl ?_
  by_cases hc : x1 < (602 : Int32)
  · rw [if_pos hc] at hB
    refine s_Fin.bf (c := (602 : Int32) ≤ x1) (tg := 39) (p2 := 15) (L1 := [some (.ref 130), some (.int x1)]) (st1 := []) (Int32.not_le.mpr hc) rfl ?_
    refine s_Fin.sg 8 (y := (31, [some (.ref 130), some (.int x1)], [.int (x1 + (86 : Int32)), .ref 135, .int x1, .ref 135], s_hg g)) rfl ?_
    obtain ⟨k2, hk2, hB⟩ := s_bd hB
    refine s_Fin.ix (n := 688) (i := x1 + (86 : Int32)) (pc1 := 32) (L1 := [some (.ref 130), some (.int x1)]) (fun j1 => [.int (g.1 135 j1), .int x1, .ref 135]) (fun j1 => s_hg g) hk2 rfl rfl ?_
    obtain ⟨k4, hk4, hB⟩ := s_bd hB
    refine s_Fin.ix (n := 688) (i := x1) (pc1 := 33) (L1 := [some (.ref 130), some (.int x1)]) (fun j3 => []) (fun j3 => s_hg (s_si g 135 j3 (g.1 135 k2))) hk4 rfl rfl ?_
    refine s_Fin.sg 2 (y := (11, [some (.ref 130), some (.int (x1 + (1 : Int32)))], [], s_hg (s_si g 135 k4 (g.1 135 k2)))) rfl ?_
    have hB := Option.some.inj hB
    subst hB
    exact s_Fin.more (L := [some (.ref 130), some (.int (x1 + (1 : Int32)))]) ⟨Or.inr rfl, Or.inr rfl, trivial⟩ hr
  · rw [if_neg hc] at hB
    refine s_Fin.bt (c := (602 : Int32) ≤ x1) (tg := 39) (p2 := 15) (L1 := [some (.ref 130), some (.int x1)]) (st1 := []) (Int32.not_lt.mp hc) rfl ?_
    obtain ⟨_, hN, hz⟩ := s_in_of hB
    subst hz
    have hB := hN
    refine s_Fin.sg 6 (y := (49, [some (.ref 130), some (.int x1)], [], s_hg (s_si g 130 25 ((g.1 130 25) - (1 : Int32))))) rfl ?_
    exact s_Fin.more (L := [some (.ref 130), none]) ⟨Or.inr rfl, Or.inl rfl, trivial⟩ (fM_snap_130_49_s hB hr)
noncomputable def fM_snap_130 (g : s_G) : Option (s_G) :=
  if (g.1 130 25) = (8 : Int32) then (s_lp (fun x => fM_snap_130_11 x.1 x.2) ((0 : Int32), g))
  else fM_snap_130_49 g
theorem fM_snap_130_s {g : s_G} {z : s_G} (hB : fM_snap_130 g = some z) : s_Ev 0 s_m214 [.ref 130] (s_hg g) (none) (s_hg z) := by
  unfold fM_snap_130 at hB
  refine s_Ev.fin ((?_ : ∀ (v : Option Value) (h' : s_H), (fun (z : s_G) (v : Option Value) (h' : s_H) => v = none ∧ h' = s_hg z) z v h' → s_Fin 0 s_m214 (0, s_ent [.ref 130] (s_m214).2.2.1, [], s_hg g) v h') _ _ ⟨rfl, rfl⟩)
  intro v h' hr
  refine (show s_Fin 0 s_m214 (0, [some (.ref 130), none], [], s_hg g) v h' from ?_)
  refine s_Fin.sg 3 (y := (6, [some (.ref 130), none], [.int (8 : Int32), .int (g.1 130 25)], s_hg g)) rfl ?_
  by_cases hc : (g.1 130 25) = (8 : Int32)
  · rw [if_pos hc] at hB
    refine s_Fin.bf (c := ¬ (g.1 130 25) = (8 : Int32)) (tg := 49) (p2 := 6) (L1 := [some (.ref 130), none]) (st1 := []) (fun h => h hc) rfl ?_
    refine s_Fin.sg 2 (y := (11, [some (.ref 130), some (.int (0 : Int32))], [], s_hg g)) rfl ?_
    exact s_Fin.more (L := [some (.ref 130), some (.int (0 : Int32))]) ⟨Or.inr rfl, Or.inr rfl, trivial⟩ (s_lp_s (P := (fun (x : Int32 × s_G) (v : Option Value) (h' : s_H) => s_Fin 0 s_m214 (11, [some (.ref 130), some (.int x.1)], [], s_hg x.2) v h')) (Q := (fun (z : s_G) (v : Option Value) (h' : s_H) => v = none ∧ h' = s_hg z)) (fun x z hB v h' hr => fM_snap_130_11_s hB hr) hB _ _ hr)
  · rw [if_neg hc] at hB
    refine s_Fin.bt (c := ¬ (g.1 130 25) = (8 : Int32)) (tg := 49) (p2 := 6) (L1 := [some (.ref 130), none]) (st1 := []) hc rfl ?_
    exact s_Fin.more (L := [some (.ref 130), none]) ⟨Or.inr rfl, Or.inl rfl, trivial⟩ (fM_snap_130_49_s hB hr)
-- CampAshesModel.least
noncomputable def fM_least_s (x0 : Int32) (x1 : Int32) (g : s_G) : Option (Int32) :=
  if x0 < x1 then (some x0)
  else some x1
theorem fM_least_s_s {x0 : Int32} {x1 : Int32} {g : s_G} {z : Int32} (hB : fM_least_s x0 x1 g = some z) : s_Ev 0 s_m217 [.int x0, .int x1] (s_hg g) (some (.int z)) (s_hg g) := by
  unfold fM_least_s at hB
  refine s_Ev.fin ((?_ : ∀ (v : Option Value) (h' : s_H), (fun (z : Int32) (v : Option Value) (h' : s_H) => v = some (.int z) ∧ h' = s_hg g) z v h' → s_Fin 0 s_m217 (0, s_ent [.int x0, .int x1] (s_m217).2.2.1, [], s_hg g) v h') _ _ ⟨rfl, rfl⟩)
  intro v h' hr
  refine (show s_Fin 0 s_m217 (0, [some (.int x0), some (.int x1)], [], s_hg g) v h' from ?_)
  refine s_Fin.sg 2 (y := (2, [some (.int x0), some (.int x1)], [.int x1, .int x0], s_hg g)) rfl ?_
  by_cases hc : x0 < x1
  · rw [if_pos hc] at hB
    refine s_Fin.bf (c := x1 ≤ x0) (tg := 9) (p2 := 2) (L1 := [some (.int x0), some (.int x1)]) (st1 := []) (Int32.not_le.mpr hc) rfl ?_
    refine s_Fin.sg 2 (y := (10, [some (.int x0), some (.int x1)], [.int x0], s_hg g)) rfl ?_
    have hB := Option.some.inj hB
    subst hB
    obtain ⟨rfl, rfl⟩ := hr
    exact s_Fin.rt rfl rfl
  · rw [if_neg hc] at hB
    refine s_Fin.bt (c := x1 ≤ x0) (tg := 9) (p2 := 2) (L1 := [some (.int x0), some (.int x1)]) (st1 := []) (Int32.not_lt.mp hc) rfl ?_
    refine s_Fin.sg 1 (y := (10, [some (.int x0), some (.int x1)], [.int x1], s_hg g)) rfl ?_
    have hB := Option.some.inj hB
    subst hB
    obtain ⟨rfl, rfl⟩ := hr
    exact s_Fin.rt rfl rfl
-- CampAshesModel.speaks
noncomputable def fM_speaks_130 (x1 : Int32) (g : s_G) : Option (s_G) :=
  some (s_si (s_si g 132 48 ((g.1 132 48) - (1 : Int32))) 132 50 ((g.1 132 50) ||| ((1 : Int32) <<< (x1 &&& 31))))
theorem fM_speaks_130_s {x1 : Int32} {g : s_G} {z : s_G} (hB : fM_speaks_130 x1 g = some z) : s_Ev 0 s_m218 [.ref 130, .int x1] (s_hg g) (none) (s_hg z) := by
  unfold fM_speaks_130 at hB
  refine s_Ev.fin ((?_ : ∀ (v : Option Value) (h' : s_H), (fun (z : s_G) (v : Option Value) (h' : s_H) => v = none ∧ h' = s_hg z) z v h' → s_Fin 0 s_m218 (0, s_ent [.ref 130, .int x1] (s_m218).2.2.1, [], s_hg g) v h') _ _ ⟨rfl, rfl⟩)
  intro v h' hr
  refine (show s_Fin 0 s_m218 (0, [some (.ref 130), some (.int x1)], [], s_hg g) v h' from ?_)
  refine s_Fin.sg 18 (y := (24, [some (.ref 130), some (.int x1)], [], s_hg (s_si (s_si g 132 48 ((g.1 132 48) - (1 : Int32))) 132 50 ((g.1 132 50) ||| ((1 : Int32) <<< (x1 &&& 31)))))) rfl ?_
  have hB := Option.some.inj hB
  subst hB
  obtain ⟨rfl, rfl⟩ := hr
  exact s_Fin.rt rfl rfl
-- CampAshesModel.doTell
noncomputable def fM_doTell_130 (x1 : Int32) (x2 : Int32) (g : s_G) : Option (s_G) :=
  s_b1 (fM_onOf_130 x1 x2 g) fun v1 => s_b1 (s_ix 375 ((27 : Int32) + x2)) fun k3 => s_b1 (fM_takesOf_130 (g.1 132 k3) (g.1 132 48) g) fun v4 => s_b1 (fM_least_s v1 v4 g) fun v5 => s_b1 (s_ix 375 (((63 : Int32) + ((10 : Int32) * x1)) + x2)) fun k7 => s_b1 (s_ix 375 ((52 : Int32) + ((s_si g 132 k7 ((g.1 132 k7) - v5)).1 132 k3))) fun k11 => s_b1 (fM_speaks_130 x1 (s_si (s_si g 132 k7 ((g.1 132 k7) - v5)) 132 k11 (((s_si g 132 k7 ((g.1 132 k7) - v5)).1 132 k11) + v5))) fun g13 => some g13
theorem fM_doTell_130_s {x1 : Int32} {x2 : Int32} {g : s_G} {z : s_G} (hB : fM_doTell_130 x1 x2 g = some z) : s_Ev 1 s_m216 [.ref 130, .int x1, .int x2] (s_hg g) (none) (s_hg z) := by
  unfold fM_doTell_130 at hB
  refine s_Ev.fin ((?_ : ∀ (v : Option Value) (h' : s_H), (fun (z : s_G) (v : Option Value) (h' : s_H) => v = none ∧ h' = s_hg z) z v h' → s_Fin 1 s_m216 (0, s_ent [.ref 130, .int x1, .int x2] (s_m216).2.2.1, [], s_hg g) v h') _ _ ⟨rfl, rfl⟩)
  intro v h' hr
  refine (show s_Fin 1 s_m216 (0, [some (.ref 130), some (.int x1), some (.int x2), none], [], s_hg g) v h' from ?_)
  refine s_Fin.sg 3 (y := (3, [some (.ref 130), some (.int x1), some (.int x2), none], [.int x2, .int x1, .ref 130], s_hg g)) rfl ?_
  obtain ⟨v1, hp, hB⟩ := s_bd hB
  refine s_Fin.cl (d := 0) (q1 := s_m199) (md := 199) (vs := [.ref 130, .int x1, .int x2]) (rest := []) (h1 := s_hg g) (u := some (.int v1)) (s_Ev.up (by omega) (fM_onOf_130_s hp)) rfl rfl rfl rfl ?_
  refine s_Fin.sg 6 (y := (15, [some (.ref 130), some (.int x1), some (.int x2), none], [.int ((27 : Int32) + x2), .ref 132, .ref 130, .int v1], s_hg g)) rfl ?_
  obtain ⟨k3, hk3, hB⟩ := s_bd hB
  refine s_Fin.ix (n := 375) (i := (27 : Int32) + x2) (pc1 := 16) (L1 := [some (.ref 130), some (.int x1), some (.int x2), none]) (fun j2 => [.int (g.1 132 j2), .ref 130, .int v1]) (fun j2 => s_hg g) hk3 rfl rfl ?_
  refine s_Fin.sg 4 (y := (23, [some (.ref 130), some (.int x1), some (.int x2), none], [.int (g.1 132 48), .int (g.1 132 k3), .ref 130, .int v1], s_hg g)) rfl ?_
  obtain ⟨v4, hp, hB⟩ := s_bd hB
  refine s_Fin.cl (d := 0) (q1 := s_m205) (md := 205) (vs := [.ref 130, .int (g.1 132 k3), .int (g.1 132 48)]) (rest := [.int v1]) (h1 := s_hg g) (u := some (.int v4)) (s_Ev.up (by omega) (fM_takesOf_130_s hp)) rfl rfl rfl rfl ?_
  obtain ⟨v5, hp, hB⟩ := s_bd hB
  refine s_Fin.cl (d := 0) (q1 := s_m217) (md := 217) (vs := [.int v1, .int v4]) (rest := []) (h1 := s_hg g) (u := some (.int v5)) (s_Ev.up (by omega) (fM_least_s_s hp)) rfl rfl rfl rfl ?_
  refine s_Fin.sg 11 (y := (44, [some (.ref 130), some (.int x1), some (.int x2), some (.int v5)], [.int (((63 : Int32) + ((10 : Int32) * x1)) + x2), .ref 132, .int (((63 : Int32) + ((10 : Int32) * x1)) + x2), .ref 132], s_hg g)) rfl ?_
  obtain ⟨k7, hk7, hB⟩ := s_bd hB
  refine s_Fin.ix (n := 375) (i := ((63 : Int32) + ((10 : Int32) * x1)) + x2) (pc1 := 45) (L1 := [some (.ref 130), some (.int x1), some (.int x2), some (.int v5)]) (fun j6 => [.int (g.1 132 j6), .int (((63 : Int32) + ((10 : Int32) * x1)) + x2), .ref 132]) (fun j6 => s_hg g) hk7 rfl rfl ?_
  refine s_Fin.sg 2 (y := (47, [some (.ref 130), some (.int x1), some (.int x2), some (.int v5)], [.int ((g.1 132 k7) - v5), .int (((63 : Int32) + ((10 : Int32) * x1)) + x2), .ref 132], s_hg g)) rfl ?_
  refine s_Fin.ix (n := 375) (i := ((63 : Int32) + ((10 : Int32) * x1)) + x2) (pc1 := 48) (L1 := [some (.ref 130), some (.int x1), some (.int x2), some (.int v5)]) (fun j8 => []) (fun j8 => s_hg (s_si g 132 j8 ((g.1 132 k7) - v5))) hk7 rfl rfl ?_
  refine s_Fin.sg 8 (y := (62, [some (.ref 130), some (.int x1), some (.int x2), some (.int v5)], [.int ((27 : Int32) + x2), .ref 132, .int (52 : Int32), .ref 132], s_hg (s_si g 132 k7 ((g.1 132 k7) - v5)))) rfl ?_
  refine s_Fin.ix (n := 375) (i := (27 : Int32) + x2) (pc1 := 63) (L1 := [some (.ref 130), some (.int x1), some (.int x2), some (.int v5)]) (fun j9 => [.int ((s_si g 132 k7 ((g.1 132 k7) - v5)).1 132 j9), .int (52 : Int32), .ref 132]) (fun j9 => s_hg (s_si g 132 k7 ((g.1 132 k7) - v5))) hk3 rfl rfl ?_
  refine s_Fin.sg 2 (y := (65, [some (.ref 130), some (.int x1), some (.int x2), some (.int v5)], [.int ((52 : Int32) + ((s_si g 132 k7 ((g.1 132 k7) - v5)).1 132 k3)), .ref 132, .int ((52 : Int32) + ((s_si g 132 k7 ((g.1 132 k7) - v5)).1 132 k3)), .ref 132], s_hg (s_si g 132 k7 ((g.1 132 k7) - v5)))) rfl ?_
  obtain ⟨k11, hk11, hB⟩ := s_bd hB
  refine s_Fin.ix (n := 375) (i := (52 : Int32) + ((s_si g 132 k7 ((g.1 132 k7) - v5)).1 132 k3)) (pc1 := 66) (L1 := [some (.ref 130), some (.int x1), some (.int x2), some (.int v5)]) (fun j10 => [.int ((s_si g 132 k7 ((g.1 132 k7) - v5)).1 132 j10), .int ((52 : Int32) + ((s_si g 132 k7 ((g.1 132 k7) - v5)).1 132 k3)), .ref 132]) (fun j10 => s_hg (s_si g 132 k7 ((g.1 132 k7) - v5))) hk11 rfl rfl ?_
  refine s_Fin.sg 2 (y := (68, [some (.ref 130), some (.int x1), some (.int x2), some (.int v5)], [.int (((s_si g 132 k7 ((g.1 132 k7) - v5)).1 132 k11) + v5), .int ((52 : Int32) + ((s_si g 132 k7 ((g.1 132 k7) - v5)).1 132 k3)), .ref 132], s_hg (s_si g 132 k7 ((g.1 132 k7) - v5)))) rfl ?_
  refine s_Fin.ix (n := 375) (i := (52 : Int32) + ((s_si g 132 k7 ((g.1 132 k7) - v5)).1 132 k3)) (pc1 := 69) (L1 := [some (.ref 130), some (.int x1), some (.int x2), some (.int v5)]) (fun j12 => []) (fun j12 => s_hg (s_si (s_si g 132 k7 ((g.1 132 k7) - v5)) 132 j12 (((s_si g 132 k7 ((g.1 132 k7) - v5)).1 132 k11) + v5))) hk11 rfl rfl ?_
  refine s_Fin.sg 2 (y := (71, [some (.ref 130), some (.int x1), some (.int x2), some (.int v5)], [.int x1, .ref 130], s_hg (s_si (s_si g 132 k7 ((g.1 132 k7) - v5)) 132 k11 (((s_si g 132 k7 ((g.1 132 k7) - v5)).1 132 k11) + v5)))) rfl ?_
  obtain ⟨g13, hp, hB⟩ := s_bd hB
  refine s_Fin.cl (d := 0) (q1 := s_m218) (md := 218) (vs := [.ref 130, .int x1]) (rest := []) (h1 := s_hg g13) (u := none) (s_Ev.up (by omega) (fM_speaks_130_s hp)) rfl rfl rfl rfl ?_
  have hB := Option.some.inj hB
  subst hB
  obtain ⟨rfl, rfl⟩ := hr
  exact s_Fin.rt rfl rfl
-- CampAshesModel.live
noncomputable def fM_live_130_77 (x2 : Int32) (g : s_G) : Option (s_G) :=
  s_b1 (fM_speaks_130 x2 (s_si g 132 51 ((g.1 132 51) + (1 : Int32)))) fun g7 => some g7
theorem fM_live_130_77_s {x2 : Int32} {g : s_G} {z : s_G} (hB : fM_live_130_77 x2 g = some z) {v : Option Value} {h' : s_H} (hr : (fun (z : s_G) (v : Option Value) (h' : s_H) => v = none ∧ h' = s_hg z) z v h') : s_Fin 2 s_m215 (77, [some (.ref 130), none, some (.int x2), none, none, none, none], [], s_hg g) v h' := by
  unfold fM_live_130_77 at hB
  refine s_Fin.sg 10 (y := (90, [some (.ref 130), none, some (.int x2), none, none, none, none], [.int x2, .ref 130], s_hg (s_si g 132 51 ((g.1 132 51) + (1 : Int32))))) rfl ?_
  obtain ⟨g7, hp, hB⟩ := s_bd hB
  refine s_Fin.cl (d := 1) (q1 := s_m218) (md := 218) (vs := [.ref 130, .int x2]) (rest := []) (h1 := s_hg g7) (u := none) (s_Ev.up (by omega) (fM_speaks_130_s hp)) rfl rfl rfl rfl ?_
  have hB := Option.some.inj hB
  subst hB
  obtain ⟨rfl, rfl⟩ := hr
  exact s_Fin.rt rfl rfl
noncomputable def fM_live_130_170 (x6 : Int32) (g : s_G) : Option ((Int32 × s_G) ⊕ (s_G)) :=
  if x6 < (4 : Int32) then (s_b1 (s_ix 375 ((52 : Int32) + x6)) fun k16 => some (.inl (x6 + (1 : Int32), (s_si g 132 k16 (0 : Int32)))))
  else s_in (some g)
theorem fM_live_130_170_s {x6 : Int32} {g : s_G} {z : (Int32 × s_G) ⊕ (s_G)} (hB : fM_live_130_170 x6 g = some z) {v : Option Value} {h' : s_H} (hr : (s_sm (fun (x : Int32 × s_G) (v : Option Value) (h' : s_H) => s_Fin 2 s_m215 (170, [some (.ref 130), none, none, none, none, none, some (.int x.1)], [], s_hg x.2) v h') (fun (z : s_G) (v : Option Value) (h' : s_H) => v = none ∧ h' = s_hg z)) z v h') : s_Fin 2 s_m215 (170, [some (.ref 130), none, none, none, none, none, some (.int x6)], [], s_hg g) v h' := by
  unfold fM_live_130_170 at hB
  refine s_Fin.sg 2 (y := (173, [some (.ref 130), none, none, none, none, none, some (.int x6)], [.int (4 : Int32), .int x6], s_hg g)) rfl ?_
  by_cases hc : x6 < (4 : Int32)
  · rw [if_pos hc] at hB
    refine s_Fin.bf (c := (4 : Int32) ≤ x6) (tg := 193) (p2 := 173) (L1 := [some (.ref 130), none, none, none, none, none, some (.int x6)]) (st1 := []) (Int32.not_le.mpr hc) rfl ?_
    refine s_Fin.sg 6 (y := (186, [some (.ref 130), none, none, none, none, none, some (.int x6)], [.int (0 : Int32), .int ((52 : Int32) + x6), .ref 132], s_hg g)) rfl ?_
    obtain ⟨k16, hk16, hB⟩ := s_bd hB
    refine s_Fin.ix (n := 375) (i := (52 : Int32) + x6) (pc1 := 187) (L1 := [some (.ref 130), none, none, none, none, none, some (.int x6)]) (fun j15 => []) (fun j15 => s_hg (s_si g 132 j15 (0 : Int32))) hk16 rfl rfl ?_
    refine s_Fin.sg 2 (y := (170, [some (.ref 130), none, none, none, none, none, some (.int (x6 + (1 : Int32)))], [], s_hg (s_si g 132 k16 (0 : Int32)))) rfl ?_
    have hB := Option.some.inj hB
    subst hB
    exact s_Fin.more (L := [some (.ref 130), none, none, none, none, none, some (.int (x6 + (1 : Int32)))]) ⟨Or.inr rfl, Or.inl rfl, Or.inl rfl, Or.inl rfl, Or.inl rfl, Or.inl rfl, Or.inr rfl, trivial⟩ hr
  · rw [if_neg hc] at hB
    refine s_Fin.bt (c := (4 : Int32) ≤ x6) (tg := 193) (p2 := 173) (L1 := [some (.ref 130), none, none, none, none, none, some (.int x6)]) (st1 := []) (Int32.not_lt.mp hc) rfl ?_
    obtain ⟨_, hN, hz⟩ := s_in_of hB
    subst hz
    have hB := hN
    have hB := Option.some.inj hB
    subst hB
    obtain ⟨rfl, rfl⟩ := hr
    exact s_Fin.rt rfl rfl
noncomputable def fM_live_130 (x1 : Int32) (x2 : Int32) (x3 : Int32) (x4 : Int32) (x5 : Int32) (g : s_G) : Option (s_G) :=
  if x1 = 0 then (s_b1 (fM_doTell_130 x2 x3 g) fun g1 => some g1)
  else if x1 = 1 then (s_b1 (fM_onOf_130 x2 x3 g) fun v2 => if v2 < (99 : Int32) then (s_b1 (fM_onOf_130 x2 x3 g) fun v3 => s_b1 (fM_least_s (99 : Int32) (v3 + (2 : Int32)) g) fun v4 => s_b1 (s_ix 375 (((63 : Int32) + ((10 : Int32) * x2)) + x3)) fun k6 => fM_live_130_77 x2 (s_si g 132 k6 v4))
  else fM_live_130_77 x2 g)
  else if x1 = 2 then (s_b1 (s_ix 375 (((63 : Int32) + ((10 : Int32) * x2)) + x3)) fun k9 => s_b1 (s_ix 375 (((63 : Int32) + ((10 : Int32) * x4)) + x3)) fun k12 => some (s_si (s_si g 132 k9 ((g.1 132 k9) - x5)) 132 k12 (((s_si g 132 k9 ((g.1 132 k9) - x5)).1 132 k12) + x5)))
  else if x1 = 3 then (s_b1 (fM_least_s (30 : Int32) ((g.1 132 48) + (4 : Int32)) (s_si g 132 49 ((g.1 132 49) - (1 : Int32)))) fun v14 => some (s_si (s_si g 132 49 ((g.1 132 49) - (1 : Int32))) 132 48 v14))
  else s_lp (fun x => fM_live_130_170 x.1 x.2) ((0 : Int32), g)
theorem fM_live_130_s {x1 : Int32} {x2 : Int32} {x3 : Int32} {x4 : Int32} {x5 : Int32} {g : s_G} {z : s_G} (hB : fM_live_130 x1 x2 x3 x4 x5 g = some z) : s_Ev 2 s_m215 [.ref 130, .int x1, .int x2, .int x3, .int x4, .int x5] (s_hg g) (none) (s_hg z) := by
  unfold fM_live_130 at hB
  refine s_Ev.fin ((?_ : ∀ (v : Option Value) (h' : s_H), (fun (z : s_G) (v : Option Value) (h' : s_H) => v = none ∧ h' = s_hg z) z v h' → s_Fin 2 s_m215 (0, s_ent [.ref 130, .int x1, .int x2, .int x3, .int x4, .int x5] (s_m215).2.2.1, [], s_hg g) v h') _ _ ⟨rfl, rfl⟩)
  intro v h' hr
  refine (show s_Fin 2 s_m215 (0, [some (.ref 130), some (.int x1), some (.int x2), some (.int x3), some (.int x4), some (.int x5), none], [], s_hg g) v h' from ?_)
  refine s_Fin.sg 1 (y := (1, [some (.ref 130), some (.int x1), some (.int x2), some (.int x3), some (.int x4), some (.int x5), none], [.int x1], s_hg g)) rfl ?_
  by_cases hc0 : x1 = 0
  · rw [if_pos hc0] at hB
    refine s_Fin.nx (pc1 := 32) (L1 := [some (.ref 130), some (.int x1), some (.int x2), some (.int x3), some (.int x4), some (.int x5), none]) (st1 := []) (h1 := s_hg g) (by rw [hc0]; exact rfl) rfl ?_
    refine s_Fin.sg 3 (y := (35, [some (.ref 130), some (.int x1), some (.int x2), some (.int x3), some (.int x4), some (.int x5), none], [.int x3, .int x2, .ref 130], s_hg g)) rfl ?_
    obtain ⟨g1, hp, hB⟩ := s_bd hB
    refine s_Fin.cl (d := 1) (q1 := s_m216) (md := 216) (vs := [.ref 130, .int x2, .int x3]) (rest := []) (h1 := s_hg g1) (u := none) (s_Ev.up (by omega) (fM_doTell_130_s hp)) rfl rfl rfl rfl ?_
    have hB := Option.some.inj hB
    subst hB
    obtain ⟨rfl, rfl⟩ := hr
    exact s_Fin.rt rfl rfl
  rw [if_neg hc0] at hB
  by_cases hc1 : x1 = 1
  · rw [if_pos hc1] at hB
    refine s_Fin.nx (pc1 := 39) (L1 := [some (.ref 130), some (.int x1), some (.int x2), some (.int x3), some (.int x4), some (.int x5), none]) (st1 := []) (h1 := s_hg g) (by rw [hc1]; exact rfl) rfl ?_
    refine s_Fin.sg 3 (y := (42, [some (.ref 130), some (.int x1), some (.int x2), some (.int x3), some (.int x4), some (.int x5), none], [.int x3, .int x2, .ref 130], s_hg g)) rfl ?_
    obtain ⟨v2, hp, hB⟩ := s_bd hB
    refine s_Fin.cl (d := 1) (q1 := s_m199) (md := 199) (vs := [.ref 130, .int x2, .int x3]) (rest := []) (h1 := s_hg g) (u := some (.int v2)) (s_Ev.up (by omega) (fM_onOf_130_s hp)) rfl rfl rfl rfl ?_
    refine s_Fin.sg 1 (y := (47, [some (.ref 130), some (.int x1), some (.int x2), some (.int x3), some (.int x4), some (.int x5), none], [.int (99 : Int32), .int v2], s_hg g)) rfl ?_
    by_cases hc : v2 < (99 : Int32)
    · rw [if_pos hc] at hB
      refine s_Fin.bf (c := (99 : Int32) ≤ v2) (tg := 77) (p2 := 47) (L1 := [some (.ref 130), some (.int x1), some (.int x2), some (.int x3), some (.int x4), some (.int x5), none]) (st1 := []) (Int32.not_le.mpr hc) rfl ?_
      refine s_Fin.sg 13 (y := (68, [some (.ref 130), some (.int x1), some (.int x2), some (.int x3), some (.int x4), some (.int x5), none], [.int x3, .int x2, .ref 130, .int (99 : Int32), .int (((63 : Int32) + ((10 : Int32) * x2)) + x3), .ref 132], s_hg g)) rfl ?_
      obtain ⟨v3, hp, hB⟩ := s_bd hB
      refine s_Fin.cl (d := 1) (q1 := s_m199) (md := 199) (vs := [.ref 130, .int x2, .int x3]) (rest := [.int (99 : Int32), .int (((63 : Int32) + ((10 : Int32) * x2)) + x3), .ref 132]) (h1 := s_hg g) (u := some (.int v3)) (s_Ev.up (by omega) (fM_onOf_130_s hp)) rfl rfl rfl rfl ?_
      refine s_Fin.sg 2 (y := (73, [some (.ref 130), some (.int x1), some (.int x2), some (.int x3), some (.int x4), some (.int x5), none], [.int (v3 + (2 : Int32)), .int (99 : Int32), .int (((63 : Int32) + ((10 : Int32) * x2)) + x3), .ref 132], s_hg g)) rfl ?_
      obtain ⟨v4, hp, hB⟩ := s_bd hB
      refine s_Fin.cl (d := 1) (q1 := s_m217) (md := 217) (vs := [.int (99 : Int32), .int (v3 + (2 : Int32))]) (rest := [.int (((63 : Int32) + ((10 : Int32) * x2)) + x3), .ref 132]) (h1 := s_hg g) (u := some (.int v4)) (s_Ev.up (by omega) (fM_least_s_s hp)) rfl rfl rfl rfl ?_
      obtain ⟨k6, hk6, hB⟩ := s_bd hB
      refine s_Fin.ix (n := 375) (i := ((63 : Int32) + ((10 : Int32) * x2)) + x3) (pc1 := 77) (L1 := [some (.ref 130), some (.int x1), some (.int x2), some (.int x3), some (.int x4), some (.int x5), none]) (fun j5 => []) (fun j5 => s_hg (s_si g 132 j5 v4)) hk6 rfl rfl ?_
      exact s_Fin.more (L := [some (.ref 130), none, some (.int x2), none, none, none, none]) ⟨Or.inr rfl, Or.inl rfl, Or.inr rfl, Or.inl rfl, Or.inl rfl, Or.inl rfl, Or.inl rfl, trivial⟩ (fM_live_130_77_s hB hr)
    · rw [if_neg hc] at hB
      refine s_Fin.bt (c := (99 : Int32) ≤ v2) (tg := 77) (p2 := 47) (L1 := [some (.ref 130), some (.int x1), some (.int x2), some (.int x3), some (.int x4), some (.int x5), none]) (st1 := []) (Int32.not_lt.mp hc) rfl ?_
      exact s_Fin.more (L := [some (.ref 130), none, some (.int x2), none, none, none, none]) ⟨Or.inr rfl, Or.inl rfl, Or.inr rfl, Or.inl rfl, Or.inl rfl, Or.inl rfl, Or.inl rfl, trivial⟩ (fM_live_130_77_s hB hr)
  rw [if_neg hc1] at hB
  by_cases hc2 : x1 = 2
  · rw [if_pos hc2] at hB
    refine s_Fin.nx (pc1 := 94) (L1 := [some (.ref 130), some (.int x1), some (.int x2), some (.int x3), some (.int x4), some (.int x5), none]) (st1 := []) (h1 := s_hg g) (by rw [hc2]; exact rfl) rfl ?_
    refine s_Fin.sg 10 (y := (108, [some (.ref 130), some (.int x1), some (.int x2), some (.int x3), some (.int x4), some (.int x5), none], [.int (((63 : Int32) + ((10 : Int32) * x2)) + x3), .ref 132, .int (((63 : Int32) + ((10 : Int32) * x2)) + x3), .ref 132], s_hg g)) rfl ?_
    obtain ⟨k9, hk9, hB⟩ := s_bd hB
    refine s_Fin.ix (n := 375) (i := ((63 : Int32) + ((10 : Int32) * x2)) + x3) (pc1 := 109) (L1 := [some (.ref 130), some (.int x1), some (.int x2), some (.int x3), some (.int x4), some (.int x5), none]) (fun j8 => [.int (g.1 132 j8), .int (((63 : Int32) + ((10 : Int32) * x2)) + x3), .ref 132]) (fun j8 => s_hg g) hk9 rfl rfl ?_
    refine s_Fin.sg 2 (y := (112, [some (.ref 130), some (.int x1), some (.int x2), some (.int x3), some (.int x4), some (.int x5), none], [.int ((g.1 132 k9) - x5), .int (((63 : Int32) + ((10 : Int32) * x2)) + x3), .ref 132], s_hg g)) rfl ?_
    refine s_Fin.ix (n := 375) (i := ((63 : Int32) + ((10 : Int32) * x2)) + x3) (pc1 := 113) (L1 := [some (.ref 130), some (.int x1), some (.int x2), some (.int x3), some (.int x4), some (.int x5), none]) (fun j10 => []) (fun j10 => s_hg (s_si g 132 j10 ((g.1 132 k9) - x5))) hk9 rfl rfl ?_
    refine s_Fin.sg 10 (y := (128, [some (.ref 130), some (.int x1), some (.int x2), some (.int x3), some (.int x4), some (.int x5), none], [.int (((63 : Int32) + ((10 : Int32) * x4)) + x3), .ref 132, .int (((63 : Int32) + ((10 : Int32) * x4)) + x3), .ref 132], s_hg (s_si g 132 k9 ((g.1 132 k9) - x5)))) rfl ?_
    obtain ⟨k12, hk12, hB⟩ := s_bd hB
    refine s_Fin.ix (n := 375) (i := ((63 : Int32) + ((10 : Int32) * x4)) + x3) (pc1 := 129) (L1 := [some (.ref 130), some (.int x1), some (.int x2), some (.int x3), some (.int x4), some (.int x5), none]) (fun j11 => [.int ((s_si g 132 k9 ((g.1 132 k9) - x5)).1 132 j11), .int (((63 : Int32) + ((10 : Int32) * x4)) + x3), .ref 132]) (fun j11 => s_hg (s_si g 132 k9 ((g.1 132 k9) - x5))) hk12 rfl rfl ?_
    refine s_Fin.sg 2 (y := (132, [some (.ref 130), some (.int x1), some (.int x2), some (.int x3), some (.int x4), some (.int x5), none], [.int (((s_si g 132 k9 ((g.1 132 k9) - x5)).1 132 k12) + x5), .int (((63 : Int32) + ((10 : Int32) * x4)) + x3), .ref 132], s_hg (s_si g 132 k9 ((g.1 132 k9) - x5)))) rfl ?_
    refine s_Fin.ix (n := 375) (i := ((63 : Int32) + ((10 : Int32) * x4)) + x3) (pc1 := 133) (L1 := [some (.ref 130), some (.int x1), some (.int x2), some (.int x3), some (.int x4), some (.int x5), none]) (fun j13 => []) (fun j13 => s_hg (s_si (s_si g 132 k9 ((g.1 132 k9) - x5)) 132 j13 (((s_si g 132 k9 ((g.1 132 k9) - x5)).1 132 k12) + x5))) hk12 rfl rfl ?_
    have hB := Option.some.inj hB
    subst hB
    obtain ⟨rfl, rfl⟩ := hr
    exact s_Fin.rt rfl rfl
  rw [if_neg hc2] at hB
  by_cases hc3 : x1 = 3
  · rw [if_pos hc3] at hB
    refine s_Fin.nx (pc1 := 134) (L1 := [some (.ref 130), some (.int x1), some (.int x2), some (.int x3), some (.int x4), some (.int x5), none]) (st1 := []) (h1 := s_hg g) (by rw [hc3]; exact rfl) rfl ?_
    refine s_Fin.sg 18 (y := (162, [some (.ref 130), some (.int x1), some (.int x2), some (.int x3), some (.int x4), some (.int x5), none], [.int ((g.1 132 48) + (4 : Int32)), .int (30 : Int32), .int (48 : Int32), .ref 132], s_hg (s_si g 132 49 ((g.1 132 49) - (1 : Int32))))) rfl ?_
    obtain ⟨v14, hp, hB⟩ := s_bd hB
    refine s_Fin.cl (d := 1) (q1 := s_m217) (md := 217) (vs := [.int (30 : Int32), .int ((g.1 132 48) + (4 : Int32))]) (rest := [.int (48 : Int32), .ref 132]) (h1 := s_hg (s_si g 132 49 ((g.1 132 49) - (1 : Int32)))) (u := some (.int v14)) (s_Ev.up (by omega) (fM_least_s_s hp)) rfl rfl rfl rfl ?_
    refine s_Fin.sg 1 (y := (166, [some (.ref 130), some (.int x1), some (.int x2), some (.int x3), some (.int x4), some (.int x5), none], [], s_hg (s_si (s_si g 132 49 ((g.1 132 49) - (1 : Int32))) 132 48 v14))) rfl ?_
    have hB := Option.some.inj hB
    subst hB
    obtain ⟨rfl, rfl⟩ := hr
    exact s_Fin.rt rfl rfl
  rw [if_neg hc3] at hB
  have ht : x1.toInt < 0 ∨ (4 : Int) ≤ x1.toInt := by
    have q0 : ¬ x1.toInt = 0 := s_tne hc0 (by decide)
    have q1 : ¬ x1.toInt = 1 := s_tne hc1 (by decide)
    have q2 : ¬ x1.toInt = 2 := s_tne hc2 (by decide)
    have q3 : ¬ x1.toInt = 3 := s_tne hc3 (by decide)
    omega
  refine s_Fin.nx (pc1 := 167) (L1 := [some (.ref 130), some (.int x1), some (.int x2), some (.int x3), some (.int x4), some (.int x5), none]) (st1 := []) (h1 := s_hg g) ((show _ = s_ts x1.toInt 1 [some (.ref 130), some (.int x1), some (.int x2), some (.int x3), some (.int x4), some (.int x5), none] [] (s_hg g) 166 0 [31, 38, 93, 133] from rfl).trans (s_ts_ms (n := 4) rfl ht (t := 167) rfl)) rfl ?_
  refine s_Fin.sg 2 (y := (170, [some (.ref 130), some (.int x1), some (.int x2), some (.int x3), some (.int x4), some (.int x5), some (.int (0 : Int32))], [], s_hg g)) rfl ?_
  exact s_Fin.more (L := [some (.ref 130), none, none, none, none, none, some (.int (0 : Int32))]) ⟨Or.inr rfl, Or.inl rfl, Or.inl rfl, Or.inl rfl, Or.inl rfl, Or.inl rfl, Or.inr rfl, trivial⟩ (s_lp_s (P := (fun (x : Int32 × s_G) (v : Option Value) (h' : s_H) => s_Fin 2 s_m215 (170, [some (.ref 130), none, none, none, none, none, some (.int x.1)], [], s_hg x.2) v h')) (Q := (fun (z : s_G) (v : Option Value) (h' : s_H) => v = none ∧ h' = s_hg z)) (fun x z hB v h' hr => fM_live_130_170_s hB hr) hB _ _ hr)
-- CampAshesModel.act
noncomputable def fM_act_130 (x1 : Int32) (x2 : Int32) (x3 : Int32) (x4 : Int32) (x5 : Int32) (x6 : Int32) (g : s_G) : Option (Int32 × s_G) :=
  if x6 = 0 then (some ((-1 : Int32), g))
  else s_b1 (fM_why_130 x1 x2 x3 x4 x5 g) fun v1 => if v1 = 0 then (s_b1 (fM_snap_130 g) fun g2 => s_b1 (fM_live_130 x1 x2 x3 x4 x5 g2) fun g3 => some ((0 : Int32), g3))
  else some (v1, g)
theorem fM_act_130_s {x1 : Int32} {x2 : Int32} {x3 : Int32} {x4 : Int32} {x5 : Int32} {x6 : Int32} {g : s_G} {z : Int32 × s_G} (hB : fM_act_130 x1 x2 x3 x4 x5 x6 g = some z) : s_Ev 4 s_m211 [.ref 130, .int x1, .int x2, .int x3, .int x4, .int x5, .int x6] (s_hg g) (some (.int z.1)) (s_hg z.2) := by
  unfold fM_act_130 at hB
  refine s_Ev.fin ((?_ : ∀ (v : Option Value) (h' : s_H), (fun (z : Int32 × s_G) (v : Option Value) (h' : s_H) => v = some (.int z.1) ∧ h' = s_hg z.2) z v h' → s_Fin 4 s_m211 (0, s_ent [.ref 130, .int x1, .int x2, .int x3, .int x4, .int x5, .int x6] (s_m211).2.2.1, [], s_hg g) v h') _ _ ⟨rfl, rfl⟩)
  intro v h' hr
  refine (show s_Fin 4 s_m211 (0, [some (.ref 130), some (.int x1), some (.int x2), some (.int x3), some (.int x4), some (.int x5), some (.int x6), none], [], s_hg g) v h' from ?_)
  refine s_Fin.sg 1 (y := (2, [some (.ref 130), some (.int x1), some (.int x2), some (.int x3), some (.int x4), some (.int x5), some (.int x6), none], [.int x6], s_hg g)) rfl ?_
  by_cases hc : x6 = 0
  · rw [if_pos hc] at hB
    refine s_Fin.bf (c := ¬ x6 = 0) (tg := 7) (p2 := 2) (L1 := [some (.ref 130), some (.int x1), some (.int x2), some (.int x3), some (.int x4), some (.int x5), some (.int x6), none]) (st1 := []) (fun h => h hc) rfl ?_
    refine s_Fin.sg 1 (y := (6, [some (.ref 130), some (.int x1), some (.int x2), some (.int x3), some (.int x4), some (.int x5), some (.int x6), none], [.int (-1 : Int32)], s_hg g)) rfl ?_
    have hB := Option.some.inj hB
    subst hB
    obtain ⟨rfl, rfl⟩ := hr
    exact s_Fin.rt rfl rfl
  · rw [if_neg hc] at hB
    refine s_Fin.bt (c := ¬ x6 = 0) (tg := 7) (p2 := 2) (L1 := [some (.ref 130), some (.int x1), some (.int x2), some (.int x3), some (.int x4), some (.int x5), some (.int x6), none]) (st1 := []) hc rfl ?_
    refine s_Fin.sg 6 (y := (15, [some (.ref 130), some (.int x1), some (.int x2), some (.int x3), some (.int x4), some (.int x5), some (.int x6), none], [.int x5, .int x4, .int x3, .int x2, .int x1, .ref 130], s_hg g)) rfl ?_
    obtain ⟨v1, hp, hB⟩ := s_bd hB
    refine s_Fin.cl (d := 3) (q1 := s_m212) (md := 212) (vs := [.ref 130, .int x1, .int x2, .int x3, .int x4, .int x5]) (rest := []) (h1 := s_hg g) (u := some (.int v1)) (s_Ev.up (by omega) (fM_why_130_s hp)) rfl rfl rfl rfl ?_
    refine s_Fin.sg 2 (y := (22, [some (.ref 130), some (.int x1), some (.int x2), some (.int x3), some (.int x4), some (.int x5), some (.int x6), some (.int v1)], [.int v1], s_hg g)) rfl ?_
    by_cases hc : v1 = 0
    · rw [if_pos hc] at hB
      refine s_Fin.bt (c := v1 = 0) (tg := 28) (p2 := 22) (L1 := [some (.ref 130), some (.int x1), some (.int x2), some (.int x3), some (.int x4), some (.int x5), some (.int x6), some (.int v1)]) (st1 := []) hc rfl ?_
      refine s_Fin.sg 1 (y := (29, [some (.ref 130), some (.int x1), some (.int x2), some (.int x3), some (.int x4), some (.int x5), some (.int x6), some (.int v1)], [.ref 130], s_hg g)) rfl ?_
      obtain ⟨g2, hp, hB⟩ := s_bd hB
      refine s_Fin.cl (d := 3) (q1 := s_m214) (md := 214) (vs := [.ref 130]) (rest := []) (h1 := s_hg g2) (u := none) (s_Ev.up (by omega) (fM_snap_130_s hp)) rfl rfl rfl rfl ?_
      refine s_Fin.sg 6 (y := (40, [some (.ref 130), some (.int x1), some (.int x2), some (.int x3), some (.int x4), some (.int x5), some (.int x6), some (.int v1)], [.int x5, .int x4, .int x3, .int x2, .int x1, .ref 130], s_hg g2)) rfl ?_
      obtain ⟨g3, hp, hB⟩ := s_bd hB
      refine s_Fin.cl (d := 3) (q1 := s_m215) (md := 215) (vs := [.ref 130, .int x1, .int x2, .int x3, .int x4, .int x5]) (rest := []) (h1 := s_hg g3) (u := none) (s_Ev.up (by omega) (fM_live_130_s hp)) rfl rfl rfl rfl ?_
      refine s_Fin.sg 1 (y := (44, [some (.ref 130), some (.int x1), some (.int x2), some (.int x3), some (.int x4), some (.int x5), some (.int x6), some (.int v1)], [.int (0 : Int32)], s_hg g3)) rfl ?_
      have hB := Option.some.inj hB
      subst hB
      obtain ⟨rfl, rfl⟩ := hr
      exact s_Fin.rt rfl rfl
    · rw [if_neg hc] at hB
      refine s_Fin.bf (c := v1 = 0) (tg := 28) (p2 := 22) (L1 := [some (.ref 130), some (.int x1), some (.int x2), some (.int x3), some (.int x4), some (.int x5), some (.int x6), some (.int v1)]) (st1 := []) hc rfl ?_
      refine s_Fin.sg 1 (y := (27, [some (.ref 130), some (.int x1), some (.int x2), some (.int x3), some (.int x4), some (.int x5), some (.int x6), some (.int v1)], [.int v1], s_hg g)) rfl ?_
      have hB := Option.some.inj hB
      subst hB
      obtain ⟨rfl, rfl⟩ := hr
      exact s_Fin.rt rfl rfl
-- CampAshesModel.tell
noncomputable def fM_tell_130 (x1 : Int32) (x2 : Int32) (g : s_G) : Option (Int32 × s_G) :=
  s_b1 (fM_isBoy_130 x1 (s_si g 130 0 (0 : Int32))) fun v1 => if v1 = 0 then (s_b2 (fM_act_130 (0 : Int32) x1 x2 (0 : Int32) (0 : Int32) (0 : Int32) (s_si g 130 0 (0 : Int32))) fun v3 g2 => some (v3, g2))
  else s_b1 (fM_isEvent_130 x2 (s_si g 130 0 (0 : Int32))) fun v4 => if v4 = 0 then (s_b2 (fM_act_130 (0 : Int32) x1 x2 (0 : Int32) (0 : Int32) (0 : Int32) (s_si g 130 0 (0 : Int32))) fun v6 g5 => some (v6, g5))
  else s_b2 (fM_act_130 (0 : Int32) x1 x2 (0 : Int32) (0 : Int32) (1 : Int32) (s_si g 130 0 (0 : Int32))) fun v8 g7 => some (v8, g7)
theorem fM_tell_130_s {x1 : Int32} {x2 : Int32} {g : s_G} {z : Int32 × s_G} (hB : fM_tell_130 x1 x2 g = some z) : s_Ev 5 s_m210 [.ref 130, .int x1, .int x2] (s_hg g) (some (.int z.1)) (s_hg z.2) := by
  unfold fM_tell_130 at hB
  refine s_Ev.fin ((?_ : ∀ (v : Option Value) (h' : s_H), (fun (z : Int32 × s_G) (v : Option Value) (h' : s_H) => v = some (.int z.1) ∧ h' = s_hg z.2) z v h' → s_Fin 5 s_m210 (0, s_ent [.ref 130, .int x1, .int x2] (s_m210).2.2.1, [], s_hg g) v h') _ _ ⟨rfl, rfl⟩)
  intro v h' hr
  refine (show s_Fin 5 s_m210 (0, [some (.ref 130), some (.int x1), some (.int x2)], [], s_hg g) v h' from ?_)
  refine s_Fin.sg 11 (y := (13, [some (.ref 130), some (.int x1), some (.int x2)], [.int x1, .ref 130, .int (0 : Int32), .int (0 : Int32), .int x2, .int x1, .int (0 : Int32), .ref 130], s_hg (s_si g 130 0 (0 : Int32)))) rfl ?_
  obtain ⟨v1, hp, hB⟩ := s_bd hB
  refine s_Fin.cl (d := 4) (q1 := s_m192) (md := 192) (vs := [.ref 130, .int x1]) (rest := [.int (0 : Int32), .int (0 : Int32), .int x2, .int x1, .int (0 : Int32), .ref 130]) (h1 := s_hg (s_si g 130 0 (0 : Int32))) (u := some (.int v1)) (s_Ev.up (by omega) (fM_isBoy_130_s hp)) rfl rfl rfl rfl ?_
  by_cases hc : v1 = 0
  · rw [if_pos hc] at hB
    refine s_Fin.bt (c := v1 = 0) (tg := 31) (p2 := 16) (L1 := [some (.ref 130), some (.int x1), some (.int x2)]) (st1 := [.int (0 : Int32), .int (0 : Int32), .int x2, .int x1, .int (0 : Int32), .ref 130]) hc rfl ?_
    refine s_Fin.sg 1 (y := (32, [some (.ref 130), some (.int x1), some (.int x2)], [.int (0 : Int32), .int (0 : Int32), .int (0 : Int32), .int x2, .int x1, .int (0 : Int32), .ref 130], s_hg (s_si g 130 0 (0 : Int32)))) rfl ?_
    obtain ⟨v3, g2, hp, hB⟩ := s_bd2 hB
    refine s_Fin.cl (d := 4) (q1 := s_m211) (md := 211) (vs := [.ref 130, .int (0 : Int32), .int x1, .int x2, .int (0 : Int32), .int (0 : Int32), .int (0 : Int32)]) (rest := []) (h1 := s_hg g2) (u := some (.int v3)) (s_Ev.up (by omega) (fM_act_130_s hp)) rfl rfl rfl rfl ?_
    have hB := Option.some.inj hB
    subst hB
    obtain ⟨rfl, rfl⟩ := hr
    exact s_Fin.rt rfl rfl
  · rw [if_neg hc] at hB
    refine s_Fin.bf (c := v1 = 0) (tg := 31) (p2 := 16) (L1 := [some (.ref 130), some (.int x1), some (.int x2)]) (st1 := [.int (0 : Int32), .int (0 : Int32), .int x2, .int x1, .int (0 : Int32), .ref 130]) hc rfl ?_
    refine s_Fin.sg 2 (y := (21, [some (.ref 130), some (.int x1), some (.int x2)], [.int x2, .ref 130, .int (0 : Int32), .int (0 : Int32), .int x2, .int x1, .int (0 : Int32), .ref 130], s_hg (s_si g 130 0 (0 : Int32)))) rfl ?_
    obtain ⟨v4, hp, hB⟩ := s_bd hB
    refine s_Fin.cl (d := 4) (q1 := s_m201) (md := 201) (vs := [.ref 130, .int x2]) (rest := [.int (0 : Int32), .int (0 : Int32), .int x2, .int x1, .int (0 : Int32), .ref 130]) (h1 := s_hg (s_si g 130 0 (0 : Int32))) (u := some (.int v4)) (s_Ev.up (by omega) (fM_isEvent_130_s hp)) rfl rfl rfl rfl ?_
    by_cases hc : v4 = 0
    · rw [if_pos hc] at hB
      refine s_Fin.bt (c := v4 = 0) (tg := 31) (p2 := 24) (L1 := [some (.ref 130), some (.int x1), some (.int x2)]) (st1 := [.int (0 : Int32), .int (0 : Int32), .int x2, .int x1, .int (0 : Int32), .ref 130]) hc rfl ?_
      refine s_Fin.sg 1 (y := (32, [some (.ref 130), some (.int x1), some (.int x2)], [.int (0 : Int32), .int (0 : Int32), .int (0 : Int32), .int x2, .int x1, .int (0 : Int32), .ref 130], s_hg (s_si g 130 0 (0 : Int32)))) rfl ?_
      obtain ⟨v6, g5, hp, hB⟩ := s_bd2 hB
      refine s_Fin.cl (d := 4) (q1 := s_m211) (md := 211) (vs := [.ref 130, .int (0 : Int32), .int x1, .int x2, .int (0 : Int32), .int (0 : Int32), .int (0 : Int32)]) (rest := []) (h1 := s_hg g5) (u := some (.int v6)) (s_Ev.up (by omega) (fM_act_130_s hp)) rfl rfl rfl rfl ?_
      have hB := Option.some.inj hB
      subst hB
      obtain ⟨rfl, rfl⟩ := hr
      exact s_Fin.rt rfl rfl
    · rw [if_neg hc] at hB
      refine s_Fin.bf (c := v4 = 0) (tg := 31) (p2 := 24) (L1 := [some (.ref 130), some (.int x1), some (.int x2)]) (st1 := [.int (0 : Int32), .int (0 : Int32), .int x2, .int x1, .int (0 : Int32), .ref 130]) hc rfl ?_
      refine s_Fin.sg 2 (y := (32, [some (.ref 130), some (.int x1), some (.int x2)], [.int (1 : Int32), .int (0 : Int32), .int (0 : Int32), .int x2, .int x1, .int (0 : Int32), .ref 130], s_hg (s_si g 130 0 (0 : Int32)))) rfl ?_
      obtain ⟨v8, g7, hp, hB⟩ := s_bd2 hB
      refine s_Fin.cl (d := 4) (q1 := s_m211) (md := 211) (vs := [.ref 130, .int (0 : Int32), .int x1, .int x2, .int (0 : Int32), .int (0 : Int32), .int (1 : Int32)]) (rest := []) (h1 := s_hg g7) (u := some (.int v8)) (s_Ev.up (by omega) (fM_act_130_s hp)) rfl rfl rfl rfl ?_
      have hB := Option.some.inj hB
      subst hB
      obtain ⟨rfl, rfl⟩ := hr
      exact s_Fin.rt rfl rfl
-- CampAshes$State.copyFrom
noncomputable def fT_copyFrom_22_17 (g : s_G) : Option (s_G) :=
  some (s_si (s_si (s_si (s_si (s_si (s_ci (s_ci (s_ci (s_ci g 18 23 0 0 70) 19 24 0 0 7) 20 25 0 0 4) 21 26 0 0 7) 22 5 (g.1 17 5)) 22 6 (g.1 17 6)) 22 7 (g.1 17 7)) 22 8 (g.1 17 8)) 22 9 (g.1 17 9))
theorem fT_copyFrom_22_17_s {g : s_G} {z : s_G} (hB : fT_copyFrom_22_17 g = some z) : s_Ev 0 s_m62 [.ref 22, .ref 17] (s_hg g) (none) (s_hg z) := by
  unfold fT_copyFrom_22_17 at hB
  refine s_Ev.fin ((?_ : ∀ (v : Option Value) (h' : s_H), (fun (z : s_G) (v : Option Value) (h' : s_H) => v = none ∧ h' = s_hg z) z v h' → s_Fin 0 s_m62 (0, s_ent [.ref 22, .ref 17] (s_m62).2.2.1, [], s_hg g) v h') _ _ ⟨rfl, rfl⟩)
  intro v h' hr
  refine (show s_Fin 0 s_m62 (0, [some (.ref 22), some (.ref 17)], [], s_hg g) v h' from ?_)
  refine s_Fin.sg 52 (y := (99, [some (.ref 22), some (.ref 17)], [], s_hg (s_si (s_si (s_si (s_si (s_si (s_ci (s_ci (s_ci (s_ci g 18 23 0 0 70) 19 24 0 0 7) 20 25 0 0 4) 21 26 0 0 7) 22 5 (g.1 17 5)) 22 6 (g.1 17 6)) 22 7 (g.1 17 7)) 22 8 (g.1 17 8)) 22 9 (g.1 17 9)))) rfl ?_
  have hB := Option.some.inj hB
  subst hB
  obtain ⟨rfl, rfl⟩ := hr
  exact s_Fin.rt rfl rfl
-- CampAshes$State.onBoy
noncomputable def fT_onBoy_22 (x1 : Int32) (x2 : Int32) (g : s_G) : Option (Int32) :=
  s_b1 (s_ix 70 ((x1 * (7 : Int32)) + x2)) fun k2 => some (g.1 23 k2)
theorem fT_onBoy_22_s {x1 : Int32} {x2 : Int32} {g : s_G} {z : Int32} (hB : fT_onBoy_22 x1 x2 g = some z) : s_Ev 0 s_m50 [.ref 22, .int x1, .int x2] (s_hg g) (some (.int z)) (s_hg g) := by
  unfold fT_onBoy_22 at hB
  refine s_Ev.fin ((?_ : ∀ (v : Option Value) (h' : s_H), (fun (z : Int32) (v : Option Value) (h' : s_H) => v = some (.int z) ∧ h' = s_hg g) z v h' → s_Fin 0 s_m50 (0, s_ent [.ref 22, .int x1, .int x2] (s_m50).2.2.1, [], s_hg g) v h') _ _ ⟨rfl, rfl⟩)
  intro v h' hr
  refine (show s_Fin 0 s_m50 (0, [some (.ref 22), some (.int x1), some (.int x2)], [], s_hg g) v h' from ?_)
  refine s_Fin.sg 7 (y := (10, [some (.ref 22), some (.int x1), some (.int x2)], [.int ((x1 * (7 : Int32)) + x2), .ref 23], s_hg g)) rfl ?_
  obtain ⟨k2, hk2, hB⟩ := s_bd hB
  refine s_Fin.ix (n := 70) (i := (x1 * (7 : Int32)) + x2) (pc1 := 11) (L1 := [some (.ref 22), some (.int x1), some (.int x2)]) (fun j1 => [.int (g.1 23 j1)]) (fun j1 => s_hg g) hk2 rfl rfl ?_
  have hB := Option.some.inj hB
  subst hB
  obtain ⟨rfl, rfl⟩ := hr
  exact s_Fin.rt rfl rfl
-- CampAshes$State.isWet
noncomputable def fT_isWet_22 (g : s_G) : Option (Int32) :=
  if 0 < (g.1 3 11) then (if (g.1 3 11) = 0 then none else if (((g.1 22 8) + (1 : Int32)) - ((g.1 22 8) + (1 : Int32)) / (g.1 3 11) * (g.1 3 11)) = 0 then (some (1 : Int32))
  else some (0 : Int32))
  else some (0 : Int32)
theorem fT_isWet_22_s {g : s_G} {z : Int32} (hB : fT_isWet_22 g = some z) : s_Ev 0 s_m57 [.ref 22] (s_hg g) (some (.int z)) (s_hg g) := by
  unfold fT_isWet_22 at hB
  refine s_Ev.fin ((?_ : ∀ (v : Option Value) (h' : s_H), (fun (z : Int32) (v : Option Value) (h' : s_H) => v = some (.int z) ∧ h' = s_hg g) z v h' → s_Fin 0 s_m57 (0, s_ent [.ref 22] (s_m57).2.2.1, [], s_hg g) v h') _ _ ⟨rfl, rfl⟩)
  intro v h' hr
  refine (show s_Fin 0 s_m57 (0, [some (.ref 22)], [], s_hg g) v h' from ?_)
  refine s_Fin.sg 3 (y := (7, [some (.ref 22)], [.int (g.1 3 11)], s_hg g)) rfl ?_
  by_cases hc : 0 < (g.1 3 11)
  · rw [if_pos hc] at hB
    refine s_Fin.bf (c := (g.1 3 11) ≤ 0) (tg := 31) (p2 := 7) (L1 := [some (.ref 22)]) (st1 := []) (Int32.not_le.mpr hc) rfl ?_
    refine s_Fin.sg 7 (y := (23, [some (.ref 22)], [.int (g.1 3 11), .int ((g.1 22 8) + (1 : Int32))], s_hg g)) rfl ?_
    have hc : ¬ (g.1 3 11) = 0 := fun h => (by rw [if_pos h] at hB; cases hB)
    rw [if_neg hc] at hB
    refine s_Fin.gd (c := (g.1 3 11) = 0) (pc1 := 24) (L1 := [some (.ref 22)]) (st1 := [.int (((g.1 22 8) + (1 : Int32)) - ((g.1 22 8) + (1 : Int32)) / (g.1 3 11) * (g.1 3 11))]) (h1 := s_hg g) hc rfl rfl ?_
    by_cases hc : (((g.1 22 8) + (1 : Int32)) - ((g.1 22 8) + (1 : Int32)) / (g.1 3 11) * (g.1 3 11)) = 0
    · rw [if_pos hc] at hB
      refine s_Fin.bf (c := ¬ (((g.1 22 8) + (1 : Int32)) - ((g.1 22 8) + (1 : Int32)) / (g.1 3 11) * (g.1 3 11)) = 0) (tg := 31) (p2 := 24) (L1 := [some (.ref 22)]) (st1 := []) (fun h => h hc) rfl ?_
      refine s_Fin.sg 2 (y := (32, [some (.ref 22)], [.int (1 : Int32)], s_hg g)) rfl ?_
      have hB := Option.some.inj hB
      subst hB
      obtain ⟨rfl, rfl⟩ := hr
      exact s_Fin.rt rfl rfl
    · rw [if_neg hc] at hB
      refine s_Fin.bt (c := ¬ (((g.1 22 8) + (1 : Int32)) - ((g.1 22 8) + (1 : Int32)) / (g.1 3 11) * (g.1 3 11)) = 0) (tg := 31) (p2 := 24) (L1 := [some (.ref 22)]) (st1 := []) hc rfl ?_
      refine s_Fin.sg 1 (y := (32, [some (.ref 22)], [.int (0 : Int32)], s_hg g)) rfl ?_
      have hB := Option.some.inj hB
      subst hB
      obtain ⟨rfl, rfl⟩ := hr
      exact s_Fin.rt rfl rfl
  · rw [if_neg hc] at hB
    refine s_Fin.bt (c := (g.1 3 11) ≤ 0) (tg := 31) (p2 := 7) (L1 := [some (.ref 22)]) (st1 := []) (Int32.not_lt.mp hc) rfl ?_
    refine s_Fin.sg 1 (y := (32, [some (.ref 22)], [.int (0 : Int32)], s_hg g)) rfl ?_
    have hB := Option.some.inj hB
    subst hB
    obtain ⟨rfl, rfl⟩ := hr
    exact s_Fin.rt rfl rfl
-- CampAshes$State.isHushed
noncomputable def fT_isHushed_22 (x1 : Int32) (g : s_G) : Option (Int32) :=
  if (((g.1 22 5) >>> (x1 &&& 31)) &&& (1 : Int32)) = (1 : Int32) then (some (1 : Int32))
  else some (0 : Int32)
theorem fT_isHushed_22_s {x1 : Int32} {g : s_G} {z : Int32} (hB : fT_isHushed_22 x1 g = some z) : s_Ev 0 s_m65 [.ref 22, .int x1] (s_hg g) (some (.int z)) (s_hg g) := by
  unfold fT_isHushed_22 at hB
  refine s_Ev.fin ((?_ : ∀ (v : Option Value) (h' : s_H), (fun (z : Int32) (v : Option Value) (h' : s_H) => v = some (.int z) ∧ h' = s_hg g) z v h' → s_Fin 0 s_m65 (0, s_ent [.ref 22, .int x1] (s_m65).2.2.1, [], s_hg g) v h') _ _ ⟨rfl, rfl⟩)
  intro v h' hr
  refine (show s_Fin 0 s_m65 (0, [some (.ref 22), some (.int x1)], [], s_hg g) v h' from ?_)
  refine s_Fin.sg 7 (y := (9, [some (.ref 22), some (.int x1)], [.int (1 : Int32), .int (((g.1 22 5) >>> (x1 &&& 31)) &&& (1 : Int32))], s_hg g)) rfl ?_
  by_cases hc : (((g.1 22 5) >>> (x1 &&& 31)) &&& (1 : Int32)) = (1 : Int32)
  · rw [if_pos hc] at hB
    refine s_Fin.bf (c := ¬ (((g.1 22 5) >>> (x1 &&& 31)) &&& (1 : Int32)) = (1 : Int32)) (tg := 16) (p2 := 9) (L1 := [some (.ref 22), some (.int x1)]) (st1 := []) (fun h => h hc) rfl ?_
    refine s_Fin.sg 2 (y := (17, [some (.ref 22), some (.int x1)], [.int (1 : Int32)], s_hg g)) rfl ?_
    have hB := Option.some.inj hB
    subst hB
    obtain ⟨rfl, rfl⟩ := hr
    exact s_Fin.rt rfl rfl
  · rw [if_neg hc] at hB
    refine s_Fin.bt (c := ¬ (((g.1 22 5) >>> (x1 &&& 31)) &&& (1 : Int32)) = (1 : Int32)) (tg := 16) (p2 := 9) (L1 := [some (.ref 22), some (.int x1)]) (st1 := []) hc rfl ?_
    refine s_Fin.sg 1 (y := (17, [some (.ref 22), some (.int x1)], [.int (0 : Int32)], s_hg g)) rfl ?_
    have hB := Option.some.inj hB
    subst hB
    obtain ⟨rfl, rfl⟩ := hr
    exact s_Fin.rt rfl rfl
-- CampAshes$State.whyNotSpeak
noncomputable def fT_whyNotSpeak_22 (x1 : Int32) (x2 : Int32) (g : s_G) : Option (Int32) :=
  s_b1 (fT_onBoy_22 x2 x1 g) fun v1 => if v1 = 0 then (some (1 : Int32))
  else s_b1 (fT_isWet_22 g) fun v2 => if v2 = 0 then (if (g.1 22 6) = 0 then (some (3 : Int32))
  else s_b1 (fT_isHushed_22 x1 g) fun v3 => if v3 = 0 then (some (0 : Int32))
  else some (4 : Int32))
  else some (2 : Int32)
theorem fT_whyNotSpeak_22_s {x1 : Int32} {x2 : Int32} {g : s_G} {z : Int32} (hB : fT_whyNotSpeak_22 x1 x2 g = some z) : s_Ev 1 s_m64 [.ref 22, .int x1, .int x2] (s_hg g) (some (.int z)) (s_hg g) := by
  unfold fT_whyNotSpeak_22 at hB
  refine s_Ev.fin ((?_ : ∀ (v : Option Value) (h' : s_H), (fun (z : Int32) (v : Option Value) (h' : s_H) => v = some (.int z) ∧ h' = s_hg g) z v h' → s_Fin 1 s_m64 (0, s_ent [.ref 22, .int x1, .int x2] (s_m64).2.2.1, [], s_hg g) v h') _ _ ⟨rfl, rfl⟩)
  intro v h' hr
  refine (show s_Fin 1 s_m64 (0, [some (.ref 22), some (.int x1), some (.int x2)], [], s_hg g) v h' from ?_)
  refine s_Fin.sg 3 (y := (3, [some (.ref 22), some (.int x1), some (.int x2)], [.int x1, .int x2, .ref 22], s_hg g)) rfl ?_
  obtain ⟨v1, hp, hB⟩ := s_bd hB
  refine s_Fin.cl (d := 0) (q1 := s_m50) (md := 50) (vs := [.ref 22, .int x2, .int x1]) (rest := []) (h1 := s_hg g) (u := some (.int v1)) (s_Ev.up (by omega) (fT_onBoy_22_s hp)) rfl rfl rfl rfl ?_
  by_cases hc : v1 = 0
  · rw [if_pos hc] at hB
    refine s_Fin.bf (c := ¬ v1 = 0) (tg := 11) (p2 := 6) (L1 := [some (.ref 22), some (.int x1), some (.int x2)]) (st1 := []) (fun h => h hc) rfl ?_
    refine s_Fin.sg 1 (y := (10, [some (.ref 22), some (.int x1), some (.int x2)], [.int (1 : Int32)], s_hg g)) rfl ?_
    have hB := Option.some.inj hB
    subst hB
    obtain ⟨rfl, rfl⟩ := hr
    exact s_Fin.rt rfl rfl
  · rw [if_neg hc] at hB
    refine s_Fin.bt (c := ¬ v1 = 0) (tg := 11) (p2 := 6) (L1 := [some (.ref 22), some (.int x1), some (.int x2)]) (st1 := []) hc rfl ?_
    refine s_Fin.sg 1 (y := (12, [some (.ref 22), some (.int x1), some (.int x2)], [.ref 22], s_hg g)) rfl ?_
    obtain ⟨v2, hp, hB⟩ := s_bd hB
    refine s_Fin.cl (d := 0) (q1 := s_m57) (md := 57) (vs := [.ref 22]) (rest := []) (h1 := s_hg g) (u := some (.int v2)) (s_Ev.up (by omega) (fT_isWet_22_s hp)) rfl rfl rfl rfl ?_
    by_cases hc : v2 = 0
    · rw [if_pos hc] at hB
      refine s_Fin.bt (c := v2 = 0) (tg := 20) (p2 := 15) (L1 := [some (.ref 22), some (.int x1), some (.int x2)]) (st1 := []) hc rfl ?_
      refine s_Fin.sg 2 (y := (24, [some (.ref 22), some (.int x1), some (.int x2)], [.int (g.1 22 6)], s_hg g)) rfl ?_
      by_cases hc : (g.1 22 6) = 0
      · rw [if_pos hc] at hB
        refine s_Fin.bf (c := ¬ (g.1 22 6) = 0) (tg := 29) (p2 := 24) (L1 := [some (.ref 22), some (.int x1), some (.int x2)]) (st1 := []) (fun h => h hc) rfl ?_
        refine s_Fin.sg 1 (y := (28, [some (.ref 22), some (.int x1), some (.int x2)], [.int (3 : Int32)], s_hg g)) rfl ?_
        have hB := Option.some.inj hB
        subst hB
        obtain ⟨rfl, rfl⟩ := hr
        exact s_Fin.rt rfl rfl
      · rw [if_neg hc] at hB
        refine s_Fin.bt (c := ¬ (g.1 22 6) = 0) (tg := 29) (p2 := 24) (L1 := [some (.ref 22), some (.int x1), some (.int x2)]) (st1 := []) hc rfl ?_
        refine s_Fin.sg 2 (y := (31, [some (.ref 22), some (.int x1), some (.int x2)], [.int x1, .ref 22], s_hg g)) rfl ?_
        obtain ⟨v3, hp, hB⟩ := s_bd hB
        refine s_Fin.cl (d := 0) (q1 := s_m65) (md := 65) (vs := [.ref 22, .int x1]) (rest := []) (h1 := s_hg g) (u := some (.int v3)) (s_Ev.up (by omega) (fT_isHushed_22_s hp)) rfl rfl rfl rfl ?_
        by_cases hc : v3 = 0
        · rw [if_pos hc] at hB
          refine s_Fin.bt (c := v3 = 0) (tg := 41) (p2 := 34) (L1 := [some (.ref 22), some (.int x1), some (.int x2)]) (st1 := []) hc rfl ?_
          refine s_Fin.sg 1 (y := (42, [some (.ref 22), some (.int x1), some (.int x2)], [.int (0 : Int32)], s_hg g)) rfl ?_
          have hB := Option.some.inj hB
          subst hB
          obtain ⟨rfl, rfl⟩ := hr
          exact s_Fin.rt rfl rfl
        · rw [if_neg hc] at hB
          refine s_Fin.bf (c := v3 = 0) (tg := 41) (p2 := 34) (L1 := [some (.ref 22), some (.int x1), some (.int x2)]) (st1 := []) hc rfl ?_
          refine s_Fin.sg 2 (y := (42, [some (.ref 22), some (.int x1), some (.int x2)], [.int (4 : Int32)], s_hg g)) rfl ?_
          have hB := Option.some.inj hB
          subst hB
          obtain ⟨rfl, rfl⟩ := hr
          exact s_Fin.rt rfl rfl
    · rw [if_neg hc] at hB
      refine s_Fin.bf (c := v2 = 0) (tg := 20) (p2 := 15) (L1 := [some (.ref 22), some (.int x1), some (.int x2)]) (st1 := []) hc rfl ?_
      refine s_Fin.sg 1 (y := (19, [some (.ref 22), some (.int x1), some (.int x2)], [.int (2 : Int32)], s_hg g)) rfl ?_
      have hB := Option.some.inj hB
      subst hB
      obtain ⟨rfl, rfl⟩ := hr
      exact s_Fin.rt rfl rfl
-- CampAshes$State.wouldTake
noncomputable def fT_wouldTake_22 (x1 : Int32) (g : s_G) : Option (Int32) :=
  s_b1 (s_ix 4 x1) fun k2 => some ((g.1 9 k2) + ((g.1 22 6) / (5 : Int32)))
theorem fT_wouldTake_22_s {x1 : Int32} {g : s_G} {z : Int32} (hB : fT_wouldTake_22 x1 g = some z) : s_Ev 0 s_m54 [.ref 22, .int x1] (s_hg g) (some (.int z)) (s_hg g) := by
  unfold fT_wouldTake_22 at hB
  refine s_Ev.fin ((?_ : ∀ (v : Option Value) (h' : s_H), (fun (z : Int32) (v : Option Value) (h' : s_H) => v = some (.int z) ∧ h' = s_hg g) z v h' → s_Fin 0 s_m54 (0, s_ent [.ref 22, .int x1] (s_m54).2.2.1, [], s_hg g) v h') _ _ ⟨rfl, rfl⟩)
  intro v h' hr
  refine (show s_Fin 0 s_m54 (0, [some (.ref 22), some (.int x1)], [], s_hg g) v h' from ?_)
  refine s_Fin.sg 4 (y := (8, [some (.ref 22), some (.int x1)], [.int x1, .ref 9], s_hg g)) rfl ?_
  obtain ⟨k2, hk2, hB⟩ := s_bd hB
  refine s_Fin.ix (n := 4) (i := x1) (pc1 := 9) (L1 := [some (.ref 22), some (.int x1)]) (fun j1 => [.int (g.1 9 j1)]) (fun j1 => s_hg g) hk2 rfl rfl ?_
  refine s_Fin.sg 5 (y := (16, [some (.ref 22), some (.int x1)], [.int ((g.1 9 k2) + ((g.1 22 6) / (5 : Int32)))], s_hg g)) rfl ?_
  have hB := Option.some.inj hB
  subst hB
  obtain ⟨rfl, rfl⟩ := hr
  exact s_Fin.rt rfl rfl
-- CampAshes$State.putOn
noncomputable def fT_putOn_22 (x1 : Int32) (x2 : Int32) (x3 : Int32) (g : s_G) : Option (s_G) :=
  s_b1 (s_ix 70 ((x1 * (7 : Int32)) + x2)) fun k2 => s_b1 (s_ix 7 x2) fun k5 => some (s_si (s_si g 23 k2 ((g.1 23 k2) + x3)) 24 k5 ((g.1 24 k5) + x3))
theorem fT_putOn_22_s {x1 : Int32} {x2 : Int32} {x3 : Int32} {g : s_G} {z : s_G} (hB : fT_putOn_22 x1 x2 x3 g = some z) : s_Ev 0 s_m14 [.ref 22, .int x1, .int x2, .int x3] (s_hg g) (none) (s_hg z) := by
  unfold fT_putOn_22 at hB
  refine s_Ev.fin ((?_ : ∀ (v : Option Value) (h' : s_H), (fun (z : s_G) (v : Option Value) (h' : s_H) => v = none ∧ h' = s_hg z) z v h' → s_Fin 0 s_m14 (0, s_ent [.ref 22, .int x1, .int x2, .int x3] (s_m14).2.2.1, [], s_hg g) v h') _ _ ⟨rfl, rfl⟩)
  intro v h' hr
  refine (show s_Fin 0 s_m14 (0, [some (.ref 22), some (.int x1), some (.int x2), some (.int x3)], [], s_hg g) v h' from ?_)
  refine s_Fin.sg 8 (y := (11, [some (.ref 22), some (.int x1), some (.int x2), some (.int x3)], [.int ((x1 * (7 : Int32)) + x2), .ref 23, .int ((x1 * (7 : Int32)) + x2), .ref 23], s_hg g)) rfl ?_
  obtain ⟨k2, hk2, hB⟩ := s_bd hB
  refine s_Fin.ix (n := 70) (i := (x1 * (7 : Int32)) + x2) (pc1 := 12) (L1 := [some (.ref 22), some (.int x1), some (.int x2), some (.int x3)]) (fun j1 => [.int (g.1 23 j1), .int ((x1 * (7 : Int32)) + x2), .ref 23]) (fun j1 => s_hg g) hk2 rfl rfl ?_
  refine s_Fin.sg 2 (y := (14, [some (.ref 22), some (.int x1), some (.int x2), some (.int x3)], [.int ((g.1 23 k2) + x3), .int ((x1 * (7 : Int32)) + x2), .ref 23], s_hg g)) rfl ?_
  refine s_Fin.ix (n := 70) (i := (x1 * (7 : Int32)) + x2) (pc1 := 15) (L1 := [some (.ref 22), some (.int x1), some (.int x2), some (.int x3)]) (fun j3 => []) (fun j3 => s_hg (s_si g 23 j3 ((g.1 23 k2) + x3))) hk2 rfl rfl ?_
  refine s_Fin.sg 4 (y := (21, [some (.ref 22), some (.int x1), some (.int x2), some (.int x3)], [.int x2, .ref 24, .int x2, .ref 24], s_hg (s_si g 23 k2 ((g.1 23 k2) + x3)))) rfl ?_
  obtain ⟨k5, hk5, hB⟩ := s_bd hB
  refine s_Fin.ix (n := 7) (i := x2) (pc1 := 22) (L1 := [some (.ref 22), some (.int x1), some (.int x2), some (.int x3)]) (fun j4 => [.int (g.1 24 j4), .int x2, .ref 24]) (fun j4 => s_hg (s_si g 23 k2 ((g.1 23 k2) + x3))) hk5 rfl rfl ?_
  refine s_Fin.sg 2 (y := (24, [some (.ref 22), some (.int x1), some (.int x2), some (.int x3)], [.int ((g.1 24 k5) + x3), .int x2, .ref 24], s_hg (s_si g 23 k2 ((g.1 23 k2) + x3)))) rfl ?_
  refine s_Fin.ix (n := 7) (i := x2) (pc1 := 25) (L1 := [some (.ref 22), some (.int x1), some (.int x2), some (.int x3)]) (fun j6 => []) (fun j6 => s_hg (s_si (s_si g 23 k2 ((g.1 23 k2) + x3)) 24 j6 ((g.1 24 k5) + x3))) hk5 rfl rfl ?_
  have hB := Option.some.inj hB
  subst hB
  obtain ⟨rfl, rfl⟩ := hr
  exact s_Fin.rt rfl rfl
-- CampAshes$State.hush
noncomputable def fT_hush_22 (x1 : Int32) (g : s_G) : Option (s_G) :=
  some (s_si (s_si g 22 6 ((g.1 22 6) - (1 : Int32))) 22 5 ((g.1 22 5) ||| ((1 : Int32) <<< (x1 &&& 31))))
theorem fT_hush_22_s {x1 : Int32} {g : s_G} {z : s_G} (hB : fT_hush_22 x1 g = some z) : s_Ev 0 s_m66 [.ref 22, .int x1] (s_hg g) (none) (s_hg z) := by
  unfold fT_hush_22 at hB
  refine s_Ev.fin ((?_ : ∀ (v : Option Value) (h' : s_H), (fun (z : s_G) (v : Option Value) (h' : s_H) => v = none ∧ h' = s_hg z) z v h' → s_Fin 0 s_m66 (0, s_ent [.ref 22, .int x1] (s_m66).2.2.1, [], s_hg g) v h') _ _ ⟨rfl, rfl⟩)
  intro v h' hr
  refine (show s_Fin 0 s_m66 (0, [some (.ref 22), some (.int x1)], [], s_hg g) v h' from ?_)
  refine s_Fin.sg 14 (y := (22, [some (.ref 22), some (.int x1)], [], s_hg (s_si (s_si g 22 6 ((g.1 22 6) - (1 : Int32))) 22 5 ((g.1 22 5) ||| ((1 : Int32) <<< (x1 &&& 31)))))) rfl ?_
  have hB := Option.some.inj hB
  subst hB
  obtain ⟨rfl, rfl⟩ := hr
  exact s_Fin.rt rfl rfl
