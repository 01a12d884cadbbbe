-- CampAshes$State.tellEvent
noncomputable def fT_tellEvent_22 (x1 : Int32) (x2 : Int32) (g : s_G) : Option (Int32 × s_G) :=
  s_b1 (fT_whyNotSpeak_22 x1 x2 g) fun v1 => if v1 = 0 then (s_b1 (s_ix 10 x2) fun k3 => s_b1 (fT_wouldTake_22 (g.1 7 k3) g) fun v4 => s_b1 (fT_onBoy_22 x2 x1 g) fun v5 => s_b1 (fT_putOn_22 x2 x1 (-(if v5 < v4 then v5 else v4)) g) fun g6 => s_b1 (s_ix 4 (g.1 7 k3)) fun k8 => s_b1 (fT_hush_22 x1 (s_si g6 25 k8 ((g6.1 25 k8) + (if v5 < v4 then v5 else v4)))) fun g10 => some (v1, g10))
  else some (v1, g)
theorem fT_tellEvent_22_s {x1 : Int32} {x2 : Int32} {g : s_G} {z : Int32 × s_G} (hB : fT_tellEvent_22 x1 x2 g = some z) : s_Ev 2 s_m63 [.ref 22, .int x1, .int x2] (s_hg g) (some (.int z.1)) (s_hg z.2) := by
  unfold fT_tellEvent_22 at hB
  refine s_Ev.fin ((?_ : ∀ (v : Option Value) (h' : s_H), (fun (z : Int32 × s_G) (v : Option Value) (h' : s_H) => v = some (.int z.1) ∧ h' = s_hg z.2) z v h' → s_Fin 2 s_m63 (0, s_ent [.ref 22, .int x1, .int x2] (s_m63).2.2.1, [], s_hg g) v h') _ _ ⟨rfl, rfl⟩)
  intro v h' hr
  refine (show s_Fin 2 s_m63 (0, [some (.ref 22), some (.int x1), some (.int x2), none, none, none], [], s_hg g) v h' from ?_)
  refine s_Fin.sg 3 (y := (3, [some (.ref 22), some (.int x1), some (.int x2), none, none, none], [.int x2, .int x1, .ref 22], s_hg g)) rfl ?_
  obtain ⟨v1, hp, hB⟩ := s_bd hB
  refine s_Fin.cl (d := 1) (q1 := s_m64) (md := 64) (vs := [.ref 22, .int x1, .int x2]) (rest := []) (h1 := s_hg g) (u := some (.int v1)) (s_Ev.up (by omega) (fT_whyNotSpeak_22_s hp)) rfl rfl rfl rfl ?_
  refine s_Fin.sg 2 (y := (8, [some (.ref 22), some (.int x1), some (.int x2), some (.int v1), none, none], [.int v1], s_hg g)) rfl ?_
  by_cases hc : v1 = 0
  · rw [if_pos hc] at hB
    refine s_Fin.bf (c := ¬ v1 = 0) (tg := 65) (p2 := 8) (L1 := [some (.ref 22), some (.int x1), some (.int x2), some (.int v1), none, none]) (st1 := []) (fun h => h hc) rfl ?_
    refine s_Fin.sg 4 (y := (19, [some (.ref 22), some (.int x1), some (.int x2), some (.int v1), none, none], [.int x2, .ref 7], s_hg g)) rfl ?_
    obtain ⟨k3, hk3, hB⟩ := s_bd hB
    refine s_Fin.ix (n := 10) (i := x2) (pc1 := 20) (L1 := [some (.ref 22), some (.int x1), some (.int x2), some (.int v1), none, none]) (fun j2 => [.int (g.1 7 j2)]) (fun j2 => s_hg g) hk3 rfl rfl ?_
    refine s_Fin.sg 3 (y := (25, [some (.ref 22), some (.int x1), some (.int x2), some (.int v1), some (.int (g.1 7 k3)), none], [.int (g.1 7 k3), .ref 22], s_hg g)) rfl ?_
    obtain ⟨v4, hp, hB⟩ := s_bd hB
    refine s_Fin.cl (d := 1) (q1 := s_m54) (md := 54) (vs := [.ref 22, .int (g.1 7 k3)]) (rest := []) (h1 := s_hg g) (u := some (.int v4)) (s_Ev.up (by omega) (fT_wouldTake_22_s hp)) rfl rfl rfl rfl ?_
    refine s_Fin.sg 3 (y := (31, [some (.ref 22), some (.int x1), some (.int x2), some (.int v1), some (.int (g.1 7 k3)), none], [.int x1, .int x2, .ref 22, .int v4], s_hg g)) rfl ?_
    obtain ⟨v5, hp, hB⟩ := s_bd hB
    refine s_Fin.cl (d := 1) (q1 := s_m50) (md := 50) (vs := [.ref 22, .int x2, .int x1]) (rest := [.int v4]) (h1 := s_hg g) (u := some (.int v5)) (s_Ev.up (by omega) (fT_onBoy_22_s hp)) rfl rfl rfl rfl ?_
    refine s_Fin.sg 7 (y := (45, [some (.ref 22), some (.int x1), some (.int x2), some (.int v1), some (.int (g.1 7 k3)), some (.int (if v5 < v4 then v5 else v4))], [.int (-(if v5 < v4 then v5 else v4)), .int x1, .int x2, .ref 22], s_hg g)) rfl ?_
    obtain ⟨g6, hp, hB⟩ := s_bd hB
    refine s_Fin.cl (d := 1) (q1 := s_m14) (md := 14) (vs := [.ref 22, .int x2, .int x1, .int (-(if v5 < v4 then v5 else v4))]) (rest := []) (h1 := s_hg g6) (u := none) (s_Ev.up (by omega) (fT_putOn_22_s hp)) rfl rfl rfl rfl ?_
    refine s_Fin.sg 4 (y := (55, [some (.ref 22), some (.int x1), some (.int x2), some (.int v1), some (.int (g.1 7 k3)), some (.int (if v5 < v4 then v5 else v4))], [.int (g.1 7 k3), .ref 25, .int (g.1 7 k3), .ref 25], s_hg g6)) rfl ?_
    obtain ⟨k8, hk8, hB⟩ := s_bd hB
    refine s_Fin.ix (n := 4) (i := g.1 7 k3) (pc1 := 56) (L1 := [some (.ref 22), some (.int x1), some (.int x2), some (.int v1), some (.int (g.1 7 k3)), some (.int (if v5 < v4 then v5 else v4))]) (fun j7 => [.int (g6.1 25 j7), .int (g.1 7 k3), .ref 25]) (fun j7 => s_hg g6) hk8 rfl rfl ?_
    refine s_Fin.sg 2 (y := (59, [some (.ref 22), some (.int x1), some (.int x2), some (.int v1), some (.int (g.1 7 k3)), some (.int (if v5 < v4 then v5 else v4))], [.int ((g6.1 25 k8) + (if v5 < v4 then v5 else v4)), .int (g.1 7 k3), .ref 25], s_hg g6)) rfl ?_
    refine s_Fin.ix (n := 4) (i := g.1 7 k3) (pc1 := 60) (L1 := [some (.ref 22), some (.int x1), some (.int x2), some (.int v1), some (.int (g.1 7 k3)), some (.int (if v5 < v4 then v5 else v4))]) (fun j9 => []) (fun j9 => s_hg (s_si g6 25 j9 ((g6.1 25 k8) + (if v5 < v4 then v5 else v4)))) hk8 rfl rfl ?_
    refine s_Fin.sg 2 (y := (62, [some (.ref 22), some (.int x1), some (.int x2), some (.int v1), some (.int (g.1 7 k3)), some (.int (if v5 < v4 then v5 else v4))], [.int x1, .ref 22], s_hg (s_si g6 25 k8 ((g6.1 25 k8) + (if v5 < v4 then v5 else v4))))) rfl ?_
    obtain ⟨g10, hp, hB⟩ := s_bd hB
    refine s_Fin.cl (d := 1) (q1 := s_m66) (md := 66) (vs := [.ref 22, .int x1]) (rest := []) (h1 := s_hg g10) (u := none) (s_Ev.up (by omega) (fT_hush_22_s hp)) rfl rfl rfl rfl ?_
    refine s_Fin.sg 1 (y := (66, [some (.ref 22), some (.int x1), some (.int x2), some (.int v1), some (.int (g.1 7 k3)), some (.int (if v5 < v4 then v5 else v4))], [.int v1], s_hg g10)) rfl ?_
    have hB := Option.some.inj hB
    subst hB
    obtain ⟨rfl, rfl⟩ := hr
    exact s_Fin.rt rfl rfl
  · rw [if_neg hc] at hB
    refine s_Fin.bt (c := ¬ v1 = 0) (tg := 65) (p2 := 8) (L1 := [some (.ref 22), some (.int x1), some (.int x2), some (.int v1), none, none]) (st1 := []) hc rfl ?_
    refine s_Fin.sg 1 (y := (66, [some (.ref 22), some (.int x1), some (.int x2), some (.int v1), none, none], [.int v1], s_hg g)) rfl ?_
    have hB := Option.some.inj hB
    subst hB
    obtain ⟨rfl, rfl⟩ := hr
    exact s_Fin.rt rfl rfl
-- CampAshes$State.copyFrom
noncomputable def fT_copyFrom_45_17 (g : s_G) : Option (s_G) :=
  some (s_si (s_si (s_si (s_si (s_si (s_ci (s_ci (s_ci (s_ci g 18 46 0 0 70) 19 47 0 0 7) 20 48 0 0 4) 21 49 0 0 7) 45 5 (g.1 17 5)) 45 6 (g.1 17 6)) 45 7 (g.1 17 7)) 45 8 (g.1 17 8)) 45 9 (g.1 17 9))
theorem fT_copyFrom_45_17_s {g : s_G} {z : s_G} (hB : fT_copyFrom_45_17 g = some z) : s_Ev 0 s_m62 [.ref 45, .ref 17] (s_hg g) (none) (s_hg z) := by
  unfold fT_copyFrom_45_17 at hB
  refine s_Ev.fin ((?_ : ∀ (v : Option Value) (h' : s_H), (fun (z : s_G) (v : Option Value) (h' : s_H) => v = none ∧ h' = s_hg z) z v h' → s_Fin 0 s_m62 (0, s_ent [.ref 45, .ref 17] (s_m62).2.2.1, [], s_hg g) v h') _ _ ⟨rfl, rfl⟩)
  intro v h' hr
  refine (show s_Fin 0 s_m62 (0, [some (.ref 45), some (.ref 17)], [], s_hg g) v h' from ?_)
  refine s_Fin.sg 52 (y := (99, [some (.ref 45), some (.ref 17)], [], s_hg (s_si (s_si (s_si (s_si (s_si (s_ci (s_ci (s_ci (s_ci g 18 46 0 0 70) 19 47 0 0 7) 20 48 0 0 4) 21 49 0 0 7) 45 5 (g.1 17 5)) 45 6 (g.1 17 6)) 45 7 (g.1 17 7)) 45 8 (g.1 17 8)) 45 9 (g.1 17 9)))) rfl ?_
  have hB := Option.some.inj hB
  subst hB
  obtain ⟨rfl, rfl⟩ := hr
  exact s_Fin.rt rfl rfl
-- CampAshes$State.copyFrom
noncomputable def fT_copyFrom_50_17 (g : s_G) : Option (s_G) :=
  some (s_si (s_si (s_si (s_si (s_si (s_ci (s_ci (s_ci (s_ci g 18 51 0 0 70) 19 52 0 0 7) 20 53 0 0 4) 21 54 0 0 7) 50 5 (g.1 17 5)) 50 6 (g.1 17 6)) 50 7 (g.1 17 7)) 50 8 (g.1 17 8)) 50 9 (g.1 17 9))
theorem fT_copyFrom_50_17_s {g : s_G} {z : s_G} (hB : fT_copyFrom_50_17 g = some z) : s_Ev 0 s_m62 [.ref 50, .ref 17] (s_hg g) (none) (s_hg z) := by
  unfold fT_copyFrom_50_17 at hB
  refine s_Ev.fin ((?_ : ∀ (v : Option Value) (h' : s_H), (fun (z : s_G) (v : Option Value) (h' : s_H) => v = none ∧ h' = s_hg z) z v h' → s_Fin 0 s_m62 (0, s_ent [.ref 50, .ref 17] (s_m62).2.2.1, [], s_hg g) v h') _ _ ⟨rfl, rfl⟩)
  intro v h' hr
  refine (show s_Fin 0 s_m62 (0, [some (.ref 50), some (.ref 17)], [], s_hg g) v h' from ?_)
  refine s_Fin.sg 52 (y := (99, [some (.ref 50), some (.ref 17)], [], s_hg (s_si (s_si (s_si (s_si (s_si (s_ci (s_ci (s_ci (s_ci g 18 51 0 0 70) 19 52 0 0 7) 20 53 0 0 4) 21 54 0 0 7) 50 5 (g.1 17 5)) 50 6 (g.1 17 6)) 50 7 (g.1 17 7)) 50 8 (g.1 17 8)) 50 9 (g.1 17 9)))) rfl ?_
  have hB := Option.some.inj hB
  subst hB
  obtain ⟨rfl, rfl⟩ := hr
  exact s_Fin.rt rfl rfl
-- CampAshes$State.copyFrom
noncomputable def fT_copyFrom_55_17 (g : s_G) : Option (s_G) :=
  some (s_si (s_si (s_si (s_si (s_si (s_ci (s_ci (s_ci (s_ci g 18 56 0 0 70) 19 57 0 0 7) 20 58 0 0 4) 21 59 0 0 7) 55 5 (g.1 17 5)) 55 6 (g.1 17 6)) 55 7 (g.1 17 7)) 55 8 (g.1 17 8)) 55 9 (g.1 17 9))
theorem fT_copyFrom_55_17_s {g : s_G} {z : s_G} (hB : fT_copyFrom_55_17 g = some z) : s_Ev 0 s_m62 [.ref 55, .ref 17] (s_hg g) (none) (s_hg z) := by
  unfold fT_copyFrom_55_17 at hB
  refine s_Ev.fin ((?_ : ∀ (v : Option Value) (h' : s_H), (fun (z : s_G) (v : Option Value) (h' : s_H) => v = none ∧ h' = s_hg z) z v h' → s_Fin 0 s_m62 (0, s_ent [.ref 55, .ref 17] (s_m62).2.2.1, [], s_hg g) v h') _ _ ⟨rfl, rfl⟩)
  intro v h' hr
  refine (show s_Fin 0 s_m62 (0, [some (.ref 55), some (.ref 17)], [], s_hg g) v h' from ?_)
  refine s_Fin.sg 52 (y := (99, [some (.ref 55), some (.ref 17)], [], s_hg (s_si (s_si (s_si (s_si (s_si (s_ci (s_ci (s_ci (s_ci g 18 56 0 0 70) 19 57 0 0 7) 20 58 0 0 4) 21 59 0 0 7) 55 5 (g.1 17 5)) 55 6 (g.1 17 6)) 55 7 (g.1 17 7)) 55 8 (g.1 17 8)) 55 9 (g.1 17 9)))) rfl ?_
  have hB := Option.some.inj hB
  subst hB
  obtain ⟨rfl, rfl⟩ := hr
  exact s_Fin.rt rfl rfl
-- CampAshes$State.copyFrom
noncomputable def fT_copyFrom_60_17 (g : s_G) : Option (s_G) :=
  some (s_si (s_si (s_si (s_si (s_si (s_ci (s_ci (s_ci (s_ci g 18 61 0 0 70) 19 62 0 0 7) 20 63 0 0 4) 21 64 0 0 7) 60 5 (g.1 17 5)) 60 6 (g.1 17 6)) 60 7 (g.1 17 7)) 60 8 (g.1 17 8)) 60 9 (g.1 17 9))
theorem fT_copyFrom_60_17_s {g : s_G} {z : s_G} (hB : fT_copyFrom_60_17 g = some z) : s_Ev 0 s_m62 [.ref 60, .ref 17] (s_hg g) (none) (s_hg z) := by
  unfold fT_copyFrom_60_17 at hB
  refine s_Ev.fin ((?_ : ∀ (v : Option Value) (h' : s_H), (fun (z : s_G) (v : Option Value) (h' : s_H) => v = none ∧ h' = s_hg z) z v h' → s_Fin 0 s_m62 (0, s_ent [.ref 60, .ref 17] (s_m62).2.2.1, [], s_hg g) v h') _ _ ⟨rfl, rfl⟩)
  intro v h' hr
  refine (show s_Fin 0 s_m62 (0, [some (.ref 60), some (.ref 17)], [], s_hg g) v h' from ?_)
  refine s_Fin.sg 52 (y := (99, [some (.ref 60), some (.ref 17)], [], s_hg (s_si (s_si (s_si (s_si (s_si (s_ci (s_ci (s_ci (s_ci g 18 61 0 0 70) 19 62 0 0 7) 20 63 0 0 4) 21 64 0 0 7) 60 5 (g.1 17 5)) 60 6 (g.1 17 6)) 60 7 (g.1 17 7)) 60 8 (g.1 17 8)) 60 9 (g.1 17 9)))) rfl ?_
  have hB := Option.some.inj hB
  subst hB
  obtain ⟨rfl, rfl⟩ := hr
  exact s_Fin.rt rfl rfl
-- CampAshes$State.copyFrom
noncomputable def fT_copyFrom_65_17 (g : s_G) : Option (s_G) :=
  some (s_si (s_si (s_si (s_si (s_si (s_ci (s_ci (s_ci (s_ci g 18 66 0 0 70) 19 67 0 0 7) 20 68 0 0 4) 21 69 0 0 7) 65 5 (g.1 17 5)) 65 6 (g.1 17 6)) 65 7 (g.1 17 7)) 65 8 (g.1 17 8)) 65 9 (g.1 17 9))
theorem fT_copyFrom_65_17_s {g : s_G} {z : s_G} (hB : fT_copyFrom_65_17 g = some z) : s_Ev 0 s_m62 [.ref 65, .ref 17] (s_hg g) (none) (s_hg z) := by
  unfold fT_copyFrom_65_17 at hB
  refine s_Ev.fin ((?_ : ∀ (v : Option Value) (h' : s_H), (fun (z : s_G) (v : Option Value) (h' : s_H) => v = none ∧ h' = s_hg z) z v h' → s_Fin 0 s_m62 (0, s_ent [.ref 65, .ref 17] (s_m62).2.2.1, [], s_hg g) v h') _ _ ⟨rfl, rfl⟩)
  intro v h' hr
  refine (show s_Fin 0 s_m62 (0, [some (.ref 65), some (.ref 17)], [], s_hg g) v h' from ?_)
  refine s_Fin.sg 52 (y := (99, [some (.ref 65), some (.ref 17)], [], s_hg (s_si (s_si (s_si (s_si (s_si (s_ci (s_ci (s_ci (s_ci g 18 66 0 0 70) 19 67 0 0 7) 20 68 0 0 4) 21 69 0 0 7) 65 5 (g.1 17 5)) 65 6 (g.1 17 6)) 65 7 (g.1 17 7)) 65 8 (g.1 17 8)) 65 9 (g.1 17 9)))) rfl ?_
  have hB := Option.some.inj hB
  subst hB
  obtain ⟨rfl, rfl⟩ := hr
  exact s_Fin.rt rfl rfl
-- CampAshes$State.copyFrom
noncomputable def fT_copyFrom_70_17 (g : s_G) : Option (s_G) :=
  some (s_si (s_si (s_si (s_si (s_si (s_ci (s_ci (s_ci (s_ci g 18 71 0 0 70) 19 72 0 0 7) 20 73 0 0 4) 21 74 0 0 7) 70 5 (g.1 17 5)) 70 6 (g.1 17 6)) 70 7 (g.1 17 7)) 70 8 (g.1 17 8)) 70 9 (g.1 17 9))
theorem fT_copyFrom_70_17_s {g : s_G} {z : s_G} (hB : fT_copyFrom_70_17 g = some z) : s_Ev 0 s_m62 [.ref 70, .ref 17] (s_hg g) (none) (s_hg z) := by
  unfold fT_copyFrom_70_17 at hB
  refine s_Ev.fin ((?_ : ∀ (v : Option Value) (h' : s_H), (fun (z : s_G) (v : Option Value) (h' : s_H) => v = none ∧ h' = s_hg z) z v h' → s_Fin 0 s_m62 (0, s_ent [.ref 70, .ref 17] (s_m62).2.2.1, [], s_hg g) v h') _ _ ⟨rfl, rfl⟩)
  intro v h' hr
  refine (show s_Fin 0 s_m62 (0, [some (.ref 70), some (.ref 17)], [], s_hg g) v h' from ?_)
  refine s_Fin.sg 52 (y := (99, [some (.ref 70), some (.ref 17)], [], s_hg (s_si (s_si (s_si (s_si (s_si (s_ci (s_ci (s_ci (s_ci g 18 71 0 0 70) 19 72 0 0 7) 20 73 0 0 4) 21 74 0 0 7) 70 5 (g.1 17 5)) 70 6 (g.1 17 6)) 70 7 (g.1 17 7)) 70 8 (g.1 17 8)) 70 9 (g.1 17 9)))) rfl ?_
  have hB := Option.some.inj hB
  subst hB
  obtain ⟨rfl, rfl⟩ := hr
  exact s_Fin.rt rfl rfl
-- CampAshes$State.copyFrom
noncomputable def fT_copyFrom_75_17 (g : s_G) : Option (s_G) :=
  some (s_si (s_si (s_si (s_si (s_si (s_ci (s_ci (s_ci (s_ci g 18 76 0 0 70) 19 77 0 0 7) 20 78 0 0 4) 21 79 0 0 7) 75 5 (g.1 17 5)) 75 6 (g.1 17 6)) 75 7 (g.1 17 7)) 75 8 (g.1 17 8)) 75 9 (g.1 17 9))
theorem fT_copyFrom_75_17_s {g : s_G} {z : s_G} (hB : fT_copyFrom_75_17 g = some z) : s_Ev 0 s_m62 [.ref 75, .ref 17] (s_hg g) (none) (s_hg z) := by
  unfold fT_copyFrom_75_17 at hB
  refine s_Ev.fin ((?_ : ∀ (v : Option Value) (h' : s_H), (fun (z : s_G) (v : Option Value) (h' : s_H) => v = none ∧ h' = s_hg z) z v h' → s_Fin 0 s_m62 (0, s_ent [.ref 75, .ref 17] (s_m62).2.2.1, [], s_hg g) v h') _ _ ⟨rfl, rfl⟩)
  intro v h' hr
  refine (show s_Fin 0 s_m62 (0, [some (.ref 75), some (.ref 17)], [], s_hg g) v h' from ?_)
  refine s_Fin.sg 52 (y := (99, [some (.ref 75), some (.ref 17)], [], s_hg (s_si (s_si (s_si (s_si (s_si (s_ci (s_ci (s_ci (s_ci g 18 76 0 0 70) 19 77 0 0 7) 20 78 0 0 4) 21 79 0 0 7) 75 5 (g.1 17 5)) 75 6 (g.1 17 6)) 75 7 (g.1 17 7)) 75 8 (g.1 17 8)) 75 9 (g.1 17 9)))) rfl ?_
  have hB := Option.some.inj hB
  subst hB
  obtain ⟨rfl, rfl⟩ := hr
  exact s_Fin.rt rfl rfl
-- CampAshes$State.copyFrom
noncomputable def fT_copyFrom_80_17 (g : s_G) : Option (s_G) :=
  some (s_si (s_si (s_si (s_si (s_si (s_ci (s_ci (s_ci (s_ci g 18 81 0 0 70) 19 82 0 0 7) 20 83 0 0 4) 21 84 0 0 7) 80 5 (g.1 17 5)) 80 6 (g.1 17 6)) 80 7 (g.1 17 7)) 80 8 (g.1 17 8)) 80 9 (g.1 17 9))
theorem fT_copyFrom_80_17_s {g : s_G} {z : s_G} (hB : fT_copyFrom_80_17 g = some z) : s_Ev 0 s_m62 [.ref 80, .ref 17] (s_hg g) (none) (s_hg z) := by
  unfold fT_copyFrom_80_17 at hB
  refine s_Ev.fin ((?_ : ∀ (v : Option Value) (h' : s_H), (fun (z : s_G) (v : Option Value) (h' : s_H) => v = none ∧ h' = s_hg z) z v h' → s_Fin 0 s_m62 (0, s_ent [.ref 80, .ref 17] (s_m62).2.2.1, [], s_hg g) v h') _ _ ⟨rfl, rfl⟩)
  intro v h' hr
  refine (show s_Fin 0 s_m62 (0, [some (.ref 80), some (.ref 17)], [], s_hg g) v h' from ?_)
  refine s_Fin.sg 52 (y := (99, [some (.ref 80), some (.ref 17)], [], s_hg (s_si (s_si (s_si (s_si (s_si (s_ci (s_ci (s_ci (s_ci g 18 81 0 0 70) 19 82 0 0 7) 20 83 0 0 4) 21 84 0 0 7) 80 5 (g.1 17 5)) 80 6 (g.1 17 6)) 80 7 (g.1 17 7)) 80 8 (g.1 17 8)) 80 9 (g.1 17 9)))) rfl ?_
  have hB := Option.some.inj hB
  subst hB
  obtain ⟨rfl, rfl⟩ := hr
  exact s_Fin.rt rfl rfl
-- CampAshes$History.keep
noncomputable def fH_keep_43_17 (g : s_G) : Option (s_G) :=
  if (g.1 43 2) = 0 then (s_b1 (fT_copyFrom_45_17 g) fun g1 => some (s_si (s_si g1 43 2 (((g1.1 43 2) + (1 : Int32)) - ((g1.1 43 2) + (1 : Int32)) / (8 : Int32) * (8 : Int32))) 43 1 (if (8 : Int32) < ((g1.1 43 1) + (1 : Int32)) then (8 : Int32) else ((g1.1 43 1) + (1 : Int32)))))
  else if (g.1 43 2) = 1 then (s_b1 (fT_copyFrom_50_17 g) fun g2 => some (s_si (s_si g2 43 2 (((g2.1 43 2) + (1 : Int32)) - ((g2.1 43 2) + (1 : Int32)) / (8 : Int32) * (8 : Int32))) 43 1 (if (8 : Int32) < ((g2.1 43 1) + (1 : Int32)) then (8 : Int32) else ((g2.1 43 1) + (1 : Int32)))))
  else if (g.1 43 2) = 2 then (s_b1 (fT_copyFrom_55_17 g) fun g3 => some (s_si (s_si g3 43 2 (((g3.1 43 2) + (1 : Int32)) - ((g3.1 43 2) + (1 : Int32)) / (8 : Int32) * (8 : Int32))) 43 1 (if (8 : Int32) < ((g3.1 43 1) + (1 : Int32)) then (8 : Int32) else ((g3.1 43 1) + (1 : Int32)))))
  else if (g.1 43 2) = 3 then (s_b1 (fT_copyFrom_60_17 g) fun g4 => some (s_si (s_si g4 43 2 (((g4.1 43 2) + (1 : Int32)) - ((g4.1 43 2) + (1 : Int32)) / (8 : Int32) * (8 : Int32))) 43 1 (if (8 : Int32) < ((g4.1 43 1) + (1 : Int32)) then (8 : Int32) else ((g4.1 43 1) + (1 : Int32)))))
  else if (g.1 43 2) = 4 then (s_b1 (fT_copyFrom_65_17 g) fun g5 => some (s_si (s_si g5 43 2 (((g5.1 43 2) + (1 : Int32)) - ((g5.1 43 2) + (1 : Int32)) / (8 : Int32) * (8 : Int32))) 43 1 (if (8 : Int32) < ((g5.1 43 1) + (1 : Int32)) then (8 : Int32) else ((g5.1 43 1) + (1 : Int32)))))
  else if (g.1 43 2) = 5 then (s_b1 (fT_copyFrom_70_17 g) fun g6 => some (s_si (s_si g6 43 2 (((g6.1 43 2) + (1 : Int32)) - ((g6.1 43 2) + (1 : Int32)) / (8 : Int32) * (8 : Int32))) 43 1 (if (8 : Int32) < ((g6.1 43 1) + (1 : Int32)) then (8 : Int32) else ((g6.1 43 1) + (1 : Int32)))))
  else if (g.1 43 2) = 6 then (s_b1 (fT_copyFrom_75_17 g) fun g7 => some (s_si (s_si g7 43 2 (((g7.1 43 2) + (1 : Int32)) - ((g7.1 43 2) + (1 : Int32)) / (8 : Int32) * (8 : Int32))) 43 1 (if (8 : Int32) < ((g7.1 43 1) + (1 : Int32)) then (8 : Int32) else ((g7.1 43 1) + (1 : Int32)))))
  else if (g.1 43 2) = 7 then (s_b1 (fT_copyFrom_80_17 g) fun g8 => some (s_si (s_si g8 43 2 (((g8.1 43 2) + (1 : Int32)) - ((g8.1 43 2) + (1 : Int32)) / (8 : Int32) * (8 : Int32))) 43 1 (if (8 : Int32) < ((g8.1 43 1) + (1 : Int32)) then (8 : Int32) else ((g8.1 43 1) + (1 : Int32)))))
  else none
theorem fH_keep_43_17_s {g : s_G} {z : s_G} (hB : fH_keep_43_17 g = some z) : s_Ev 1 s_m69 [.ref 43, .ref 17] (s_hg g) (none) (s_hg z) := by
  unfold fH_keep_43_17 at hB
  refine s_Ev.fin ((?_ : ∀ (v : Option Value) (h' : s_H), (fun (z : s_G) (v : Option Value) (h' : s_H) => v = none ∧ h' = s_hg z) z v h' → s_Fin 1 s_m69 (0, s_ent [.ref 43, .ref 17] (s_m69).2.2.1, [], s_hg g) v h') _ _ ⟨rfl, rfl⟩)
  intro v h' hr
  refine (show s_Fin 1 s_m69 (0, [some (.ref 43), some (.ref 17)], [], s_hg g) v h' from ?_)
  refine s_Fin.sg 4 (y := (8, [some (.ref 43), some (.ref 17)], [.int (g.1 43 2), .ref 44], s_hg g)) rfl ?_
  by_cases hc : (g.1 43 2) = 0
  · rw [if_pos hc] at hB
    refine s_Fin.nx (pc1 := 9) (L1 := [some (.ref 43), some (.ref 17)]) (st1 := [.ref 45]) (h1 := s_hg g) (by rw [hc]; exact rfl) rfl ?_
    refine s_Fin.sg 1 (y := (10, [some (.ref 43), some (.ref 17)], [.ref 17, .ref 45], s_hg g)) rfl ?_
    obtain ⟨g1, hp, hB⟩ := s_bd hB
    refine s_Fin.cl (d := 0) (q1 := s_m62) (md := 62) (vs := [.ref 45, .ref 17]) (rest := []) (h1 := s_hg g1) (u := none) (s_Ev.up (by omega) (fT_copyFrom_45_17_s hp)) rfl rfl rfl rfl ?_
    refine s_Fin.sg 16 (y := (41, [some (.ref 43), some (.ref 17)], [], s_hg (s_si (s_si g1 43 2 (((g1.1 43 2) + (1 : Int32)) - ((g1.1 43 2) + (1 : Int32)) / (8 : Int32) * (8 : Int32))) 43 1 (if (8 : Int32) < ((g1.1 43 1) + (1 : Int32)) then (8 : Int32) else ((g1.1 43 1) + (1 : Int32)))))) rfl ?_
    have hB := Option.some.inj hB
    subst hB
    obtain ⟨rfl, rfl⟩ := hr
    exact s_Fin.rt rfl rfl
  rw [if_neg hc] at hB
  by_cases hc : (g.1 43 2) = 1
  · rw [if_pos hc] at hB
    refine s_Fin.nx (pc1 := 9) (L1 := [some (.ref 43), some (.ref 17)]) (st1 := [.ref 50]) (h1 := s_hg g) (by rw [hc]; exact rfl) rfl ?_
    refine s_Fin.sg 1 (y := (10, [some (.ref 43), some (.ref 17)], [.ref 17, .ref 50], s_hg g)) rfl ?_
    obtain ⟨g2, hp, hB⟩ := s_bd hB
    refine s_Fin.cl (d := 0) (q1 := s_m62) (md := 62) (vs := [.ref 50, .ref 17]) (rest := []) (h1 := s_hg g2) (u := none) (s_Ev.up (by omega) (fT_copyFrom_50_17_s hp)) rfl rfl rfl rfl ?_
    refine s_Fin.sg 16 (y := (41, [some (.ref 43), some (.ref 17)], [], s_hg (s_si (s_si g2 43 2 (((g2.1 43 2) + (1 : Int32)) - ((g2.1 43 2) + (1 : Int32)) / (8 : Int32) * (8 : Int32))) 43 1 (if (8 : Int32) < ((g2.1 43 1) + (1 : Int32)) then (8 : Int32) else ((g2.1 43 1) + (1 : Int32)))))) rfl ?_
    have hB := Option.some.inj hB
    subst hB
    obtain ⟨rfl, rfl⟩ := hr
    exact s_Fin.rt rfl rfl
  rw [if_neg hc] at hB
  by_cases hc : (g.1 43 2) = 2
  · rw [if_pos hc] at hB
    refine s_Fin.nx (pc1 := 9) (L1 := [some (.ref 43), some (.ref 17)]) (st1 := [.ref 55]) (h1 := s_hg g) (by rw [hc]; exact rfl) rfl ?_
    refine s_Fin.sg 1 (y := (10, [some (.ref 43), some (.ref 17)], [.ref 17, .ref 55], s_hg g)) rfl ?_
    obtain ⟨g3, hp, hB⟩ := s_bd hB
    refine s_Fin.cl (d := 0) (q1 := s_m62) (md := 62) (vs := [.ref 55, .ref 17]) (rest := []) (h1 := s_hg g3) (u := none) (s_Ev.up (by omega) (fT_copyFrom_55_17_s hp)) rfl rfl rfl rfl ?_
    refine s_Fin.sg 16 (y := (41, [some (.ref 43), some (.ref 17)], [], s_hg (s_si (s_si g3 43 2 (((g3.1 43 2) + (1 : Int32)) - ((g3.1 43 2) + (1 : Int32)) / (8 : Int32) * (8 : Int32))) 43 1 (if (8 : Int32) < ((g3.1 43 1) + (1 : Int32)) then (8 : Int32) else ((g3.1 43 1) + (1 : Int32)))))) rfl ?_
    have hB := Option.some.inj hB
    subst hB
    obtain ⟨rfl, rfl⟩ := hr
    exact s_Fin.rt rfl rfl
  rw [if_neg hc] at hB
  by_cases hc : (g.1 43 2) = 3
  · rw [if_pos hc] at hB
    refine s_Fin.nx (pc1 := 9) (L1 := [some (.ref 43), some (.ref 17)]) (st1 := [.ref 60]) (h1 := s_hg g) (by rw [hc]; exact rfl) rfl ?_
    refine s_Fin.sg 1 (y := (10, [some (.ref 43), some (.ref 17)], [.ref 17, .ref 60], s_hg g)) rfl ?_
    obtain ⟨g4, hp, hB⟩ := s_bd hB
    refine s_Fin.cl (d := 0) (q1 := s_m62) (md := 62) (vs := [.ref 60, .ref 17]) (rest := []) (h1 := s_hg g4) (u := none) (s_Ev.up (by omega) (fT_copyFrom_60_17_s hp)) rfl rfl rfl rfl ?_
    refine s_Fin.sg 16 (y := (41, [some (.ref 43), some (.ref 17)], [], s_hg (s_si (s_si g4 43 2 (((g4.1 43 2) + (1 : Int32)) - ((g4.1 43 2) + (1 : Int32)) / (8 : Int32) * (8 : Int32))) 43 1 (if (8 : Int32) < ((g4.1 43 1) + (1 : Int32)) then (8 : Int32) else ((g4.1 43 1) + (1 : Int32)))))) rfl ?_
    have hB := Option.some.inj hB
    subst hB
    obtain ⟨rfl, rfl⟩ := hr
    exact s_Fin.rt rfl rfl
  rw [if_neg hc] at hB
  by_cases hc : (g.1 43 2) = 4
  · rw [if_pos hc] at hB
    refine s_Fin.nx (pc1 := 9) (L1 := [some (.ref 43), some (.ref 17)]) (st1 := [.ref 65]) (h1 := s_hg g) (by rw [hc]; exact rfl) rfl ?_
    refine s_Fin.sg 1 (y := (10, [some (.ref 43), some (.ref 17)], [.ref 17, .ref 65], s_hg g)) rfl ?_
    obtain ⟨g5, hp, hB⟩ := s_bd hB
    refine s_Fin.cl (d := 0) (q1 := s_m62) (md := 62) (vs := [.ref 65, .ref 17]) (rest := []) (h1 := s_hg g5) (u := none) (s_Ev.up (by omega) (fT_copyFrom_65_17_s hp)) rfl rfl rfl rfl ?_
    refine s_Fin.sg 16 (y := (41, [some (.ref 43), some (.ref 17)], [], s_hg (s_si (s_si g5 43 2 (((g5.1 43 2) + (1 : Int32)) - ((g5.1 43 2) + (1 : Int32)) / (8 : Int32) * (8 : Int32))) 43 1 (if (8 : Int32) < ((g5.1 43 1) + (1 : Int32)) then (8 : Int32) else ((g5.1 43 1) + (1 : Int32)))))) rfl ?_
    have hB := Option.some.inj hB
    subst hB
    obtain ⟨rfl, rfl⟩ := hr
    exact s_Fin.rt rfl rfl
  rw [if_neg hc] at hB
  by_cases hc : (g.1 43 2) = 5
  · rw [if_pos hc] at hB
    refine s_Fin.nx (pc1 := 9) (L1 := [some (.ref 43), some (.ref 17)]) (st1 := [.ref 70]) (h1 := s_hg g) (by rw [hc]; exact rfl) rfl ?_
    refine s_Fin.sg 1 (y := (10, [some (.ref 43), some (.ref 17)], [.ref 17, .ref 70], s_hg g)) rfl ?_
    obtain ⟨g6, hp, hB⟩ := s_bd hB
    refine s_Fin.cl (d := 0) (q1 := s_m62) (md := 62) (vs := [.ref 70, .ref 17]) (rest := []) (h1 := s_hg g6) (u := none) (s_Ev.up (by omega) (fT_copyFrom_70_17_s hp)) rfl rfl rfl rfl ?_
    refine s_Fin.sg 16 (y := (41, [some (.ref 43), some (.ref 17)], [], s_hg (s_si (s_si g6 43 2 (((g6.1 43 2) + (1 : Int32)) - ((g6.1 43 2) + (1 : Int32)) / (8 : Int32) * (8 : Int32))) 43 1 (if (8 : Int32) < ((g6.1 43 1) + (1 : Int32)) then (8 : Int32) else ((g6.1 43 1) + (1 : Int32)))))) rfl ?_
    have hB := Option.some.inj hB
    subst hB
    obtain ⟨rfl, rfl⟩ := hr
    exact s_Fin.rt rfl rfl
  rw [if_neg hc] at hB
  by_cases hc : (g.1 43 2) = 6
  · rw [if_pos hc] at hB
    refine s_Fin.nx (pc1 := 9) (L1 := [some (.ref 43), some (.ref 17)]) (st1 := [.ref 75]) (h1 := s_hg g) (by rw [hc]; exact rfl) rfl ?_
    refine s_Fin.sg 1 (y := (10, [some (.ref 43), some (.ref 17)], [.ref 17, .ref 75], s_hg g)) rfl ?_
    obtain ⟨g7, hp, hB⟩ := s_bd hB
    refine s_Fin.cl (d := 0) (q1 := s_m62) (md := 62) (vs := [.ref 75, .ref 17]) (rest := []) (h1 := s_hg g7) (u := none) (s_Ev.up (by omega) (fT_copyFrom_75_17_s hp)) rfl rfl rfl rfl ?_
    refine s_Fin.sg 16 (y := (41, [some (.ref 43), some (.ref 17)], [], s_hg (s_si (s_si g7 43 2 (((g7.1 43 2) + (1 : Int32)) - ((g7.1 43 2) + (1 : Int32)) / (8 : Int32) * (8 : Int32))) 43 1 (if (8 : Int32) < ((g7.1 43 1) + (1 : Int32)) then (8 : Int32) else ((g7.1 43 1) + (1 : Int32)))))) rfl ?_
    have hB := Option.some.inj hB
    subst hB
    obtain ⟨rfl, rfl⟩ := hr
    exact s_Fin.rt rfl rfl
  rw [if_neg hc] at hB
  by_cases hc : (g.1 43 2) = 7
  · rw [if_pos hc] at hB
    refine s_Fin.nx (pc1 := 9) (L1 := [some (.ref 43), some (.ref 17)]) (st1 := [.ref 80]) (h1 := s_hg g) (by rw [hc]; exact rfl) rfl ?_
    refine s_Fin.sg 1 (y := (10, [some (.ref 43), some (.ref 17)], [.ref 17, .ref 80], s_hg g)) rfl ?_
    obtain ⟨g8, hp, hB⟩ := s_bd hB
    refine s_Fin.cl (d := 0) (q1 := s_m62) (md := 62) (vs := [.ref 80, .ref 17]) (rest := []) (h1 := s_hg g8) (u := none) (s_Ev.up (by omega) (fT_copyFrom_80_17_s hp)) rfl rfl rfl rfl ?_
    refine s_Fin.sg 16 (y := (41, [some (.ref 43), some (.ref 17)], [], s_hg (s_si (s_si g8 43 2 (((g8.1 43 2) + (1 : Int32)) - ((g8.1 43 2) + (1 : Int32)) / (8 : Int32) * (8 : Int32))) 43 1 (if (8 : Int32) < ((g8.1 43 1) + (1 : Int32)) then (8 : Int32) else ((g8.1 43 1) + (1 : Int32)))))) rfl ?_
    have hB := Option.some.inj hB
    subst hB
    obtain ⟨rfl, rfl⟩ := hr
    exact s_Fin.rt rfl rfl
  rw [if_neg hc] at hB
  cases hB
-- CampAshes$State.copyFrom
noncomputable def fT_copyFrom_17_22 (g : s_G) : Option (s_G) :=
  some (s_si (s_si (s_si (s_si (s_si (s_ci (s_ci (s_ci (s_ci g 23 18 0 0 70) 24 19 0 0 7) 25 20 0 0 4) 26 21 0 0 7) 17 5 (g.1 22 5)) 17 6 (g.1 22 6)) 17 7 (g.1 22 7)) 17 8 (g.1 22 8)) 17 9 (g.1 22 9))
theorem fT_copyFrom_17_22_s {g : s_G} {z : s_G} (hB : fT_copyFrom_17_22 g = some z) : s_Ev 0 s_m62 [.ref 17, .ref 22] (s_hg g) (none) (s_hg z) := by
  unfold fT_copyFrom_17_22 at hB
  refine s_Ev.fin ((?_ : ∀ (v : Option Value) (h' : s_H), (fun (z : s_G) (v : Option Value) (h' : s_H) => v = none ∧ h' = s_hg z) z v h' → s_Fin 0 s_m62 (0, s_ent [.ref 17, .ref 22] (s_m62).2.2.1, [], s_hg g) v h') _ _ ⟨rfl, rfl⟩)
  intro v h' hr
  refine (show s_Fin 0 s_m62 (0, [some (.ref 17), some (.ref 22)], [], s_hg g) v h' from ?_)
  refine s_Fin.sg 52 (y := (99, [some (.ref 17), some (.ref 22)], [], s_hg (s_si (s_si (s_si (s_si (s_si (s_ci (s_ci (s_ci (s_ci g 23 18 0 0 70) 24 19 0 0 7) 25 20 0 0 4) 26 21 0 0 7) 17 5 (g.1 22 5)) 17 6 (g.1 22 6)) 17 7 (g.1 22 7)) 17 8 (g.1 22 8)) 17 9 (g.1 22 9)))) rfl ?_
  have hB := Option.some.inj hB
  subst hB
  obtain ⟨rfl, rfl⟩ := hr
  exact s_Fin.rt rfl rfl
-- CampAshes.keepTrial
noncomputable def fC_keepTrial_0 (g : s_G) : Option (s_G) :=
  s_b1 (fH_keep_43_17 g) fun g1 => s_b1 (fT_copyFrom_17_22 g1) fun g2 => some g2
theorem fC_keepTrial_0_s {g : s_G} {z : s_G} (hB : fC_keepTrial_0 g = some z) : s_Ev 2 s_m68 [.ref 0] (s_hg g) (none) (s_hg z) := by
  unfold fC_keepTrial_0 at hB
  refine s_Ev.fin ((?_ : ∀ (v : Option Value) (h' : s_H), (fun (z : s_G) (v : Option Value) (h' : s_H) => v = none ∧ h' = s_hg z) z v h' → s_Fin 2 s_m68 (0, s_ent [.ref 0] (s_m68).2.2.1, [], s_hg g) v h') _ _ ⟨rfl, rfl⟩)
  intro v h' hr
  refine (show s_Fin 2 s_m68 (0, [some (.ref 0)], [], s_hg g) v h' from ?_)
  refine s_Fin.sg 4 (y := (8, [some (.ref 0)], [.ref 17, .ref 43], s_hg g)) rfl ?_
  obtain ⟨g1, hp, hB⟩ := s_bd hB
  refine s_Fin.cl (d := 1) (q1 := s_m69) (md := 69) (vs := [.ref 43, .ref 17]) (rest := []) (h1 := s_hg g1) (u := none) (s_Ev.up (by omega) (fH_keep_43_17_s hp)) rfl rfl rfl rfl ?_
  refine s_Fin.sg 4 (y := (19, [some (.ref 0)], [.ref 22, .ref 17], s_hg g1)) rfl ?_
  obtain ⟨g2, hp, hB⟩ := s_bd hB
  refine s_Fin.cl (d := 1) (q1 := s_m62) (md := 62) (vs := [.ref 17, .ref 22]) (rest := []) (h1 := s_hg g2) (u := none) (s_Ev.up (by omega) (fT_copyFrom_17_22_s hp)) rfl rfl rfl rfl ?_
  have hB := Option.some.inj hB
  subst hB
  obtain ⟨rfl, rfl⟩ := hr
  exact s_Fin.rt rfl rfl
-- CampAshes.keepIfDone
noncomputable def fC_keepIfDone_0 (x1 : Int32) (g : s_G) : Option (Int32 × s_G) :=
  if x1 = 0 then (s_b1 (fC_keepTrial_0 g) fun g1 => some (x1, g1))
  else some (x1, g)
theorem fC_keepIfDone_0_s {x1 : Int32} {g : s_G} {z : Int32 × s_G} (hB : fC_keepIfDone_0 x1 g = some z) : s_Ev 3 s_m67 [.ref 0, .int x1] (s_hg g) (some (.int z.1)) (s_hg z.2) := by
  unfold fC_keepIfDone_0 at hB
  refine s_Ev.fin ((?_ : ∀ (v : Option Value) (h' : s_H), (fun (z : Int32 × s_G) (v : Option Value) (h' : s_H) => v = some (.int z.1) ∧ h' = s_hg z.2) z v h' → s_Fin 3 s_m67 (0, s_ent [.ref 0, .int x1] (s_m67).2.2.1, [], s_hg g) v h') _ _ ⟨rfl, rfl⟩)
  intro v h' hr
  refine (show s_Fin 3 s_m67 (0, [some (.ref 0), some (.int x1)], [], s_hg g) v h' from ?_)
  refine s_Fin.sg 1 (y := (1, [some (.ref 0), some (.int x1)], [.int x1], s_hg g)) rfl ?_
  by_cases hc : x1 = 0
  · rw [if_pos hc] at hB
    refine s_Fin.bf (c := ¬ x1 = 0) (tg := 8) (p2 := 1) (L1 := [some (.ref 0), some (.int x1)]) (st1 := []) (fun h => h hc) rfl ?_
    refine s_Fin.sg 1 (y := (5, [some (.ref 0), some (.int x1)], [.ref 0], s_hg g)) rfl ?_
    obtain ⟨g1, hp, hB⟩ := s_bd hB
    refine s_Fin.cl (d := 2) (q1 := s_m68) (md := 68) (vs := [.ref 0]) (rest := []) (h1 := s_hg g1) (u := none) (s_Ev.up (by omega) (fC_keepTrial_0_s hp)) rfl rfl rfl rfl ?_
    refine s_Fin.sg 1 (y := (9, [some (.ref 0), some (.int x1)], [.int x1], s_hg g1)) rfl ?_
    have hB := Option.some.inj hB
    subst hB
    obtain ⟨rfl, rfl⟩ := hr
    exact s_Fin.rt rfl rfl
  · rw [if_neg hc] at hB
    refine s_Fin.bt (c := ¬ x1 = 0) (tg := 8) (p2 := 1) (L1 := [some (.ref 0), some (.int x1)]) (st1 := []) hc rfl ?_
    refine s_Fin.sg 1 (y := (9, [some (.ref 0), some (.int x1)], [.int x1], s_hg g)) rfl ?_
    have hB := Option.some.inj hB
    subst hB
    obtain ⟨rfl, rfl⟩ := hr
    exact s_Fin.rt rfl rfl
-- CampAshes.tell
noncomputable def fC_tell_0 (x1 : Int32) (x2 : Int32) (g : s_G) : Option (Int32 × s_G) :=
  s_b1 (fP_hasBoy_3 x1 g) fun v1 => if v1 = 0 then (some ((-1 : Int32), g))
  else s_b1 (fP_hasEvent_3 x2 g) fun v2 => if v2 = 0 then (some ((-1 : Int32), g))
  else s_b1 (fT_copyFrom_22_17 g) fun g3 => s_b2 (fT_tellEvent_22 x1 x2 g3) fun v5 g4 => s_b2 (fC_keepIfDone_0 v5 g4) fun v7 g6 => some (v7, g6)
theorem fC_tell_0_s {x1 : Int32} {x2 : Int32} {g : s_G} {z : Int32 × s_G} (hB : fC_tell_0 x1 x2 g = some z) : s_Ev 4 s_m61 [.ref 0, .int x1, .int x2] (s_hg g) (some (.int z.1)) (s_hg z.2) := by
  unfold fC_tell_0 at hB
  refine s_Ev.fin ((?_ : ∀ (v : Option Value) (h' : s_H), (fun (z : Int32 × s_G) (v : Option Value) (h' : s_H) => v = some (.int z.1) ∧ h' = s_hg z.2) z v h' → s_Fin 4 s_m61 (0, s_ent [.ref 0, .int x1, .int x2] (s_m61).2.2.1, [], s_hg g) v h') _ _ ⟨rfl, rfl⟩)
  intro v h' hr
  refine (show s_Fin 4 s_m61 (0, [some (.ref 0), some (.int x1), some (.int x2)], [], s_hg g) v h' from ?_)
  refine s_Fin.sg 3 (y := (5, [some (.ref 0), some (.int x1), some (.int x2)], [.int x1, .ref 3], s_hg g)) rfl ?_
  obtain ⟨v1, hp, hB⟩ := s_bd hB
  refine s_Fin.cl (d := 3) (q1 := s_m49) (md := 49) (vs := [.ref 3, .int x1]) (rest := []) (h1 := s_hg g) (u := some (.int v1)) (s_Ev.up (by omega) (fP_hasBoy_3_s hp)) rfl rfl rfl rfl ?_
  by_cases hc : v1 = 0
  · rw [if_pos hc] at hB
    refine s_Fin.bt (c := v1 = 0) (tg := 22) (p2 := 8) (L1 := [some (.ref 0), some (.int x1), some (.int x2)]) (st1 := []) hc rfl ?_
    refine s_Fin.sg 1 (y := (23, [some (.ref 0), some (.int x1), some (.int x2)], [.int (-1 : Int32)], s_hg g)) rfl ?_
    have hB := Option.some.inj hB
    subst hB
    obtain ⟨rfl, rfl⟩ := hr
    exact s_Fin.rt rfl rfl
  · rw [if_neg hc] at hB
    refine s_Fin.bf (c := v1 = 0) (tg := 22) (p2 := 8) (L1 := [some (.ref 0), some (.int x1), some (.int x2)]) (st1 := []) hc rfl ?_
    refine s_Fin.sg 3 (y := (16, [some (.ref 0), some (.int x1), some (.int x2)], [.int x2, .ref 3], s_hg g)) rfl ?_
    obtain ⟨v2, hp, hB⟩ := s_bd hB
    refine s_Fin.cl (d := 3) (q1 := s_m48) (md := 48) (vs := [.ref 3, .int x2]) (rest := []) (h1 := s_hg g) (u := some (.int v2)) (s_Ev.up (by omega) (fP_hasEvent_3_s hp)) rfl rfl rfl rfl ?_
    by_cases hc : v2 = 0
    · rw [if_pos hc] at hB
      refine s_Fin.bf (c := ¬ v2 = 0) (tg := 24) (p2 := 19) (L1 := [some (.ref 0), some (.int x1), some (.int x2)]) (st1 := []) (fun h => h hc) rfl ?_
      refine s_Fin.sg 1 (y := (23, [some (.ref 0), some (.int x1), some (.int x2)], [.int (-1 : Int32)], s_hg g)) rfl ?_
      have hB := Option.some.inj hB
      subst hB
      obtain ⟨rfl, rfl⟩ := hr
      exact s_Fin.rt rfl rfl
    · rw [if_neg hc] at hB
      refine s_Fin.bt (c := ¬ v2 = 0) (tg := 24) (p2 := 19) (L1 := [some (.ref 0), some (.int x1), some (.int x2)]) (st1 := []) hc rfl ?_
      refine s_Fin.sg 4 (y := (32, [some (.ref 0), some (.int x1), some (.int x2)], [.ref 17, .ref 22], s_hg g)) rfl ?_
      obtain ⟨g3, hp, hB⟩ := s_bd hB
      refine s_Fin.cl (d := 3) (q1 := s_m62) (md := 62) (vs := [.ref 22, .ref 17]) (rest := []) (h1 := s_hg g3) (u := none) (s_Ev.up (by omega) (fT_copyFrom_22_17_s hp)) rfl rfl rfl rfl ?_
      refine s_Fin.sg 5 (y := (42, [some (.ref 0), some (.int x1), some (.int x2)], [.int x2, .int x1, .ref 22, .ref 0], s_hg g3)) rfl ?_
      obtain ⟨v5, g4, hp, hB⟩ := s_bd2 hB
      refine s_Fin.cl (d := 3) (q1 := s_m63) (md := 63) (vs := [.ref 22, .int x1, .int x2]) (rest := [.ref 0]) (h1 := s_hg g4) (u := some (.int v5)) (s_Ev.up (by omega) (fT_tellEvent_22_s hp)) rfl rfl rfl rfl ?_
      obtain ⟨v7, g6, hp, hB⟩ := s_bd2 hB
      refine s_Fin.cl (d := 3) (q1 := s_m67) (md := 67) (vs := [.ref 0, .int v5]) (rest := []) (h1 := s_hg g6) (u := some (.int v7)) (s_Ev.up (by omega) (fC_keepIfDone_0_s hp)) rfl rfl rfl rfl ?_
      have hB := Option.some.inj hB
      subst hB
      obtain ⟨rfl, rfl⟩ := hr
      exact s_Fin.rt rfl rfl
-- CampAshesModel.lie
noncomputable def fM_lie_130 (x1 : Int32) (x2 : Int32) (g : s_G) : Option (Int32 × s_G) :=
  s_b1 (fM_isBoy_130 x1 (s_si g 130 0 (0 : Int32))) fun v1 => if v1 = 0 then (s_b2 (fM_act_130 (1 : Int32) x1 x2 (0 : Int32) (0 : Int32) (0 : Int32) (s_si g 130 0 (0 : Int32))) fun v3 g2 => some (v3, g2))
  else s_b1 (fM_isEvent_130 x2 (s_si g 130 0 (0 : Int32))) fun v4 => if v4 = 0 then (s_b2 (fM_act_130 (1 : Int32) x1 x2 (0 : Int32) (0 : Int32) (0 : Int32) (s_si g 130 0 (0 : Int32))) fun v6 g5 => some (v6, g5))
  else s_b2 (fM_act_130 (1 : Int32) x1 x2 (0 : Int32) (0 : Int32) (1 : Int32) (s_si g 130 0 (0 : Int32))) fun v8 g7 => some (v8, g7)
theorem fM_lie_130_s {x1 : Int32} {x2 : Int32} {g : s_G} {z : Int32 × s_G} (hB : fM_lie_130 x1 x2 g = some z) : s_Ev 5 s_m219 [.ref 130, .int x1, .int x2] (s_hg g) (some (.int z.1)) (s_hg z.2) := by
  unfold fM_lie_130 at hB
  refine s_Ev.fin ((?_ : ∀ (v : Option Value) (h' : s_H), (fun (z : Int32 × s_G) (v : Option Value) (h' : s_H) => v = some (.int z.1) ∧ h' = s_hg z.2) z v h' → s_Fin 5 s_m219 (0, s_ent [.ref 130, .int x1, .int x2] (s_m219).2.2.1, [], s_hg g) v h') _ _ ⟨rfl, rfl⟩)
  intro v h' hr
  refine (show s_Fin 5 s_m219 (0, [some (.ref 130), some (.int x1), some (.int x2)], [], s_hg g) v h' from ?_)
  refine s_Fin.sg 11 (y := (13, [some (.ref 130), some (.int x1), some (.int x2)], [.int x1, .ref 130, .int (0 : Int32), .int (0 : Int32), .int x2, .int x1, .int (1 : Int32), .ref 130], s_hg (s_si g 130 0 (0 : Int32)))) rfl ?_
  obtain ⟨v1, hp, hB⟩ := s_bd hB
  refine s_Fin.cl (d := 4) (q1 := s_m192) (md := 192) (vs := [.ref 130, .int x1]) (rest := [.int (0 : Int32), .int (0 : Int32), .int x2, .int x1, .int (1 : Int32), .ref 130]) (h1 := s_hg (s_si g 130 0 (0 : Int32))) (u := some (.int v1)) (s_Ev.up (by omega) (fM_isBoy_130_s hp)) rfl rfl rfl rfl ?_
  by_cases hc : v1 = 0
  · rw [if_pos hc] at hB
    refine s_Fin.bt (c := v1 = 0) (tg := 31) (p2 := 16) (L1 := [some (.ref 130), some (.int x1), some (.int x2)]) (st1 := [.int (0 : Int32), .int (0 : Int32), .int x2, .int x1, .int (1 : Int32), .ref 130]) hc rfl ?_
    refine s_Fin.sg 1 (y := (32, [some (.ref 130), some (.int x1), some (.int x2)], [.int (0 : Int32), .int (0 : Int32), .int (0 : Int32), .int x2, .int x1, .int (1 : Int32), .ref 130], s_hg (s_si g 130 0 (0 : Int32)))) rfl ?_
    obtain ⟨v3, g2, hp, hB⟩ := s_bd2 hB
    refine s_Fin.cl (d := 4) (q1 := s_m211) (md := 211) (vs := [.ref 130, .int (1 : Int32), .int x1, .int x2, .int (0 : Int32), .int (0 : Int32), .int (0 : Int32)]) (rest := []) (h1 := s_hg g2) (u := some (.int v3)) (s_Ev.up (by omega) (fM_act_130_s hp)) rfl rfl rfl rfl ?_
    have hB := Option.some.inj hB
    subst hB
    obtain ⟨rfl, rfl⟩ := hr
    exact s_Fin.rt rfl rfl
  · rw [if_neg hc] at hB
    refine s_Fin.bf (c := v1 = 0) (tg := 31) (p2 := 16) (L1 := [some (.ref 130), some (.int x1), some (.int x2)]) (st1 := [.int (0 : Int32), .int (0 : Int32), .int x2, .int x1, .int (1 : Int32), .ref 130]) hc rfl ?_
    refine s_Fin.sg 2 (y := (21, [some (.ref 130), some (.int x1), some (.int x2)], [.int x2, .ref 130, .int (0 : Int32), .int (0 : Int32), .int x2, .int x1, .int (1 : Int32), .ref 130], s_hg (s_si g 130 0 (0 : Int32)))) rfl ?_
    obtain ⟨v4, hp, hB⟩ := s_bd hB
    refine s_Fin.cl (d := 4) (q1 := s_m201) (md := 201) (vs := [.ref 130, .int x2]) (rest := [.int (0 : Int32), .int (0 : Int32), .int x2, .int x1, .int (1 : Int32), .ref 130]) (h1 := s_hg (s_si g 130 0 (0 : Int32))) (u := some (.int v4)) (s_Ev.up (by omega) (fM_isEvent_130_s hp)) rfl rfl rfl rfl ?_
    by_cases hc : v4 = 0
    · rw [if_pos hc] at hB
      refine s_Fin.bt (c := v4 = 0) (tg := 31) (p2 := 24) (L1 := [some (.ref 130), some (.int x1), some (.int x2)]) (st1 := [.int (0 : Int32), .int (0 : Int32), .int x2, .int x1, .int (1 : Int32), .ref 130]) hc rfl ?_
      refine s_Fin.sg 1 (y := (32, [some (.ref 130), some (.int x1), some (.int x2)], [.int (0 : Int32), .int (0 : Int32), .int (0 : Int32), .int x2, .int x1, .int (1 : Int32), .ref 130], s_hg (s_si g 130 0 (0 : Int32)))) rfl ?_
      obtain ⟨v6, g5, hp, hB⟩ := s_bd2 hB
      refine s_Fin.cl (d := 4) (q1 := s_m211) (md := 211) (vs := [.ref 130, .int (1 : Int32), .int x1, .int x2, .int (0 : Int32), .int (0 : Int32), .int (0 : Int32)]) (rest := []) (h1 := s_hg g5) (u := some (.int v6)) (s_Ev.up (by omega) (fM_act_130_s hp)) rfl rfl rfl rfl ?_
      have hB := Option.some.inj hB
      subst hB
      obtain ⟨rfl, rfl⟩ := hr
      exact s_Fin.rt rfl rfl
    · rw [if_neg hc] at hB
      refine s_Fin.bf (c := v4 = 0) (tg := 31) (p2 := 24) (L1 := [some (.ref 130), some (.int x1), some (.int x2)]) (st1 := [.int (0 : Int32), .int (0 : Int32), .int x2, .int x1, .int (1 : Int32), .ref 130]) hc rfl ?_
      refine s_Fin.sg 2 (y := (32, [some (.ref 130), some (.int x1), some (.int x2)], [.int (1 : Int32), .int (0 : Int32), .int (0 : Int32), .int x2, .int x1, .int (1 : Int32), .ref 130], s_hg (s_si g 130 0 (0 : Int32)))) rfl ?_
      obtain ⟨v8, g7, hp, hB⟩ := s_bd2 hB
      refine s_Fin.cl (d := 4) (q1 := s_m211) (md := 211) (vs := [.ref 130, .int (1 : Int32), .int x1, .int x2, .int (0 : Int32), .int (0 : Int32), .int (1 : Int32)]) (rest := []) (h1 := s_hg g7) (u := some (.int v8)) (s_Ev.up (by omega) (fM_act_130_s hp)) rfl rfl rfl rfl ?_
      have hB := Option.some.inj hB
      subst hB
      obtain ⟨rfl, rfl⟩ := hr
      exact s_Fin.rt rfl rfl
-- CampAshes$State.lieAbout
noncomputable def fT_lieAbout_22 (x1 : Int32) (x2 : Int32) (g : s_G) : Option (Int32 × s_G) :=
  s_b1 (fT_whyNotSpeak_22 x1 x2 g) fun v1 => if v1 = 0 then (s_b1 (fT_onBoy_22 x2 x1 g) fun v2 => s_b1 (fT_putOn_22 x2 x1 (if ((99 : Int32) - v2) < (2 : Int32) then ((99 : Int32) - v2) else (2 : Int32)) g) fun g3 => s_b1 (fT_hush_22 x1 (s_si g3 22 9 ((g3.1 22 9) + (1 : Int32)))) fun g4 => some (v1, g4))
  else some (v1, g)
theorem fT_lieAbout_22_s {x1 : Int32} {x2 : Int32} {g : s_G} {z : Int32 × s_G} (hB : fT_lieAbout_22 x1 x2 g = some z) : s_Ev 2 s_m71 [.ref 22, .int x1, .int x2] (s_hg g) (some (.int z.1)) (s_hg z.2) := by
  unfold fT_lieAbout_22 at hB
  refine s_Ev.fin ((?_ : ∀ (v : Option Value) (h' : s_H), (fun (z : Int32 × s_G) (v : Option Value) (h' : s_H) => v = some (.int z.1) ∧ h' = s_hg z.2) z v h' → s_Fin 2 s_m71 (0, s_ent [.ref 22, .int x1, .int x2] (s_m71).2.2.1, [], s_hg g) v h') _ _ ⟨rfl, rfl⟩)
  intro v h' hr
  refine (show s_Fin 2 s_m71 (0, [some (.ref 22), some (.int x1), some (.int x2), none], [], s_hg g) v h' from ?_)
  refine s_Fin.sg 3 (y := (3, [some (.ref 22), some (.int x1), some (.int x2), none], [.int x2, .int x1, .ref 22], s_hg g)) rfl ?_
  obtain ⟨v1, hp, hB⟩ := s_bd hB
  refine s_Fin.cl (d := 1) (q1 := s_m64) (md := 64) (vs := [.ref 22, .int x1, .int x2]) (rest := []) (h1 := s_hg g) (u := some (.int v1)) (s_Ev.up (by omega) (fT_whyNotSpeak_22_s hp)) rfl rfl rfl rfl ?_
  refine s_Fin.sg 2 (y := (8, [some (.ref 22), some (.int x1), some (.int x2), some (.int v1)], [.int v1], s_hg g)) rfl ?_
  by_cases hc : v1 = 0
  · rw [if_pos hc] at hB
    refine s_Fin.bf (c := ¬ v1 = 0) (tg := 45) (p2 := 8) (L1 := [some (.ref 22), some (.int x1), some (.int x2), some (.int v1)]) (st1 := []) (fun h => h hc) rfl ?_
    refine s_Fin.sg 8 (y := (20, [some (.ref 22), some (.int x1), some (.int x2), some (.int v1)], [.int x1, .int x2, .ref 22, .int (99 : Int32), .int (2 : Int32), .int x1, .int x2, .ref 22], s_hg g)) rfl ?_
    obtain ⟨v2, hp, hB⟩ := s_bd hB
    refine s_Fin.cl (d := 1) (q1 := s_m50) (md := 50) (vs := [.ref 22, .int x2, .int x1]) (rest := [.int (99 : Int32), .int (2 : Int32), .int x1, .int x2, .ref 22]) (h1 := s_hg g) (u := some (.int v2)) (s_Ev.up (by omega) (fT_onBoy_22_s hp)) rfl rfl rfl rfl ?_
    refine s_Fin.sg 2 (y := (27, [some (.ref 22), some (.int x1), some (.int x2), some (.int v1)], [.int (if ((99 : Int32) - v2) < (2 : Int32) then ((99 : Int32) - v2) else (2 : Int32)), .int x1, .int x2, .ref 22], s_hg g)) rfl ?_
    obtain ⟨g3, hp, hB⟩ := s_bd hB
    refine s_Fin.cl (d := 1) (q1 := s_m14) (md := 14) (vs := [.ref 22, .int x2, .int x1, .int (if ((99 : Int32) - v2) < (2 : Int32) then ((99 : Int32) - v2) else (2 : Int32))]) (rest := []) (h1 := s_hg g3) (u := none) (s_Ev.up (by omega) (fT_putOn_22_s hp)) rfl rfl rfl rfl ?_
    refine s_Fin.sg 8 (y := (42, [some (.ref 22), some (.int x1), some (.int x2), some (.int v1)], [.int x1, .ref 22], s_hg (s_si g3 22 9 ((g3.1 22 9) + (1 : Int32))))) rfl ?_
    obtain ⟨g4, hp, hB⟩ := s_bd hB
    refine s_Fin.cl (d := 1) (q1 := s_m66) (md := 66) (vs := [.ref 22, .int x1]) (rest := []) (h1 := s_hg g4) (u := none) (s_Ev.up (by omega) (fT_hush_22_s hp)) rfl rfl rfl rfl ?_
    refine s_Fin.sg 1 (y := (46, [some (.ref 22), some (.int x1), some (.int x2), some (.int v1)], [.int v1], s_hg g4)) rfl ?_
    have hB := Option.some.inj hB
    subst hB
    obtain ⟨rfl, rfl⟩ := hr
    exact s_Fin.rt rfl rfl
  · rw [if_neg hc] at hB
    refine s_Fin.bt (c := ¬ v1 = 0) (tg := 45) (p2 := 8) (L1 := [some (.ref 22), some (.int x1), some (.int x2), some (.int v1)]) (st1 := []) hc rfl ?_
    refine s_Fin.sg 1 (y := (46, [some (.ref 22), some (.int x1), some (.int x2), some (.int v1)], [.int v1], s_hg g)) rfl ?_
    have hB := Option.some.inj hB
    subst hB
    obtain ⟨rfl, rfl⟩ := hr
    exact s_Fin.rt rfl rfl
-- CampAshes.lie
noncomputable def fC_lie_0 (x1 : Int32) (x2 : Int32) (g : s_G) : Option (Int32 × s_G) :=
  s_b1 (fP_hasBoy_3 x1 g) fun v1 => if v1 = 0 then (some ((-1 : Int32), g))
  else s_b1 (fP_hasEvent_3 x2 g) fun v2 => if v2 = 0 then (some ((-1 : Int32), g))
  else s_b1 (fT_copyFrom_22_17 g) fun g3 => s_b2 (fT_lieAbout_22 x1 x2 g3) fun v5 g4 => s_b2 (fC_keepIfDone_0 v5 g4) fun v7 g6 => some (v7, g6)
theorem fC_lie_0_s {x1 : Int32} {x2 : Int32} {g : s_G} {z : Int32 × s_G} (hB : fC_lie_0 x1 x2 g = some z) : s_Ev 4 s_m70 [.ref 0, .int x1, .int x2] (s_hg g) (some (.int z.1)) (s_hg z.2) := by
  unfold fC_lie_0 at hB
  refine s_Ev.fin ((?_ : ∀ (v : Option Value) (h' : s_H), (fun (z : Int32 × s_G) (v : Option Value) (h' : s_H) => v = some (.int z.1) ∧ h' = s_hg z.2) z v h' → s_Fin 4 s_m70 (0, s_ent [.ref 0, .int x1, .int x2] (s_m70).2.2.1, [], s_hg g) v h') _ _ ⟨rfl, rfl⟩)
  intro v h' hr
  refine (show s_Fin 4 s_m70 (0, [some (.ref 0), some (.int x1), some (.int x2)], [], s_hg g) v h' from ?_)
  refine s_Fin.sg 3 (y := (5, [some (.ref 0), some (.int x1), some (.int x2)], [.int x1, .ref 3], s_hg g)) rfl ?_
  obtain ⟨v1, hp, hB⟩ := s_bd hB
  refine s_Fin.cl (d := 3) (q1 := s_m49) (md := 49) (vs := [.ref 3, .int x1]) (rest := []) (h1 := s_hg g) (u := some (.int v1)) (s_Ev.up (by omega) (fP_hasBoy_3_s hp)) rfl rfl rfl rfl ?_
  by_cases hc : v1 = 0
  · rw [if_pos hc] at hB
    refine s_Fin.bt (c := v1 = 0) (tg := 22) (p2 := 8) (L1 := [some (.ref 0), some (.int x1), some (.int x2)]) (st1 := []) hc rfl ?_
    refine s_Fin.sg 1 (y := (23, [some (.ref 0), some (.int x1), some (.int x2)], [.int (-1 : Int32)], s_hg g)) rfl ?_
    have hB := Option.some.inj hB
    subst hB
    obtain ⟨rfl, rfl⟩ := hr
    exact s_Fin.rt rfl rfl
  · rw [if_neg hc] at hB
    refine s_Fin.bf (c := v1 = 0) (tg := 22) (p2 := 8) (L1 := [some (.ref 0), some (.int x1), some (.int x2)]) (st1 := []) hc rfl ?_
    refine s_Fin.sg 3 (y := (16, [some (.ref 0), some (.int x1), some (.int x2)], [.int x2, .ref 3], s_hg g)) rfl ?_
    obtain ⟨v2, hp, hB⟩ := s_bd hB
    refine s_Fin.cl (d := 3) (q1 := s_m48) (md := 48) (vs := [.ref 3, .int x2]) (rest := []) (h1 := s_hg g) (u := some (.int v2)) (s_Ev.up (by omega) (fP_hasEvent_3_s hp)) rfl rfl rfl rfl ?_
    by_cases hc : v2 = 0
    · rw [if_pos hc] at hB
      refine s_Fin.bf (c := ¬ v2 = 0) (tg := 24) (p2 := 19) (L1 := [some (.ref 0), some (.int x1), some (.int x2)]) (st1 := []) (fun h => h hc) rfl ?_
      refine s_Fin.sg 1 (y := (23, [some (.ref 0), some (.int x1), some (.int x2)], [.int (-1 : Int32)], s_hg g)) rfl ?_
      have hB := Option.some.inj hB
      subst hB
      obtain ⟨rfl, rfl⟩ := hr
      exact s_Fin.rt rfl rfl
    · rw [if_neg hc] at hB
      refine s_Fin.bt (c := ¬ v2 = 0) (tg := 24) (p2 := 19) (L1 := [some (.ref 0), some (.int x1), some (.int x2)]) (st1 := []) hc rfl ?_
      refine s_Fin.sg 4 (y := (32, [some (.ref 0), some (.int x1), some (.int x2)], [.ref 17, .ref 22], s_hg g)) rfl ?_
      obtain ⟨g3, hp, hB⟩ := s_bd hB
      refine s_Fin.cl (d := 3) (q1 := s_m62) (md := 62) (vs := [.ref 22, .ref 17]) (rest := []) (h1 := s_hg g3) (u := none) (s_Ev.up (by omega) (fT_copyFrom_22_17_s hp)) rfl rfl rfl rfl ?_
      refine s_Fin.sg 5 (y := (42, [some (.ref 0), some (.int x1), some (.int x2)], [.int x2, .int x1, .ref 22, .ref 0], s_hg g3)) rfl ?_
      obtain ⟨v5, g4, hp, hB⟩ := s_bd2 hB
      refine s_Fin.cl (d := 3) (q1 := s_m71) (md := 71) (vs := [.ref 22, .int x1, .int x2]) (rest := [.ref 0]) (h1 := s_hg g4) (u := some (.int v5)) (s_Ev.up (by omega) (fT_lieAbout_22_s hp)) rfl rfl rfl rfl ?_
      obtain ⟨v7, g6, hp, hB⟩ := s_bd2 hB
      refine s_Fin.cl (d := 3) (q1 := s_m67) (md := 67) (vs := [.ref 0, .int v5]) (rest := []) (h1 := s_hg g6) (u := some (.int v7)) (s_Ev.up (by omega) (fC_keepIfDone_0_s hp)) rfl rfl rfl rfl ?_
      have hB := Option.some.inj hB
      subst hB
      obtain ⟨rfl, rfl⟩ := hr
      exact s_Fin.rt rfl rfl
-- CampAshesModel.give
noncomputable def fM_give_130 (x1 : Int32) (x2 : Int32) (x3 : Int32) (x4 : Int32) (g : s_G) : Option (Int32 × s_G) :=
  s_b1 (fM_isBoy_130 x1 (s_si g 130 0 (0 : Int32))) fun v1 => if v1 = 0 then (s_b2 (fM_act_130 (2 : Int32) x1 x2 x3 x4 (0 : Int32) (s_si g 130 0 (0 : Int32))) fun v3 g2 => some (v3, g2))
  else s_b1 (fM_isEvent_130 x2 (s_si g 130 0 (0 : Int32))) fun v4 => if v4 = 0 then (s_b2 (fM_act_130 (2 : Int32) x1 x2 x3 x4 (0 : Int32) (s_si g 130 0 (0 : Int32))) fun v6 g5 => some (v6, g5))
  else s_b1 (fM_isBoy_130 x3 (s_si g 130 0 (0 : Int32))) fun v7 => if v7 = 0 then (s_b2 (fM_act_130 (2 : Int32) x1 x2 x3 x4 (0 : Int32) (s_si g 130 0 (0 : Int32))) fun v9 g8 => some (v9, g8))
  else s_b1 (fM_isIn_s x4 (1 : Int32) (40 : Int32) (s_si g 130 0 (0 : Int32))) fun v10 => if v10 = 0 then (s_b2 (fM_act_130 (2 : Int32) x1 x2 x3 x4 (0 : Int32) (s_si g 130 0 (0 : Int32))) fun v12 g11 => some (v12, g11))
  else s_b2 (fM_act_130 (2 : Int32) x1 x2 x3 x4 (1 : Int32) (s_si g 130 0 (0 : Int32))) fun v14 g13 => some (v14, g13)
theorem fM_give_130_s {x1 : Int32} {x2 : Int32} {x3 : Int32} {x4 : Int32} {g : s_G} {z : Int32 × s_G} (hB : fM_give_130 x1 x2 x3 x4 g = some z) : s_Ev 5 s_m220 [.ref 130, .int x1, .int x2, .int x3, .int x4] (s_hg g) (some (.int z.1)) (s_hg z.2) := by
  unfold fM_give_130 at hB
  refine s_Ev.fin ((?_ : ∀ (v : Option Value) (h' : s_H), (fun (z : Int32 × s_G) (v : Option Value) (h' : s_H) => v = some (.int z.1) ∧ h' = s_hg z.2) z v h' → s_Fin 5 s_m220 (0, s_ent [.ref 130, .int x1, .int x2, .int x3, .int x4] (s_m220).2.2.1, [], s_hg g) v h') _ _ ⟨rfl, rfl⟩)
  intro v h' hr
  refine (show s_Fin 5 s_m220 (0, [some (.ref 130), some (.int x1), some (.int x2), some (.int x3), some (.int x4)], [], s_hg g) v h' from ?_)
  refine s_Fin.sg 11 (y := (14, [some (.ref 130), some (.int x1), some (.int x2), some (.int x3), some (.int x4)], [.int x1, .ref 130, .int x4, .int x3, .int x2, .int x1, .int (2 : Int32), .ref 130], s_hg (s_si g 130 0 (0 : Int32)))) rfl ?_
  obtain ⟨v1, hp, hB⟩ := s_bd hB
  refine s_Fin.cl (d := 4) (q1 := s_m192) (md := 192) (vs := [.ref 130, .int x1]) (rest := [.int x4, .int x3, .int x2, .int x1, .int (2 : Int32), .ref 130]) (h1 := s_hg (s_si g 130 0 (0 : Int32))) (u := some (.int v1)) (s_Ev.up (by omega) (fM_isBoy_130_s hp)) rfl rfl rfl rfl ?_
  by_cases hc : v1 = 0
  · rw [if_pos hc] at hB
    refine s_Fin.bt (c := v1 = 0) (tg := 51) (p2 := 17) (L1 := [some (.ref 130), some (.int x1), some (.int x2), some (.int x3), some (.int x4)]) (st1 := [.int x4, .int x3, .int x2, .int x1, .int (2 : Int32), .ref 130]) hc rfl ?_
    refine s_Fin.sg 1 (y := (52, [some (.ref 130), some (.int x1), some (.int x2), some (.int x3), some (.int x4)], [.int (0 : Int32), .int x4, .int x3, .int x2, .int x1, .int (2 : Int32), .ref 130], s_hg (s_si g 130 0 (0 : Int32)))) rfl ?_
    obtain ⟨v3, g2, hp, hB⟩ := s_bd2 hB
    refine s_Fin.cl (d := 4) (q1 := s_m211) (md := 211) (vs := [.ref 130, .int (2 : Int32), .int x1, .int x2, .int x3, .int x4, .int (0 : Int32)]) (rest := []) (h1 := s_hg g2) (u := some (.int v3)) (s_Ev.up (by omega) (fM_act_130_s hp)) rfl rfl rfl rfl ?_
    have hB := Option.some.inj hB
    subst hB
    obtain ⟨rfl, rfl⟩ := hr
    exact s_Fin.rt rfl rfl
  · rw [if_neg hc] at hB
    refine s_Fin.bf (c := v1 = 0) (tg := 51) (p2 := 17) (L1 := [some (.ref 130), some (.int x1), some (.int x2), some (.int x3), some (.int x4)]) (st1 := [.int x4, .int x3, .int x2, .int x1, .int (2 : Int32), .ref 130]) hc rfl ?_
    refine s_Fin.sg 2 (y := (22, [some (.ref 130), some (.int x1), some (.int x2), some (.int x3), some (.int x4)], [.int x2, .ref 130, .int x4, .int x3, .int x2, .int x1, .int (2 : Int32), .ref 130], s_hg (s_si g 130 0 (0 : Int32)))) rfl ?_
    obtain ⟨v4, hp, hB⟩ := s_bd hB
    refine s_Fin.cl (d := 4) (q1 := s_m201) (md := 201) (vs := [.ref 130, .int x2]) (rest := [.int x4, .int x3, .int x2, .int x1, .int (2 : Int32), .ref 130]) (h1 := s_hg (s_si g 130 0 (0 : Int32))) (u := some (.int v4)) (s_Ev.up (by omega) (fM_isEvent_130_s hp)) rfl rfl rfl rfl ?_
    by_cases hc : v4 = 0
    · rw [if_pos hc] at hB
      refine s_Fin.bt (c := v4 = 0) (tg := 51) (p2 := 25) (L1 := [some (.ref 130), some (.int x1), some (.int x2), some (.int x3), some (.int x4)]) (st1 := [.int x4, .int x3, .int x2, .int x1, .int (2 : Int32), .ref 130]) hc rfl ?_
      refine s_Fin.sg 1 (y := (52, [some (.ref 130), some (.int x1), some (.int x2), some (.int x3), some (.int x4)], [.int (0 : Int32), .int x4, .int x3, .int x2, .int x1, .int (2 : Int32), .ref 130], s_hg (s_si g 130 0 (0 : Int32)))) rfl ?_
      obtain ⟨v6, g5, hp, hB⟩ := s_bd2 hB
      refine s_Fin.cl (d := 4) (q1 := s_m211) (md := 211) (vs := [.ref 130, .int (2 : Int32), .int x1, .int x2, .int x3, .int x4, .int (0 : Int32)]) (rest := []) (h1 := s_hg g5) (u := some (.int v6)) (s_Ev.up (by omega) (fM_act_130_s hp)) rfl rfl rfl rfl ?_
      have hB := Option.some.inj hB
      subst hB
      obtain ⟨rfl, rfl⟩ := hr
      exact s_Fin.rt rfl rfl
    · rw [if_neg hc] at hB
      refine s_Fin.bf (c := v4 = 0) (tg := 51) (p2 := 25) (L1 := [some (.ref 130), some (.int x1), some (.int x2), some (.int x3), some (.int x4)]) (st1 := [.int x4, .int x3, .int x2, .int x1, .int (2 : Int32), .ref 130]) hc rfl ?_
      refine s_Fin.sg 2 (y := (30, [some (.ref 130), some (.int x1), some (.int x2), some (.int x3), some (.int x4)], [.int x3, .ref 130, .int x4, .int x3, .int x2, .int x1, .int (2 : Int32), .ref 130], s_hg (s_si g 130 0 (0 : Int32)))) rfl ?_
      obtain ⟨v7, hp, hB⟩ := s_bd hB
      refine s_Fin.cl (d := 4) (q1 := s_m192) (md := 192) (vs := [.ref 130, .int x3]) (rest := [.int x4, .int x3, .int x2, .int x1, .int (2 : Int32), .ref 130]) (h1 := s_hg (s_si g 130 0 (0 : Int32))) (u := some (.int v7)) (s_Ev.up (by omega) (fM_isBoy_130_s hp)) rfl rfl rfl rfl ?_
      by_cases hc : v7 = 0
      · rw [if_pos hc] at hB
        refine s_Fin.bt (c := v7 = 0) (tg := 51) (p2 := 33) (L1 := [some (.ref 130), some (.int x1), some (.int x2), some (.int x3), some (.int x4)]) (st1 := [.int x4, .int x3, .int x2, .int x1, .int (2 : Int32), .ref 130]) hc rfl ?_
        refine s_Fin.sg 1 (y := (52, [some (.ref 130), some (.int x1), some (.int x2), some (.int x3), some (.int x4)], [.int (0 : Int32), .int x4, .int x3, .int x2, .int x1, .int (2 : Int32), .ref 130], s_hg (s_si g 130 0 (0 : Int32)))) rfl ?_
        obtain ⟨v9, g8, hp, hB⟩ := s_bd2 hB
        refine s_Fin.cl (d := 4) (q1 := s_m211) (md := 211) (vs := [.ref 130, .int (2 : Int32), .int x1, .int x2, .int x3, .int x4, .int (0 : Int32)]) (rest := []) (h1 := s_hg g8) (u := some (.int v9)) (s_Ev.up (by omega) (fM_act_130_s hp)) rfl rfl rfl rfl ?_
        have hB := Option.some.inj hB
        subst hB
        obtain ⟨rfl, rfl⟩ := hr
        exact s_Fin.rt rfl rfl
      · rw [if_neg hc] at hB
        refine s_Fin.bf (c := v7 = 0) (tg := 51) (p2 := 33) (L1 := [some (.ref 130), some (.int x1), some (.int x2), some (.int x3), some (.int x4)]) (st1 := [.int x4, .int x3, .int x2, .int x1, .int (2 : Int32), .ref 130]) hc rfl ?_
        refine s_Fin.sg 3 (y := (41, [some (.ref 130), some (.int x1), some (.int x2), some (.int x3), some (.int x4)], [.int (40 : Int32), .int (1 : Int32), .int x4, .int x4, .int x3, .int x2, .int x1, .int (2 : Int32), .ref 130], s_hg (s_si g 130 0 (0 : Int32)))) rfl ?_
        obtain ⟨v10, hp, hB⟩ := s_bd hB
        refine s_Fin.cl (d := 4) (q1 := s_m181) (md := 181) (vs := [.int x4, .int (1 : Int32), .int (40 : Int32)]) (rest := [.int x4, .int x3, .int x2, .int x1, .int (2 : Int32), .ref 130]) (h1 := s_hg (s_si g 130 0 (0 : Int32))) (u := some (.int v10)) (s_Ev.up (by omega) (fM_isIn_s_s hp)) rfl rfl rfl rfl ?_
        by_cases hc : v10 = 0
        · rw [if_pos hc] at hB
          refine s_Fin.bt (c := v10 = 0) (tg := 51) (p2 := 44) (L1 := [some (.ref 130), some (.int x1), some (.int x2), some (.int x3), some (.int x4)]) (st1 := [.int x4, .int x3, .int x2, .int x1, .int (2 : Int32), .ref 130]) hc rfl ?_
          refine s_Fin.sg 1 (y := (52, [some (.ref 130), some (.int x1), some (.int x2), some (.int x3), some (.int x4)], [.int (0 : Int32), .int x4, .int x3, .int x2, .int x1, .int (2 : Int32), .ref 130], s_hg (s_si g 130 0 (0 : Int32)))) rfl ?_
          obtain ⟨v12, g11, hp, hB⟩ := s_bd2 hB
          refine s_Fin.cl (d := 4) (q1 := s_m211) (md := 211) (vs := [.ref 130, .int (2 : Int32), .int x1, .int x2, .int x3, .int x4, .int (0 : Int32)]) (rest := []) (h1 := s_hg g11) (u := some (.int v12)) (s_Ev.up (by omega) (fM_act_130_s hp)) rfl rfl rfl rfl ?_
          have hB := Option.some.inj hB
          subst hB
          obtain ⟨rfl, rfl⟩ := hr
          exact s_Fin.rt rfl rfl
        · rw [if_neg hc] at hB
          refine s_Fin.bf (c := v10 = 0) (tg := 51) (p2 := 44) (L1 := [some (.ref 130), some (.int x1), some (.int x2), some (.int x3), some (.int x4)]) (st1 := [.int x4, .int x3, .int x2, .int x1, .int (2 : Int32), .ref 130]) hc rfl ?_
          refine s_Fin.sg 2 (y := (52, [some (.ref 130), some (.int x1), some (.int x2), some (.int x3), some (.int x4)], [.int (1 : Int32), .int x4, .int x3, .int x2, .int x1, .int (2 : Int32), .ref 130], s_hg (s_si g 130 0 (0 : Int32)))) rfl ?_
          obtain ⟨v14, g13, hp, hB⟩ := s_bd2 hB
          refine s_Fin.cl (d := 4) (q1 := s_m211) (md := 211) (vs := [.ref 130, .int (2 : Int32), .int x1, .int x2, .int x3, .int x4, .int (1 : Int32)]) (rest := []) (h1 := s_hg g13) (u := some (.int v14)) (s_Ev.up (by omega) (fM_act_130_s hp)) rfl rfl rfl rfl ?_
          have hB := Option.some.inj hB
          subst hB
          obtain ⟨rfl, rfl⟩ := hr
          exact s_Fin.rt rfl rfl
