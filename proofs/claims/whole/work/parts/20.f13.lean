-- CampAshesModel.undo
noncomputable def fM_undo_130_26 (x1 : Int32) (g : s_G) : Option ((Int32 × s_G) ⊕ (Int32 × s_G)) :=
  if x1 < (86 : Int32) then (s_b1 (s_ix 688 (((86 : Int32) * (g.1 130 25)) + x1)) fun k2 => s_b1 (s_ix 375 ((47 : Int32) + x1)) fun k4 => some (.inl (x1 + (1 : Int32), (s_si g 132 k4 (g.1 135 k2)))))
  else s_in (some (g.1 130 25, g))
theorem fM_undo_130_26_s {x1 : Int32} {g : s_G} {z : (Int32 × s_G) ⊕ (Int32 × s_G)} (hB : fM_undo_130_26 x1 g = some z) {v : Option Value} {h' : s_H} (hr : (s_sm (fun (x : Int32 × s_G) (v : Option Value) (h' : s_H) => s_Fin 0 s_m223 (26, [some (.ref 130), some (.int x.1)], [], s_hg x.2) v h') (fun (z : Int32 × s_G) (v : Option Value) (h' : s_H) => v = some (.int z.1) ∧ h' = s_hg z.2)) z v h') : s_Fin 0 s_m223 (26, [some (.ref 130), some (.int x1)], [], s_hg g) v h' := by
  unfold fM_undo_130_26 at hB
  refine s_Fin.sg 2 (y := (29, [some (.ref 130), some (.int x1)], [.int (86 : Int32), .int x1], s_hg g)) rfl ?_
  by_cases hc : x1 < (86 : Int32)
  · rw [if_pos hc] at hB
    refine s_Fin.bf (c := (86 : Int32) ≤ x1) (tg := 61) (p2 := 29) (L1 := [some (.ref 130), some (.int x1)]) (st1 := []) (Int32.not_le.mpr hc) rfl ?_
    refine s_Fin.sg 13 (y := (53, [some (.ref 130), some (.int x1)], [.int (((86 : Int32) * (g.1 130 25)) + x1), .ref 135, .int ((47 : Int32) + x1), .ref 132], s_hg g)) rfl ?_
    obtain ⟨k2, hk2, hB⟩ := s_bd hB
    refine s_Fin.ix (n := 688) (i := ((86 : Int32) * (g.1 130 25)) + x1) (pc1 := 54) (L1 := [some (.ref 130), some (.int x1)]) (fun j1 => [.int (g.1 135 j1), .int ((47 : Int32) + x1), .ref 132]) (fun j1 => s_hg g) hk2 rfl rfl ?_
    obtain ⟨k4, hk4, hB⟩ := s_bd hB
    refine s_Fin.ix (n := 375) (i := (47 : Int32) + x1) (pc1 := 55) (L1 := [some (.ref 130), some (.int x1)]) (fun j3 => []) (fun j3 => s_hg (s_si g 132 j3 (g.1 135 k2))) hk4 rfl rfl ?_
    refine s_Fin.sg 2 (y := (26, [some (.ref 130), some (.int (x1 + (1 : Int32)))], [], s_hg (s_si g 132 k4 (g.1 135 k2)))) rfl ?_
    have hB := Option.some.inj hB
    subst hB
    exact s_Fin.more (L := [some (.ref 130), some (.int (x1 + (1 : Int32)))]) ⟨Or.inr rfl, Or.inr rfl, trivial⟩ hr
  · rw [if_neg hc] at hB
    refine s_Fin.bt (c := (86 : Int32) ≤ x1) (tg := 61) (p2 := 29) (L1 := [some (.ref 130), some (.int x1)]) (st1 := []) (Int32.not_lt.mp hc) rfl ?_
    obtain ⟨_, hN, hz⟩ := s_in_of hB
    subst hz
    have hB := hN
    refine s_Fin.sg 2 (y := (65, [some (.ref 130), some (.int x1)], [.int (g.1 130 25)], s_hg g)) rfl ?_
    have hB := Option.some.inj hB
    subst hB
    obtain ⟨rfl, rfl⟩ := hr
    exact s_Fin.rt rfl rfl
noncomputable def fM_undo_130 (g : s_G) : Option (Int32 × s_G) :=
  if (g.1 130 25) = 0 then (some ((-1 : Int32), (s_si g 130 0 (0 : Int32))))
  else s_lp (fun x => fM_undo_130_26 x.1 x.2) ((0 : Int32), (s_si (s_si g 130 0 (0 : Int32)) 130 25 ((g.1 130 25) - (1 : Int32))))
theorem fM_undo_130_s {g : s_G} {z : Int32 × s_G} (hB : fM_undo_130 g = some z) : s_Ev 0 s_m223 [.ref 130] (s_hg g) (some (.int z.1)) (s_hg z.2) := by
  unfold fM_undo_130 at hB
  refine s_Ev.fin ((?_ : ∀ (v : Option Value) (h' : s_H), (fun (z : Int32 × s_G) (v : Option Value) (h' : s_H) => v = some (.int z.1) ∧ h' = s_hg z.2) z v h' → s_Fin 0 s_m223 (0, s_ent [.ref 130] (s_m223).2.2.1, [], s_hg g) v h') _ _ ⟨rfl, rfl⟩)
  intro v h' hr
  refine (show s_Fin 0 s_m223 (0, [some (.ref 130), none], [], s_hg g) v h' from ?_)
  refine s_Fin.sg 5 (y := (9, [some (.ref 130), none], [.int (g.1 130 25)], s_hg (s_si g 130 0 (0 : Int32)))) rfl ?_
  by_cases hc : (g.1 130 25) = 0
  · rw [if_pos hc] at hB
    refine s_Fin.bf (c := ¬ (g.1 130 25) = 0) (tg := 14) (p2 := 9) (L1 := [some (.ref 130), none]) (st1 := []) (fun h => h hc) rfl ?_
    refine s_Fin.sg 1 (y := (13, [some (.ref 130), none], [.int (-1 : Int32)], s_hg (s_si g 130 0 (0 : Int32)))) rfl ?_
    have hB := Option.some.inj hB
    subst hB
    obtain ⟨rfl, rfl⟩ := hr
    exact s_Fin.rt rfl rfl
  · rw [if_neg hc] at hB
    refine s_Fin.bt (c := ¬ (g.1 130 25) = 0) (tg := 14) (p2 := 9) (L1 := [some (.ref 130), none]) (st1 := []) hc rfl ?_
    refine s_Fin.sg 8 (y := (26, [some (.ref 130), some (.int (0 : Int32))], [], s_hg (s_si (s_si g 130 0 (0 : Int32)) 130 25 ((g.1 130 25) - (1 : Int32))))) rfl ?_
    exact s_Fin.more (L := [some (.ref 130), some (.int (0 : Int32))]) ⟨Or.inr rfl, Or.inr rfl, trivial⟩ (s_lp_s (P := (fun (x : Int32 × s_G) (v : Option Value) (h' : s_H) => s_Fin 0 s_m223 (26, [some (.ref 130), some (.int x.1)], [], s_hg x.2) v h')) (Q := (fun (z : Int32 × s_G) (v : Option Value) (h' : s_H) => v = some (.int z.1) ∧ h' = s_hg z.2)) (fun x z hB v h' hr => fM_undo_130_26_s hB hr) hB _ _ hr)
-- CampAshes$State.copyFrom
noncomputable def fT_copyFrom_17_45 (g : s_G) : Option (s_G) :=
  some (s_si (s_si (s_si (s_si (s_si (s_ci (s_ci (s_ci (s_ci g 46 18 0 0 70) 47 19 0 0 7) 48 20 0 0 4) 49 21 0 0 7) 17 5 (g.1 45 5)) 17 6 (g.1 45 6)) 17 7 (g.1 45 7)) 17 8 (g.1 45 8)) 17 9 (g.1 45 9))
theorem fT_copyFrom_17_45_s {g : s_G} {z : s_G} (hB : fT_copyFrom_17_45 g = some z) : s_Ev 0 s_m62 [.ref 17, .ref 45] (s_hg g) (none) (s_hg z) := by
  unfold fT_copyFrom_17_45 at hB
  refine s_Ev.fin ((?_ : ∀ (v : Option Value) (h' : s_H), (fun (z : s_G) (v : Option Value) (h' : s_H) => v = none ∧ h' = s_hg z) z v h' → s_Fin 0 s_m62 (0, s_ent [.ref 17, .ref 45] (s_m62).2.2.1, [], s_hg g) v h') _ _ ⟨rfl, rfl⟩)
  intro v h' hr
  refine (show s_Fin 0 s_m62 (0, [some (.ref 17), some (.ref 45)], [], s_hg g) v h' from ?_)
  refine s_Fin.sg 52 (y := (99, [some (.ref 17), some (.ref 45)], [], s_hg (s_si (s_si (s_si (s_si (s_si (s_ci (s_ci (s_ci (s_ci g 46 18 0 0 70) 47 19 0 0 7) 48 20 0 0 4) 49 21 0 0 7) 17 5 (g.1 45 5)) 17 6 (g.1 45 6)) 17 7 (g.1 45 7)) 17 8 (g.1 45 8)) 17 9 (g.1 45 9)))) rfl ?_
  have hB := Option.some.inj hB
  subst hB
  obtain ⟨rfl, rfl⟩ := hr
  exact s_Fin.rt rfl rfl
-- CampAshes$State.copyFrom
noncomputable def fT_copyFrom_17_50 (g : s_G) : Option (s_G) :=
  some (s_si (s_si (s_si (s_si (s_si (s_ci (s_ci (s_ci (s_ci g 51 18 0 0 70) 52 19 0 0 7) 53 20 0 0 4) 54 21 0 0 7) 17 5 (g.1 50 5)) 17 6 (g.1 50 6)) 17 7 (g.1 50 7)) 17 8 (g.1 50 8)) 17 9 (g.1 50 9))
theorem fT_copyFrom_17_50_s {g : s_G} {z : s_G} (hB : fT_copyFrom_17_50 g = some z) : s_Ev 0 s_m62 [.ref 17, .ref 50] (s_hg g) (none) (s_hg z) := by
  unfold fT_copyFrom_17_50 at hB
  refine s_Ev.fin ((?_ : ∀ (v : Option Value) (h' : s_H), (fun (z : s_G) (v : Option Value) (h' : s_H) => v = none ∧ h' = s_hg z) z v h' → s_Fin 0 s_m62 (0, s_ent [.ref 17, .ref 50] (s_m62).2.2.1, [], s_hg g) v h') _ _ ⟨rfl, rfl⟩)
  intro v h' hr
  refine (show s_Fin 0 s_m62 (0, [some (.ref 17), some (.ref 50)], [], s_hg g) v h' from ?_)
  refine s_Fin.sg 52 (y := (99, [some (.ref 17), some (.ref 50)], [], s_hg (s_si (s_si (s_si (s_si (s_si (s_ci (s_ci (s_ci (s_ci g 51 18 0 0 70) 52 19 0 0 7) 53 20 0 0 4) 54 21 0 0 7) 17 5 (g.1 50 5)) 17 6 (g.1 50 6)) 17 7 (g.1 50 7)) 17 8 (g.1 50 8)) 17 9 (g.1 50 9)))) rfl ?_
  have hB := Option.some.inj hB
  subst hB
  obtain ⟨rfl, rfl⟩ := hr
  exact s_Fin.rt rfl rfl
-- CampAshes$State.copyFrom
noncomputable def fT_copyFrom_17_55 (g : s_G) : Option (s_G) :=
  some (s_si (s_si (s_si (s_si (s_si (s_ci (s_ci (s_ci (s_ci g 56 18 0 0 70) 57 19 0 0 7) 58 20 0 0 4) 59 21 0 0 7) 17 5 (g.1 55 5)) 17 6 (g.1 55 6)) 17 7 (g.1 55 7)) 17 8 (g.1 55 8)) 17 9 (g.1 55 9))
theorem fT_copyFrom_17_55_s {g : s_G} {z : s_G} (hB : fT_copyFrom_17_55 g = some z) : s_Ev 0 s_m62 [.ref 17, .ref 55] (s_hg g) (none) (s_hg z) := by
  unfold fT_copyFrom_17_55 at hB
  refine s_Ev.fin ((?_ : ∀ (v : Option Value) (h' : s_H), (fun (z : s_G) (v : Option Value) (h' : s_H) => v = none ∧ h' = s_hg z) z v h' → s_Fin 0 s_m62 (0, s_ent [.ref 17, .ref 55] (s_m62).2.2.1, [], s_hg g) v h') _ _ ⟨rfl, rfl⟩)
  intro v h' hr
  refine (show s_Fin 0 s_m62 (0, [some (.ref 17), some (.ref 55)], [], s_hg g) v h' from ?_)
  refine s_Fin.sg 52 (y := (99, [some (.ref 17), some (.ref 55)], [], s_hg (s_si (s_si (s_si (s_si (s_si (s_ci (s_ci (s_ci (s_ci g 56 18 0 0 70) 57 19 0 0 7) 58 20 0 0 4) 59 21 0 0 7) 17 5 (g.1 55 5)) 17 6 (g.1 55 6)) 17 7 (g.1 55 7)) 17 8 (g.1 55 8)) 17 9 (g.1 55 9)))) rfl ?_
  have hB := Option.some.inj hB
  subst hB
  obtain ⟨rfl, rfl⟩ := hr
  exact s_Fin.rt rfl rfl
-- CampAshes$State.copyFrom
noncomputable def fT_copyFrom_17_60 (g : s_G) : Option (s_G) :=
  some (s_si (s_si (s_si (s_si (s_si (s_ci (s_ci (s_ci (s_ci g 61 18 0 0 70) 62 19 0 0 7) 63 20 0 0 4) 64 21 0 0 7) 17 5 (g.1 60 5)) 17 6 (g.1 60 6)) 17 7 (g.1 60 7)) 17 8 (g.1 60 8)) 17 9 (g.1 60 9))
theorem fT_copyFrom_17_60_s {g : s_G} {z : s_G} (hB : fT_copyFrom_17_60 g = some z) : s_Ev 0 s_m62 [.ref 17, .ref 60] (s_hg g) (none) (s_hg z) := by
  unfold fT_copyFrom_17_60 at hB
  refine s_Ev.fin ((?_ : ∀ (v : Option Value) (h' : s_H), (fun (z : s_G) (v : Option Value) (h' : s_H) => v = none ∧ h' = s_hg z) z v h' → s_Fin 0 s_m62 (0, s_ent [.ref 17, .ref 60] (s_m62).2.2.1, [], s_hg g) v h') _ _ ⟨rfl, rfl⟩)
  intro v h' hr
  refine (show s_Fin 0 s_m62 (0, [some (.ref 17), some (.ref 60)], [], s_hg g) v h' from ?_)
  refine s_Fin.sg 52 (y := (99, [some (.ref 17), some (.ref 60)], [], s_hg (s_si (s_si (s_si (s_si (s_si (s_ci (s_ci (s_ci (s_ci g 61 18 0 0 70) 62 19 0 0 7) 63 20 0 0 4) 64 21 0 0 7) 17 5 (g.1 60 5)) 17 6 (g.1 60 6)) 17 7 (g.1 60 7)) 17 8 (g.1 60 8)) 17 9 (g.1 60 9)))) rfl ?_
  have hB := Option.some.inj hB
  subst hB
  obtain ⟨rfl, rfl⟩ := hr
  exact s_Fin.rt rfl rfl
-- CampAshes$State.copyFrom
noncomputable def fT_copyFrom_17_65 (g : s_G) : Option (s_G) :=
  some (s_si (s_si (s_si (s_si (s_si (s_ci (s_ci (s_ci (s_ci g 66 18 0 0 70) 67 19 0 0 7) 68 20 0 0 4) 69 21 0 0 7) 17 5 (g.1 65 5)) 17 6 (g.1 65 6)) 17 7 (g.1 65 7)) 17 8 (g.1 65 8)) 17 9 (g.1 65 9))
theorem fT_copyFrom_17_65_s {g : s_G} {z : s_G} (hB : fT_copyFrom_17_65 g = some z) : s_Ev 0 s_m62 [.ref 17, .ref 65] (s_hg g) (none) (s_hg z) := by
  unfold fT_copyFrom_17_65 at hB
  refine s_Ev.fin ((?_ : ∀ (v : Option Value) (h' : s_H), (fun (z : s_G) (v : Option Value) (h' : s_H) => v = none ∧ h' = s_hg z) z v h' → s_Fin 0 s_m62 (0, s_ent [.ref 17, .ref 65] (s_m62).2.2.1, [], s_hg g) v h') _ _ ⟨rfl, rfl⟩)
  intro v h' hr
  refine (show s_Fin 0 s_m62 (0, [some (.ref 17), some (.ref 65)], [], s_hg g) v h' from ?_)
  refine s_Fin.sg 52 (y := (99, [some (.ref 17), some (.ref 65)], [], s_hg (s_si (s_si (s_si (s_si (s_si (s_ci (s_ci (s_ci (s_ci g 66 18 0 0 70) 67 19 0 0 7) 68 20 0 0 4) 69 21 0 0 7) 17 5 (g.1 65 5)) 17 6 (g.1 65 6)) 17 7 (g.1 65 7)) 17 8 (g.1 65 8)) 17 9 (g.1 65 9)))) rfl ?_
  have hB := Option.some.inj hB
  subst hB
  obtain ⟨rfl, rfl⟩ := hr
  exact s_Fin.rt rfl rfl
-- CampAshes$State.copyFrom
noncomputable def fT_copyFrom_17_70 (g : s_G) : Option (s_G) :=
  some (s_si (s_si (s_si (s_si (s_si (s_ci (s_ci (s_ci (s_ci g 71 18 0 0 70) 72 19 0 0 7) 73 20 0 0 4) 74 21 0 0 7) 17 5 (g.1 70 5)) 17 6 (g.1 70 6)) 17 7 (g.1 70 7)) 17 8 (g.1 70 8)) 17 9 (g.1 70 9))
theorem fT_copyFrom_17_70_s {g : s_G} {z : s_G} (hB : fT_copyFrom_17_70 g = some z) : s_Ev 0 s_m62 [.ref 17, .ref 70] (s_hg g) (none) (s_hg z) := by
  unfold fT_copyFrom_17_70 at hB
  refine s_Ev.fin ((?_ : ∀ (v : Option Value) (h' : s_H), (fun (z : s_G) (v : Option Value) (h' : s_H) => v = none ∧ h' = s_hg z) z v h' → s_Fin 0 s_m62 (0, s_ent [.ref 17, .ref 70] (s_m62).2.2.1, [], s_hg g) v h') _ _ ⟨rfl, rfl⟩)
  intro v h' hr
  refine (show s_Fin 0 s_m62 (0, [some (.ref 17), some (.ref 70)], [], s_hg g) v h' from ?_)
  refine s_Fin.sg 52 (y := (99, [some (.ref 17), some (.ref 70)], [], s_hg (s_si (s_si (s_si (s_si (s_si (s_ci (s_ci (s_ci (s_ci g 71 18 0 0 70) 72 19 0 0 7) 73 20 0 0 4) 74 21 0 0 7) 17 5 (g.1 70 5)) 17 6 (g.1 70 6)) 17 7 (g.1 70 7)) 17 8 (g.1 70 8)) 17 9 (g.1 70 9)))) rfl ?_
  have hB := Option.some.inj hB
  subst hB
  obtain ⟨rfl, rfl⟩ := hr
  exact s_Fin.rt rfl rfl
-- CampAshes$State.copyFrom
noncomputable def fT_copyFrom_17_75 (g : s_G) : Option (s_G) :=
  some (s_si (s_si (s_si (s_si (s_si (s_ci (s_ci (s_ci (s_ci g 76 18 0 0 70) 77 19 0 0 7) 78 20 0 0 4) 79 21 0 0 7) 17 5 (g.1 75 5)) 17 6 (g.1 75 6)) 17 7 (g.1 75 7)) 17 8 (g.1 75 8)) 17 9 (g.1 75 9))
theorem fT_copyFrom_17_75_s {g : s_G} {z : s_G} (hB : fT_copyFrom_17_75 g = some z) : s_Ev 0 s_m62 [.ref 17, .ref 75] (s_hg g) (none) (s_hg z) := by
  unfold fT_copyFrom_17_75 at hB
  refine s_Ev.fin ((?_ : ∀ (v : Option Value) (h' : s_H), (fun (z : s_G) (v : Option Value) (h' : s_H) => v = none ∧ h' = s_hg z) z v h' → s_Fin 0 s_m62 (0, s_ent [.ref 17, .ref 75] (s_m62).2.2.1, [], s_hg g) v h') _ _ ⟨rfl, rfl⟩)
  intro v h' hr
  refine (show s_Fin 0 s_m62 (0, [some (.ref 17), some (.ref 75)], [], s_hg g) v h' from ?_)
  refine s_Fin.sg 52 (y := (99, [some (.ref 17), some (.ref 75)], [], s_hg (s_si (s_si (s_si (s_si (s_si (s_ci (s_ci (s_ci (s_ci g 76 18 0 0 70) 77 19 0 0 7) 78 20 0 0 4) 79 21 0 0 7) 17 5 (g.1 75 5)) 17 6 (g.1 75 6)) 17 7 (g.1 75 7)) 17 8 (g.1 75 8)) 17 9 (g.1 75 9)))) rfl ?_
  have hB := Option.some.inj hB
  subst hB
  obtain ⟨rfl, rfl⟩ := hr
  exact s_Fin.rt rfl rfl
-- CampAshes$State.copyFrom
noncomputable def fT_copyFrom_17_80 (g : s_G) : Option (s_G) :=
  some (s_si (s_si (s_si (s_si (s_si (s_ci (s_ci (s_ci (s_ci g 81 18 0 0 70) 82 19 0 0 7) 83 20 0 0 4) 84 21 0 0 7) 17 5 (g.1 80 5)) 17 6 (g.1 80 6)) 17 7 (g.1 80 7)) 17 8 (g.1 80 8)) 17 9 (g.1 80 9))
theorem fT_copyFrom_17_80_s {g : s_G} {z : s_G} (hB : fT_copyFrom_17_80 g = some z) : s_Ev 0 s_m62 [.ref 17, .ref 80] (s_hg g) (none) (s_hg z) := by
  unfold fT_copyFrom_17_80 at hB
  refine s_Ev.fin ((?_ : ∀ (v : Option Value) (h' : s_H), (fun (z : s_G) (v : Option Value) (h' : s_H) => v = none ∧ h' = s_hg z) z v h' → s_Fin 0 s_m62 (0, s_ent [.ref 17, .ref 80] (s_m62).2.2.1, [], s_hg g) v h') _ _ ⟨rfl, rfl⟩)
  intro v h' hr
  refine (show s_Fin 0 s_m62 (0, [some (.ref 17), some (.ref 80)], [], s_hg g) v h' from ?_)
  refine s_Fin.sg 52 (y := (99, [some (.ref 17), some (.ref 80)], [], s_hg (s_si (s_si (s_si (s_si (s_si (s_ci (s_ci (s_ci (s_ci g 81 18 0 0 70) 82 19 0 0 7) 83 20 0 0 4) 84 21 0 0 7) 17 5 (g.1 80 5)) 17 6 (g.1 80 6)) 17 7 (g.1 80 7)) 17 8 (g.1 80 8)) 17 9 (g.1 80 9)))) rfl ?_
  have hB := Option.some.inj hB
  subst hB
  obtain ⟨rfl, rfl⟩ := hr
  exact s_Fin.rt rfl rfl
-- CampAshes$History.takeBack
noncomputable def fH_takeBack_43_17 (g : s_G) : Option (Int32 × s_G) :=
  if (g.1 43 1) = 0 then (some ((-1 : Int32), g))
  else if ((((g.1 43 2) + (8 : Int32)) - (1 : Int32)) - (((g.1 43 2) + (8 : Int32)) - (1 : Int32)) / (8 : Int32) * (8 : Int32)) = 0 then (s_b1 (fT_copyFrom_17_45 (s_si (s_si g 43 1 ((g.1 43 1) - (1 : Int32))) 43 2 ((((g.1 43 2) + (8 : Int32)) - (1 : Int32)) - (((g.1 43 2) + (8 : Int32)) - (1 : Int32)) / (8 : Int32) * (8 : Int32)))) fun g1 => some (g1.1 43 1, g1))
  else if ((((g.1 43 2) + (8 : Int32)) - (1 : Int32)) - (((g.1 43 2) + (8 : Int32)) - (1 : Int32)) / (8 : Int32) * (8 : Int32)) = 1 then (s_b1 (fT_copyFrom_17_50 (s_si (s_si g 43 1 ((g.1 43 1) - (1 : Int32))) 43 2 ((((g.1 43 2) + (8 : Int32)) - (1 : Int32)) - (((g.1 43 2) + (8 : Int32)) - (1 : Int32)) / (8 : Int32) * (8 : Int32)))) fun g2 => some (g2.1 43 1, g2))
  else if ((((g.1 43 2) + (8 : Int32)) - (1 : Int32)) - (((g.1 43 2) + (8 : Int32)) - (1 : Int32)) / (8 : Int32) * (8 : Int32)) = 2 then (s_b1 (fT_copyFrom_17_55 (s_si (s_si g 43 1 ((g.1 43 1) - (1 : Int32))) 43 2 ((((g.1 43 2) + (8 : Int32)) - (1 : Int32)) - (((g.1 43 2) + (8 : Int32)) - (1 : Int32)) / (8 : Int32) * (8 : Int32)))) fun g3 => some (g3.1 43 1, g3))
  else if ((((g.1 43 2) + (8 : Int32)) - (1 : Int32)) - (((g.1 43 2) + (8 : Int32)) - (1 : Int32)) / (8 : Int32) * (8 : Int32)) = 3 then (s_b1 (fT_copyFrom_17_60 (s_si (s_si g 43 1 ((g.1 43 1) - (1 : Int32))) 43 2 ((((g.1 43 2) + (8 : Int32)) - (1 : Int32)) - (((g.1 43 2) + (8 : Int32)) - (1 : Int32)) / (8 : Int32) * (8 : Int32)))) fun g4 => some (g4.1 43 1, g4))
  else if ((((g.1 43 2) + (8 : Int32)) - (1 : Int32)) - (((g.1 43 2) + (8 : Int32)) - (1 : Int32)) / (8 : Int32) * (8 : Int32)) = 4 then (s_b1 (fT_copyFrom_17_65 (s_si (s_si g 43 1 ((g.1 43 1) - (1 : Int32))) 43 2 ((((g.1 43 2) + (8 : Int32)) - (1 : Int32)) - (((g.1 43 2) + (8 : Int32)) - (1 : Int32)) / (8 : Int32) * (8 : Int32)))) fun g5 => some (g5.1 43 1, g5))
  else if ((((g.1 43 2) + (8 : Int32)) - (1 : Int32)) - (((g.1 43 2) + (8 : Int32)) - (1 : Int32)) / (8 : Int32) * (8 : Int32)) = 5 then (s_b1 (fT_copyFrom_17_70 (s_si (s_si g 43 1 ((g.1 43 1) - (1 : Int32))) 43 2 ((((g.1 43 2) + (8 : Int32)) - (1 : Int32)) - (((g.1 43 2) + (8 : Int32)) - (1 : Int32)) / (8 : Int32) * (8 : Int32)))) fun g6 => some (g6.1 43 1, g6))
  else if ((((g.1 43 2) + (8 : Int32)) - (1 : Int32)) - (((g.1 43 2) + (8 : Int32)) - (1 : Int32)) / (8 : Int32) * (8 : Int32)) = 6 then (s_b1 (fT_copyFrom_17_75 (s_si (s_si g 43 1 ((g.1 43 1) - (1 : Int32))) 43 2 ((((g.1 43 2) + (8 : Int32)) - (1 : Int32)) - (((g.1 43 2) + (8 : Int32)) - (1 : Int32)) / (8 : Int32) * (8 : Int32)))) fun g7 => some (g7.1 43 1, g7))
  else if ((((g.1 43 2) + (8 : Int32)) - (1 : Int32)) - (((g.1 43 2) + (8 : Int32)) - (1 : Int32)) / (8 : Int32) * (8 : Int32)) = 7 then (s_b1 (fT_copyFrom_17_80 (s_si (s_si g 43 1 ((g.1 43 1) - (1 : Int32))) 43 2 ((((g.1 43 2) + (8 : Int32)) - (1 : Int32)) - (((g.1 43 2) + (8 : Int32)) - (1 : Int32)) / (8 : Int32) * (8 : Int32)))) fun g8 => some (g8.1 43 1, g8))
  else none
theorem fH_takeBack_43_17_s {g : s_G} {z : Int32 × s_G} (hB : fH_takeBack_43_17 g = some z) : s_Ev 1 s_m83 [.ref 43, .ref 17] (s_hg g) (some (.int z.1)) (s_hg z.2) := by
  unfold fH_takeBack_43_17 at hB
  refine s_Ev.fin ((?_ : ∀ (v : Option Value) (h' : s_H), (fun (z : Int32 × s_G) (v : Option Value) (h' : s_H) => v = some (.int z.1) ∧ h' = s_hg z.2) z v h' → s_Fin 1 s_m83 (0, s_ent [.ref 43, .ref 17] (s_m83).2.2.1, [], s_hg g) v h') _ _ ⟨rfl, rfl⟩)
  intro v h' hr
  refine (show s_Fin 1 s_m83 (0, [some (.ref 43), some (.ref 17)], [], s_hg g) v h' from ?_)
  refine s_Fin.sg 2 (y := (4, [some (.ref 43), some (.ref 17)], [.int (g.1 43 1)], s_hg g)) rfl ?_
  by_cases hc : (g.1 43 1) = 0
  · rw [if_pos hc] at hB
    refine s_Fin.bf (c := ¬ (g.1 43 1) = 0) (tg := 9) (p2 := 4) (L1 := [some (.ref 43), some (.ref 17)]) (st1 := []) (fun h => h hc) rfl ?_
    refine s_Fin.sg 1 (y := (8, [some (.ref 43), some (.ref 17)], [.int (-1 : Int32)], s_hg g)) rfl ?_
    have hB := Option.some.inj hB
    subst hB
    obtain ⟨rfl, rfl⟩ := hr
    exact s_Fin.rt rfl rfl
  · rw [if_neg hc] at hB
    refine s_Fin.bt (c := ¬ (g.1 43 1) = 0) (tg := 9) (p2 := 4) (L1 := [some (.ref 43), some (.ref 17)]) (st1 := []) hc rfl ?_
    refine s_Fin.sg 21 (y := (44, [some (.ref 43), some (.ref 17)], [.int ((((g.1 43 2) + (8 : Int32)) - (1 : Int32)) - (((g.1 43 2) + (8 : Int32)) - (1 : Int32)) / (8 : Int32) * (8 : Int32)), .ref 44, .ref 17], s_hg (s_si (s_si g 43 1 ((g.1 43 1) - (1 : Int32))) 43 2 ((((g.1 43 2) + (8 : Int32)) - (1 : Int32)) - (((g.1 43 2) + (8 : Int32)) - (1 : Int32)) / (8 : Int32) * (8 : Int32))))) rfl ?_
    by_cases hc : ((((g.1 43 2) + (8 : Int32)) - (1 : Int32)) - (((g.1 43 2) + (8 : Int32)) - (1 : Int32)) / (8 : Int32) * (8 : Int32)) = 0
    · rw [if_pos hc] at hB
      refine s_Fin.nx (pc1 := 45) (L1 := [some (.ref 43), some (.ref 17)]) (st1 := [.ref 45, .ref 17]) (h1 := s_hg (s_si (s_si g 43 1 ((g.1 43 1) - (1 : Int32))) 43 2 ((((g.1 43 2) + (8 : Int32)) - (1 : Int32)) - (((g.1 43 2) + (8 : Int32)) - (1 : Int32)) / (8 : Int32) * (8 : Int32)))) (by rw [hc]; exact rfl) rfl ?_
      obtain ⟨g1, hp, hB⟩ := s_bd hB
      refine s_Fin.cl (d := 0) (q1 := s_m62) (md := 62) (vs := [.ref 17, .ref 45]) (rest := []) (h1 := s_hg g1) (u := none) (s_Ev.up (by omega) (fT_copyFrom_17_45_s hp)) rfl rfl rfl rfl ?_
      refine s_Fin.sg 2 (y := (52, [some (.ref 43), some (.ref 17)], [.int (g1.1 43 1)], s_hg g1)) rfl ?_
      have hB := Option.some.inj hB
      subst hB
      obtain ⟨rfl, rfl⟩ := hr
      exact s_Fin.rt rfl rfl
    rw [if_neg hc] at hB
    by_cases hc : ((((g.1 43 2) + (8 : Int32)) - (1 : Int32)) - (((g.1 43 2) + (8 : Int32)) - (1 : Int32)) / (8 : Int32) * (8 : Int32)) = 1
    · rw [if_pos hc] at hB
      refine s_Fin.nx (pc1 := 45) (L1 := [some (.ref 43), some (.ref 17)]) (st1 := [.ref 50, .ref 17]) (h1 := s_hg (s_si (s_si g 43 1 ((g.1 43 1) - (1 : Int32))) 43 2 ((((g.1 43 2) + (8 : Int32)) - (1 : Int32)) - (((g.1 43 2) + (8 : Int32)) - (1 : Int32)) / (8 : Int32) * (8 : Int32)))) (by rw [hc]; exact rfl) rfl ?_
      obtain ⟨g2, hp, hB⟩ := s_bd hB
      refine s_Fin.cl (d := 0) (q1 := s_m62) (md := 62) (vs := [.ref 17, .ref 50]) (rest := []) (h1 := s_hg g2) (u := none) (s_Ev.up (by omega) (fT_copyFrom_17_50_s hp)) rfl rfl rfl rfl ?_
      refine s_Fin.sg 2 (y := (52, [some (.ref 43), some (.ref 17)], [.int (g2.1 43 1)], s_hg g2)) rfl ?_
      have hB := Option.some.inj hB
      subst hB
      obtain ⟨rfl, rfl⟩ := hr
      exact s_Fin.rt rfl rfl
    rw [if_neg hc] at hB
    by_cases hc : ((((g.1 43 2) + (8 : Int32)) - (1 : Int32)) - (((g.1 43 2) + (8 : Int32)) - (1 : Int32)) / (8 : Int32) * (8 : Int32)) = 2
    · rw [if_pos hc] at hB
      refine s_Fin.nx (pc1 := 45) (L1 := [some (.ref 43), some (.ref 17)]) (st1 := [.ref 55, .ref 17]) (h1 := s_hg (s_si (s_si g 43 1 ((g.1 43 1) - (1 : Int32))) 43 2 ((((g.1 43 2) + (8 : Int32)) - (1 : Int32)) - (((g.1 43 2) + (8 : Int32)) - (1 : Int32)) / (8 : Int32) * (8 : Int32)))) (by rw [hc]; exact rfl) rfl ?_
      obtain ⟨g3, hp, hB⟩ := s_bd hB
      refine s_Fin.cl (d := 0) (q1 := s_m62) (md := 62) (vs := [.ref 17, .ref 55]) (rest := []) (h1 := s_hg g3) (u := none) (s_Ev.up (by omega) (fT_copyFrom_17_55_s hp)) rfl rfl rfl rfl ?_
      refine s_Fin.sg 2 (y := (52, [some (.ref 43), some (.ref 17)], [.int (g3.1 43 1)], s_hg g3)) rfl ?_
      have hB := Option.some.inj hB
      subst hB
      obtain ⟨rfl, rfl⟩ := hr
      exact s_Fin.rt rfl rfl
    rw [if_neg hc] at hB
    by_cases hc : ((((g.1 43 2) + (8 : Int32)) - (1 : Int32)) - (((g.1 43 2) + (8 : Int32)) - (1 : Int32)) / (8 : Int32) * (8 : Int32)) = 3
    · rw [if_pos hc] at hB
      refine s_Fin.nx (pc1 := 45) (L1 := [some (.ref 43), some (.ref 17)]) (st1 := [.ref 60, .ref 17]) (h1 := s_hg (s_si (s_si g 43 1 ((g.1 43 1) - (1 : Int32))) 43 2 ((((g.1 43 2) + (8 : Int32)) - (1 : Int32)) - (((g.1 43 2) + (8 : Int32)) - (1 : Int32)) / (8 : Int32) * (8 : Int32)))) (by rw [hc]; exact rfl) rfl ?_
      obtain ⟨g4, hp, hB⟩ := s_bd hB
      refine s_Fin.cl (d := 0) (q1 := s_m62) (md := 62) (vs := [.ref 17, .ref 60]) (rest := []) (h1 := s_hg g4) (u := none) (s_Ev.up (by omega) (fT_copyFrom_17_60_s hp)) rfl rfl rfl rfl ?_
      refine s_Fin.sg 2 (y := (52, [some (.ref 43), some (.ref 17)], [.int (g4.1 43 1)], s_hg g4)) rfl ?_
      have hB := Option.some.inj hB
      subst hB
      obtain ⟨rfl, rfl⟩ := hr
      exact s_Fin.rt rfl rfl
    rw [if_neg hc] at hB
    by_cases hc : ((((g.1 43 2) + (8 : Int32)) - (1 : Int32)) - (((g.1 43 2) + (8 : Int32)) - (1 : Int32)) / (8 : Int32) * (8 : Int32)) = 4
    · rw [if_pos hc] at hB
      refine s_Fin.nx (pc1 := 45) (L1 := [some (.ref 43), some (.ref 17)]) (st1 := [.ref 65, .ref 17]) (h1 := s_hg (s_si (s_si g 43 1 ((g.1 43 1) - (1 : Int32))) 43 2 ((((g.1 43 2) + (8 : Int32)) - (1 : Int32)) - (((g.1 43 2) + (8 : Int32)) - (1 : Int32)) / (8 : Int32) * (8 : Int32)))) (by rw [hc]; exact rfl) rfl ?_
      obtain ⟨g5, hp, hB⟩ := s_bd hB
      refine s_Fin.cl (d := 0) (q1 := s_m62) (md := 62) (vs := [.ref 17, .ref 65]) (rest := []) (h1 := s_hg g5) (u := none) (s_Ev.up (by omega) (fT_copyFrom_17_65_s hp)) rfl rfl rfl rfl ?_
      refine s_Fin.sg 2 (y := (52, [some (.ref 43), some (.ref 17)], [.int (g5.1 43 1)], s_hg g5)) rfl ?_
      have hB := Option.some.inj hB
      subst hB
      obtain ⟨rfl, rfl⟩ := hr
      exact s_Fin.rt rfl rfl
    rw [if_neg hc] at hB
    by_cases hc : ((((g.1 43 2) + (8 : Int32)) - (1 : Int32)) - (((g.1 43 2) + (8 : Int32)) - (1 : Int32)) / (8 : Int32) * (8 : Int32)) = 5
    · rw [if_pos hc] at hB
      refine s_Fin.nx (pc1 := 45) (L1 := [some (.ref 43), some (.ref 17)]) (st1 := [.ref 70, .ref 17]) (h1 := s_hg (s_si (s_si g 43 1 ((g.1 43 1) - (1 : Int32))) 43 2 ((((g.1 43 2) + (8 : Int32)) - (1 : Int32)) - (((g.1 43 2) + (8 : Int32)) - (1 : Int32)) / (8 : Int32) * (8 : Int32)))) (by rw [hc]; exact rfl) rfl ?_
      obtain ⟨g6, hp, hB⟩ := s_bd hB
      refine s_Fin.cl (d := 0) (q1 := s_m62) (md := 62) (vs := [.ref 17, .ref 70]) (rest := []) (h1 := s_hg g6) (u := none) (s_Ev.up (by omega) (fT_copyFrom_17_70_s hp)) rfl rfl rfl rfl ?_
      refine s_Fin.sg 2 (y := (52, [some (.ref 43), some (.ref 17)], [.int (g6.1 43 1)], s_hg g6)) rfl ?_
      have hB := Option.some.inj hB
      subst hB
      obtain ⟨rfl, rfl⟩ := hr
      exact s_Fin.rt rfl rfl
    rw [if_neg hc] at hB
    by_cases hc : ((((g.1 43 2) + (8 : Int32)) - (1 : Int32)) - (((g.1 43 2) + (8 : Int32)) - (1 : Int32)) / (8 : Int32) * (8 : Int32)) = 6
    · rw [if_pos hc] at hB
      refine s_Fin.nx (pc1 := 45) (L1 := [some (.ref 43), some (.ref 17)]) (st1 := [.ref 75, .ref 17]) (h1 := s_hg (s_si (s_si g 43 1 ((g.1 43 1) - (1 : Int32))) 43 2 ((((g.1 43 2) + (8 : Int32)) - (1 : Int32)) - (((g.1 43 2) + (8 : Int32)) - (1 : Int32)) / (8 : Int32) * (8 : Int32)))) (by rw [hc]; exact rfl) rfl ?_
      obtain ⟨g7, hp, hB⟩ := s_bd hB
      refine s_Fin.cl (d := 0) (q1 := s_m62) (md := 62) (vs := [.ref 17, .ref 75]) (rest := []) (h1 := s_hg g7) (u := none) (s_Ev.up (by omega) (fT_copyFrom_17_75_s hp)) rfl rfl rfl rfl ?_
      refine s_Fin.sg 2 (y := (52, [some (.ref 43), some (.ref 17)], [.int (g7.1 43 1)], s_hg g7)) rfl ?_
      have hB := Option.some.inj hB
      subst hB
      obtain ⟨rfl, rfl⟩ := hr
      exact s_Fin.rt rfl rfl
    rw [if_neg hc] at hB
    by_cases hc : ((((g.1 43 2) + (8 : Int32)) - (1 : Int32)) - (((g.1 43 2) + (8 : Int32)) - (1 : Int32)) / (8 : Int32) * (8 : Int32)) = 7
    · rw [if_pos hc] at hB
      refine s_Fin.nx (pc1 := 45) (L1 := [some (.ref 43), some (.ref 17)]) (st1 := [.ref 80, .ref 17]) (h1 := s_hg (s_si (s_si g 43 1 ((g.1 43 1) - (1 : Int32))) 43 2 ((((g.1 43 2) + (8 : Int32)) - (1 : Int32)) - (((g.1 43 2) + (8 : Int32)) - (1 : Int32)) / (8 : Int32) * (8 : Int32)))) (by rw [hc]; exact rfl) rfl ?_
      obtain ⟨g8, hp, hB⟩ := s_bd hB
      refine s_Fin.cl (d := 0) (q1 := s_m62) (md := 62) (vs := [.ref 17, .ref 80]) (rest := []) (h1 := s_hg g8) (u := none) (s_Ev.up (by omega) (fT_copyFrom_17_80_s hp)) rfl rfl rfl rfl ?_
      refine s_Fin.sg 2 (y := (52, [some (.ref 43), some (.ref 17)], [.int (g8.1 43 1)], s_hg g8)) rfl ?_
      have hB := Option.some.inj hB
      subst hB
      obtain ⟨rfl, rfl⟩ := hr
      exact s_Fin.rt rfl rfl
    rw [if_neg hc] at hB
    cases hB
-- CampAshes.undo
noncomputable def fC_undo_0 (g : s_G) : Option (Int32 × s_G) :=
  s_b2 (fH_takeBack_43_17 g) fun v2 g1 => some (v2, g1)
theorem fC_undo_0_s {g : s_G} {z : Int32 × s_G} (hB : fC_undo_0 g = some z) : s_Ev 2 s_m82 [.ref 0] (s_hg g) (some (.int z.1)) (s_hg z.2) := by
  unfold fC_undo_0 at hB
  refine s_Ev.fin ((?_ : ∀ (v : Option Value) (h' : s_H), (fun (z : Int32 × s_G) (v : Option Value) (h' : s_H) => v = some (.int z.1) ∧ h' = s_hg z.2) z v h' → s_Fin 2 s_m82 (0, s_ent [.ref 0] (s_m82).2.2.1, [], s_hg g) v h') _ _ ⟨rfl, rfl⟩)
  intro v h' hr
  refine (show s_Fin 2 s_m82 (0, [some (.ref 0)], [], s_hg g) v h' from ?_)
  refine s_Fin.sg 4 (y := (8, [some (.ref 0)], [.ref 17, .ref 43], s_hg g)) rfl ?_
  obtain ⟨v2, g1, hp, hB⟩ := s_bd2 hB
  refine s_Fin.cl (d := 1) (q1 := s_m83) (md := 83) (vs := [.ref 43, .ref 17]) (rest := []) (h1 := s_hg g1) (u := some (.int v2)) (s_Ev.up (by omega) (fH_takeBack_43_17_s hp)) rfl rfl rfl rfl ?_
  have hB := Option.some.inj hB
  subst hB
  obtain ⟨rfl, rfl⟩ := hr
  exact s_Fin.rt rfl rfl
-- CampAshesModel.mostOf
noncomputable def fM_mostOf_130_4 (x1 : Int32) (x2 : Int32) (x3 : Int32) (g : s_G) : Option ((Int32 × Int32) ⊕ (Int32)) :=
  if x3 < (g.1 132 1) then (s_b1 (fM_onOf_130 x1 x3 g) fun v1 => if x2 = (-1 : Int32) then (if (0 : Int32) < v1 then (some (.inl (x3, x3 + (1 : Int32))))
  else some (.inl (x2, x3 + (1 : Int32))))
  else s_b1 (fM_onOf_130 x1 x2 g) fun v2 => if v2 < v1 then (some (.inl (x3, x3 + (1 : Int32))))
  else some (.inl (x2, x3 + (1 : Int32))))
  else s_in (some x2)
theorem fM_mostOf_130_4_s {x1 : Int32} {x2 : Int32} {x3 : Int32} {g : s_G} {z : (Int32 × Int32) ⊕ (Int32)} (hB : fM_mostOf_130_4 x1 x2 x3 g = some z) {v : Option Value} {h' : s_H} (hr : (s_sm (fun (x : Int32 × Int32) (v : Option Value) (h' : s_H) => s_Fin 1 s_m229 (4, [some (.ref 130), some (.int x1), some (.int x.1), some (.int x.2)], [], s_hg g) v h') (fun (z : Int32) (v : Option Value) (h' : s_H) => v = some (.int z) ∧ h' = s_hg g)) z v h') : s_Fin 1 s_m229 (4, [some (.ref 130), some (.int x1), some (.int x2), some (.int x3)], [], s_hg g) v h' := by
  unfold fM_mostOf_130_4 at hB
  refine s_Fin.sg 5 (y := (11, [some (.ref 130), some (.int x1), some (.int x2), some (.int x3)], [.int (g.1 132 1), .int x3], s_hg g)) rfl ?_
  by_cases hc : x3 < (g.1 132 1)
  · rw [if_pos hc] at hB
    refine s_Fin.bf (c := (g.1 132 1) ≤ x3) (tg := 46) (p2 := 11) (L1 := [some (.ref 130), some (.int x1), some (.int x2), some (.int x3)]) (st1 := []) (Int32.not_le.mpr hc) rfl ?_
    refine s_Fin.sg 3 (y := (17, [some (.ref 130), some (.int x1), some (.int x2), some (.int x3)], [.int x3, .int x1, .ref 130], s_hg g)) rfl ?_
    obtain ⟨v1, hp, hB⟩ := s_bd hB
    refine s_Fin.cl (d := 0) (q1 := s_m199) (md := 199) (vs := [.ref 130, .int x1, .int x3]) (rest := []) (h1 := s_hg g) (u := some (.int v1)) (s_Ev.up (by omega) (fM_onOf_130_s hp)) rfl rfl rfl rfl ?_
    refine s_Fin.sg 2 (y := (22, [some (.ref 130), some (.int x1), some (.int x2), some (.int x3)], [.int (-1 : Int32), .int x2, .int v1], s_hg g)) rfl ?_
    by_cases hc : x2 = (-1 : Int32)
    · rw [if_pos hc] at hB
      refine s_Fin.bf (c := ¬ x2 = (-1 : Int32)) (tg := 29) (p2 := 22) (L1 := [some (.ref 130), some (.int x1), some (.int x2), some (.int x3)]) (st1 := [.int v1]) (fun h => h hc) rfl ?_
      refine s_Fin.sg 2 (y := (35, [some (.ref 130), some (.int x1), some (.int x2), some (.int x3)], [.int (0 : Int32), .int v1], s_hg g)) rfl ?_
      by_cases hc : (0 : Int32) < v1
      · rw [if_pos hc] at hB
        refine s_Fin.bf (c := v1 ≤ (0 : Int32)) (tg := 40) (p2 := 35) (L1 := [some (.ref 130), some (.int x1), some (.int x2), some (.int x3)]) (st1 := []) (Int32.not_le.mpr hc) rfl ?_
        refine s_Fin.sg 4 (y := (4, [some (.ref 130), some (.int x1), some (.int x3), some (.int (x3 + (1 : Int32)))], [], s_hg g)) rfl ?_
        have hB := Option.some.inj hB
        subst hB
        exact s_Fin.more (L := [some (.ref 130), some (.int x1), some (.int x3), some (.int (x3 + (1 : Int32)))]) ⟨Or.inr rfl, Or.inr rfl, Or.inr rfl, Or.inr rfl, trivial⟩ hr
      · rw [if_neg hc] at hB
        refine s_Fin.bt (c := v1 ≤ (0 : Int32)) (tg := 40) (p2 := 35) (L1 := [some (.ref 130), some (.int x1), some (.int x2), some (.int x3)]) (st1 := []) (Int32.not_lt.mp hc) rfl ?_
        refine s_Fin.sg 2 (y := (4, [some (.ref 130), some (.int x1), some (.int x2), some (.int (x3 + (1 : Int32)))], [], s_hg g)) rfl ?_
        have hB := Option.some.inj hB
        subst hB
        exact s_Fin.more (L := [some (.ref 130), some (.int x1), some (.int x2), some (.int (x3 + (1 : Int32)))]) ⟨Or.inr rfl, Or.inr rfl, Or.inr rfl, Or.inr rfl, trivial⟩ hr
    · rw [if_neg hc] at hB
      refine s_Fin.bt (c := ¬ x2 = (-1 : Int32)) (tg := 29) (p2 := 22) (L1 := [some (.ref 130), some (.int x1), some (.int x2), some (.int x3)]) (st1 := [.int v1]) hc rfl ?_
      refine s_Fin.sg 3 (y := (32, [some (.ref 130), some (.int x1), some (.int x2), some (.int x3)], [.int x2, .int x1, .ref 130, .int v1], s_hg g)) rfl ?_
      obtain ⟨v2, hp, hB⟩ := s_bd hB
      refine s_Fin.cl (d := 0) (q1 := s_m199) (md := 199) (vs := [.ref 130, .int x1, .int x2]) (rest := [.int v1]) (h1 := s_hg g) (u := some (.int v2)) (s_Ev.up (by omega) (fM_onOf_130_s hp)) rfl rfl rfl rfl ?_
      by_cases hc : v2 < v1
      · rw [if_pos hc] at hB
        refine s_Fin.bf (c := v1 ≤ v2) (tg := 40) (p2 := 35) (L1 := [some (.ref 130), some (.int x1), some (.int x2), some (.int x3)]) (st1 := []) (Int32.not_le.mpr hc) rfl ?_
        refine s_Fin.sg 4 (y := (4, [some (.ref 130), some (.int x1), some (.int x3), some (.int (x3 + (1 : Int32)))], [], s_hg g)) rfl ?_
        have hB := Option.some.inj hB
        subst hB
        exact s_Fin.more (L := [some (.ref 130), some (.int x1), some (.int x3), some (.int (x3 + (1 : Int32)))]) ⟨Or.inr rfl, Or.inr rfl, Or.inr rfl, Or.inr rfl, trivial⟩ hr
      · rw [if_neg hc] at hB
        refine s_Fin.bt (c := v1 ≤ v2) (tg := 40) (p2 := 35) (L1 := [some (.ref 130), some (.int x1), some (.int x2), some (.int x3)]) (st1 := []) (Int32.not_lt.mp hc) rfl ?_
        refine s_Fin.sg 2 (y := (4, [some (.ref 130), some (.int x1), some (.int x2), some (.int (x3 + (1 : Int32)))], [], s_hg g)) rfl ?_
        have hB := Option.some.inj hB
        subst hB
        exact s_Fin.more (L := [some (.ref 130), some (.int x1), some (.int x2), some (.int (x3 + (1 : Int32)))]) ⟨Or.inr rfl, Or.inr rfl, Or.inr rfl, Or.inr rfl, trivial⟩ hr
  · rw [if_neg hc] at hB
    refine s_Fin.bt (c := (g.1 132 1) ≤ x3) (tg := 46) (p2 := 11) (L1 := [some (.ref 130), some (.int x1), some (.int x2), some (.int x3)]) (st1 := []) (Int32.not_lt.mp hc) rfl ?_
    obtain ⟨_, hN, hz⟩ := s_in_of hB
    subst hz
    have hB := hN
    refine s_Fin.sg 1 (y := (47, [some (.ref 130), some (.int x1), some (.int x2), some (.int x3)], [.int x2], s_hg g)) rfl ?_
    have hB := Option.some.inj hB
    subst hB
    obtain ⟨rfl, rfl⟩ := hr
    exact s_Fin.rt rfl rfl
noncomputable def fM_mostOf_130 (x1 : Int32) (g : s_G) : Option (Int32) :=
  s_lp (fun x => fM_mostOf_130_4 x1 x.1 x.2 g) ((-1 : Int32), (0 : Int32))
theorem fM_mostOf_130_s {x1 : Int32} {g : s_G} {z : Int32} (hB : fM_mostOf_130 x1 g = some z) : s_Ev 1 s_m229 [.ref 130, .int x1] (s_hg g) (some (.int z)) (s_hg g) := by
  unfold fM_mostOf_130 at hB
  refine s_Ev.fin ((?_ : ∀ (v : Option Value) (h' : s_H), (fun (z : Int32) (v : Option Value) (h' : s_H) => v = some (.int z) ∧ h' = s_hg g) z v h' → s_Fin 1 s_m229 (0, s_ent [.ref 130, .int x1] (s_m229).2.2.1, [], s_hg g) v h') _ _ ⟨rfl, rfl⟩)
  intro v h' hr
  refine (show s_Fin 1 s_m229 (0, [some (.ref 130), some (.int x1), none, none], [], s_hg g) v h' from ?_)
  refine s_Fin.sg 4 (y := (4, [some (.ref 130), some (.int x1), some (.int (-1 : Int32)), some (.int (0 : Int32))], [], s_hg g)) rfl ?_
  exact s_Fin.more (L := [some (.ref 130), some (.int x1), some (.int (-1 : Int32)), some (.int (0 : Int32))]) ⟨Or.inr rfl, Or.inr rfl, Or.inr rfl, Or.inr rfl, trivial⟩ (s_lp_s (P := (fun (x : Int32 × Int32) (v : Option Value) (h' : s_H) => s_Fin 1 s_m229 (4, [some (.ref 130), some (.int x1), some (.int x.1), some (.int x.2)], [], s_hg g) v h')) (Q := (fun (z : Int32) (v : Option Value) (h' : s_H) => v = some (.int z) ∧ h' = s_hg g)) (fun x z hB v h' hr => fM_mostOf_130_4_s hB hr) hB _ _ hr)
-- CampAshesModel.tellers
noncomputable def fM_tellers_130_4 (x1 : Int32) (x2 : Int32) (g : s_G) : Option ((Int32 × Int32) ⊕ (Int32)) :=
  if x2 < (g.1 132 0) then (s_b1 (fM_mostOf_130 x2 g) fun v1 => if v1 = (-1 : Int32) then (some (.inl (x1, x2 + (1 : Int32))))
  else s_b1 (fM_isHushed_130 x2 g) fun v2 => if v2 = 0 then (some (.inl (x1 ||| ((1 : Int32) <<< (x2 &&& 31)), x2 + (1 : Int32))))
  else some (.inl (x1, x2 + (1 : Int32))))
  else s_in (s_b1 (fM_isWet_130 g) fun v3 => if v3 = 0 then (if (g.1 132 48) = 0 then (some (0 : Int32))
  else some x1)
  else some (0 : Int32))
theorem fM_tellers_130_4_s {x1 : Int32} {x2 : Int32} {g : s_G} {z : (Int32 × Int32) ⊕ (Int32)} (hB : fM_tellers_130_4 x1 x2 g = some z) {v : Option Value} {h' : s_H} (hr : (s_sm (fun (x : Int32 × Int32) (v : Option Value) (h' : s_H) => s_Fin 2 s_m228 (4, [some (.ref 130), some (.int x.1), some (.int x.2)], [], s_hg g) v h') (fun (z : Int32) (v : Option Value) (h' : s_H) => v = some (.int z) ∧ h' = s_hg g)) z v h') : s_Fin 2 s_m228 (4, [some (.ref 130), some (.int x1), some (.int x2)], [], s_hg g) v h' := by
  unfold fM_tellers_130_4 at hB
  refine s_Fin.sg 5 (y := (11, [some (.ref 130), some (.int x1), some (.int x2)], [.int (g.1 132 0), .int x2], s_hg g)) rfl ?_
  by_cases hc : x2 < (g.1 132 0)
  · rw [if_pos hc] at hB
    refine s_Fin.bf (c := (g.1 132 0) ≤ x2) (tg := 43) (p2 := 11) (L1 := [some (.ref 130), some (.int x1), some (.int x2)]) (st1 := []) (Int32.not_le.mpr hc) rfl ?_
    refine s_Fin.sg 2 (y := (16, [some (.ref 130), some (.int x1), some (.int x2)], [.int x2, .ref 130], s_hg g)) rfl ?_
    obtain ⟨v1, hp, hB⟩ := s_bd hB
    refine s_Fin.cl (d := 1) (q1 := s_m229) (md := 229) (vs := [.ref 130, .int x2]) (rest := []) (h1 := s_hg g) (u := some (.int v1)) (s_Ev.up (by omega) (fM_mostOf_130_s hp)) rfl rfl rfl rfl ?_
    refine s_Fin.sg 1 (y := (20, [some (.ref 130), some (.int x1), some (.int x2)], [.int (-1 : Int32), .int v1], s_hg g)) rfl ?_
    by_cases hc : v1 = (-1 : Int32)
    · rw [if_pos hc] at hB
      refine s_Fin.bt (c := v1 = (-1 : Int32)) (tg := 37) (p2 := 20) (L1 := [some (.ref 130), some (.int x1), some (.int x2)]) (st1 := []) hc rfl ?_
      refine s_Fin.sg 2 (y := (4, [some (.ref 130), some (.int x1), some (.int (x2 + (1 : Int32)))], [], s_hg g)) rfl ?_
      have hB := Option.some.inj hB
      subst hB
      exact s_Fin.more (L := [some (.ref 130), some (.int x1), some (.int (x2 + (1 : Int32)))]) ⟨Or.inr rfl, Or.inr rfl, Or.inr rfl, trivial⟩ hr
    · rw [if_neg hc] at hB
      refine s_Fin.bf (c := v1 = (-1 : Int32)) (tg := 37) (p2 := 20) (L1 := [some (.ref 130), some (.int x1), some (.int x2)]) (st1 := []) hc rfl ?_
      refine s_Fin.sg 2 (y := (25, [some (.ref 130), some (.int x1), some (.int x2)], [.int x2, .ref 130], s_hg g)) rfl ?_
      obtain ⟨v2, hp, hB⟩ := s_bd hB
      refine s_Fin.cl (d := 1) (q1 := s_m197) (md := 197) (vs := [.ref 130, .int x2]) (rest := []) (h1 := s_hg g) (u := some (.int v2)) (s_Ev.up (by omega) (fM_isHushed_130_s hp)) rfl rfl rfl rfl ?_
      by_cases hc : v2 = 0
      · rw [if_pos hc] at hB
        refine s_Fin.bf (c := ¬ v2 = 0) (tg := 37) (p2 := 28) (L1 := [some (.ref 130), some (.int x1), some (.int x2)]) (st1 := []) (fun h => h hc) rfl ?_
        refine s_Fin.sg 8 (y := (4, [some (.ref 130), some (.int (x1 ||| ((1 : Int32) <<< (x2 &&& 31)))), some (.int (x2 + (1 : Int32)))], [], s_hg g)) rfl ?_
        have hB := Option.some.inj hB
        subst hB
        exact s_Fin.more (L := [some (.ref 130), some (.int (x1 ||| ((1 : Int32) <<< (x2 &&& 31)))), some (.int (x2 + (1 : Int32)))]) ⟨Or.inr rfl, Or.inr rfl, Or.inr rfl, trivial⟩ hr
      · rw [if_neg hc] at hB
        refine s_Fin.bt (c := ¬ v2 = 0) (tg := 37) (p2 := 28) (L1 := [some (.ref 130), some (.int x1), some (.int x2)]) (st1 := []) hc rfl ?_
        refine s_Fin.sg 2 (y := (4, [some (.ref 130), some (.int x1), some (.int (x2 + (1 : Int32)))], [], s_hg g)) rfl ?_
        have hB := Option.some.inj hB
        subst hB
        exact s_Fin.more (L := [some (.ref 130), some (.int x1), some (.int (x2 + (1 : Int32)))]) ⟨Or.inr rfl, Or.inr rfl, Or.inr rfl, trivial⟩ hr
  · rw [if_neg hc] at hB
    refine s_Fin.bt (c := (g.1 132 0) ≤ x2) (tg := 43) (p2 := 11) (L1 := [some (.ref 130), some (.int x1), some (.int x2)]) (st1 := []) (Int32.not_lt.mp hc) rfl ?_
    obtain ⟨_, hN, hz⟩ := s_in_of hB
    subst hz
    have hB := hN
    refine s_Fin.sg 1 (y := (44, [some (.ref 130), some (.int x1), some (.int x2)], [.ref 130], s_hg g)) rfl ?_
    obtain ⟨v3, hp, hB⟩ := s_bd hB
    refine s_Fin.cl (d := 1) (q1 := s_m208) (md := 208) (vs := [.ref 130]) (rest := []) (h1 := s_hg g) (u := some (.int v3)) (s_Ev.up (by omega) (fM_isWet_130_s hp)) rfl rfl rfl rfl ?_
    by_cases hc : v3 = 0
    · rw [if_pos hc] at hB
      refine s_Fin.bf (c := ¬ v3 = 0) (tg := 60) (p2 := 47) (L1 := [some (.ref 130), some (.int x1), some (.int x2)]) (st1 := []) (fun h => h hc) rfl ?_
      refine s_Fin.sg 4 (y := (57, [some (.ref 130), some (.int x1), some (.int x2)], [.int (g.1 132 48)], s_hg g)) rfl ?_
      by_cases hc : (g.1 132 48) = 0
      · rw [if_pos hc] at hB
        refine s_Fin.bf (c := ¬ (g.1 132 48) = 0) (tg := 64) (p2 := 57) (L1 := [some (.ref 130), some (.int x1), some (.int x2)]) (st1 := []) (fun h => h hc) rfl ?_
        refine s_Fin.sg 2 (y := (65, [some (.ref 130), some (.int x1), some (.int x2)], [.int (0 : Int32)], s_hg g)) rfl ?_
        have hB := Option.some.inj hB
        subst hB
        obtain ⟨rfl, rfl⟩ := hr
        exact s_Fin.rt rfl rfl
      · rw [if_neg hc] at hB
        refine s_Fin.bt (c := ¬ (g.1 132 48) = 0) (tg := 64) (p2 := 57) (L1 := [some (.ref 130), some (.int x1), some (.int x2)]) (st1 := []) hc rfl ?_
        refine s_Fin.sg 1 (y := (65, [some (.ref 130), some (.int x1), some (.int x2)], [.int x1], s_hg g)) rfl ?_
        have hB := Option.some.inj hB
        subst hB
        obtain ⟨rfl, rfl⟩ := hr
        exact s_Fin.rt rfl rfl
    · rw [if_neg hc] at hB
      refine s_Fin.bt (c := ¬ v3 = 0) (tg := 60) (p2 := 47) (L1 := [some (.ref 130), some (.int x1), some (.int x2)]) (st1 := []) hc rfl ?_
      refine s_Fin.sg 2 (y := (65, [some (.ref 130), some (.int x1), some (.int x2)], [.int (0 : Int32)], s_hg g)) rfl ?_
      have hB := Option.some.inj hB
      subst hB
      obtain ⟨rfl, rfl⟩ := hr
      exact s_Fin.rt rfl rfl
noncomputable def fM_tellers_130 (g : s_G) : Option (Int32) :=
  s_lp (fun x => fM_tellers_130_4 x.1 x.2 g) ((0 : Int32), (0 : Int32))
theorem fM_tellers_130_s {g : s_G} {z : Int32} (hB : fM_tellers_130 g = some z) : s_Ev 2 s_m228 [.ref 130] (s_hg g) (some (.int z)) (s_hg g) := by
  unfold fM_tellers_130 at hB
  refine s_Ev.fin ((?_ : ∀ (v : Option Value) (h' : s_H), (fun (z : Int32) (v : Option Value) (h' : s_H) => v = some (.int z) ∧ h' = s_hg g) z v h' → s_Fin 2 s_m228 (0, s_ent [.ref 130] (s_m228).2.2.1, [], s_hg g) v h') _ _ ⟨rfl, rfl⟩)
  intro v h' hr
  refine (show s_Fin 2 s_m228 (0, [some (.ref 130), none, none], [], s_hg g) v h' from ?_)
  refine s_Fin.sg 4 (y := (4, [some (.ref 130), some (.int (0 : Int32)), some (.int (0 : Int32))], [], s_hg g)) rfl ?_
  exact s_Fin.more (L := [some (.ref 130), some (.int (0 : Int32)), some (.int (0 : Int32))]) ⟨Or.inr rfl, Or.inr rfl, Or.inr rfl, trivial⟩ (s_lp_s (P := (fun (x : Int32 × Int32) (v : Option Value) (h' : s_H) => s_Fin 2 s_m228 (4, [some (.ref 130), some (.int x.1), some (.int x.2)], [], s_hg g) v h')) (Q := (fun (z : Int32) (v : Option Value) (h' : s_H) => v = some (.int z) ∧ h' = s_hg g)) (fun x z hB v h' hr => fM_tellers_130_4_s hB hr) hB _ _ hr)
-- CampAshesModel.bits
noncomputable def fM_bits_s_4 (x1 : Int32) (x2 : Int32) (g : s_G) : Option ((Int32 × Int32) ⊕ (Int32)) :=
  if x2 = 0 then (s_in (some x1))
  else some (.inl (x1 + (1 : Int32), x2 &&& (x2 - (1 : Int32))))
theorem fM_bits_s_4_s {x1 : Int32} {x2 : Int32} {g : s_G} {z : (Int32 × Int32) ⊕ (Int32)} (hB : fM_bits_s_4 x1 x2 g = some z) {v : Option Value} {h' : s_H} (hr : (s_sm (fun (x : Int32 × Int32) (v : Option Value) (h' : s_H) => s_Fin 0 s_m233 (4, [none, some (.int x.1), some (.int x.2)], [], s_hg g) v h') (fun (z : Int32) (v : Option Value) (h' : s_H) => v = some (.int z) ∧ h' = s_hg g)) z v h') : s_Fin 0 s_m233 (4, [none, some (.int x1), some (.int x2)], [], s_hg g) v h' := by
  unfold fM_bits_s_4 at hB
  refine s_Fin.sg 1 (y := (5, [none, some (.int x1), some (.int x2)], [.int x2], s_hg g)) rfl ?_
  by_cases hc : x2 = 0
  · rw [if_pos hc] at hB
    refine s_Fin.bt (c := x2 = 0) (tg := 20) (p2 := 5) (L1 := [none, some (.int x1), some (.int x2)]) (st1 := []) hc rfl ?_
    obtain ⟨_, hN, hz⟩ := s_in_of hB
    subst hz
    have hB := hN
    refine s_Fin.sg 1 (y := (21, [none, some (.int x1), some (.int x2)], [.int x1], s_hg g)) rfl ?_
    have hB := Option.some.inj hB
    subst hB
    obtain ⟨rfl, rfl⟩ := hr
    exact s_Fin.rt rfl rfl
  · rw [if_neg hc] at hB
    refine s_Fin.bf (c := x2 = 0) (tg := 20) (p2 := 5) (L1 := [none, some (.int x1), some (.int x2)]) (st1 := []) hc rfl ?_
    refine s_Fin.sg 8 (y := (4, [none, some (.int (x1 + (1 : Int32))), some (.int (x2 &&& (x2 - (1 : Int32))))], [], s_hg g)) rfl ?_
    have hB := Option.some.inj hB
    subst hB
    exact s_Fin.more (L := [none, some (.int (x1 + (1 : Int32))), some (.int (x2 &&& (x2 - (1 : Int32))))]) ⟨Or.inl rfl, Or.inr rfl, Or.inr rfl, trivial⟩ hr
noncomputable def fM_bits_s (x0 : Int32) (g : s_G) : Option (Int32) :=
  s_lp (fun x => fM_bits_s_4 x.1 x.2 g) ((0 : Int32), x0)
theorem fM_bits_s_s {x0 : Int32} {g : s_G} {z : Int32} (hB : fM_bits_s x0 g = some z) : s_Ev 0 s_m233 [.int x0] (s_hg g) (some (.int z)) (s_hg g) := by
  unfold fM_bits_s at hB
  refine s_Ev.fin ((?_ : ∀ (v : Option Value) (h' : s_H), (fun (z : Int32) (v : Option Value) (h' : s_H) => v = some (.int z) ∧ h' = s_hg g) z v h' → s_Fin 0 s_m233 (0, s_ent [.int x0] (s_m233).2.2.1, [], s_hg g) v h') _ _ ⟨rfl, rfl⟩)
  intro v h' hr
  refine (show s_Fin 0 s_m233 (0, [some (.int x0), none, none], [], s_hg g) v h' from ?_)
  refine s_Fin.sg 4 (y := (4, [some (.int x0), some (.int (0 : Int32)), some (.int x0)], [], s_hg g)) rfl ?_
  exact s_Fin.more (L := [none, some (.int (0 : Int32)), some (.int x0)]) ⟨Or.inl rfl, Or.inr rfl, Or.inr rfl, trivial⟩ (s_lp_s (P := (fun (x : Int32 × Int32) (v : Option Value) (h' : s_H) => s_Fin 0 s_m233 (4, [none, some (.int x.1), some (.int x.2)], [], s_hg g) v h')) (Q := (fun (z : Int32) (v : Option Value) (h' : s_H) => v = some (.int z) ∧ h' = s_hg g)) (fun x z hB v h' hr => fM_bits_s_4_s hB hr) hB _ _ hr)
-- CampAshesModel.takenBy
noncomputable def fM_takenBy_130 (x1 : Int32) (x2 : Int32) (g : s_G) : Option (Int32) :=
  s_b1 (fM_bits_s x2 g) fun v1 => if 0 < ((g.1 132 48) - v1) then (s_b1 (fM_mostOf_130 x1 g) fun v2 => s_b1 (fM_onOf_130 x1 v2 g) fun v3 => s_b1 (fM_mostOf_130 x1 g) fun v4 => s_b1 (s_ix 375 ((27 : Int32) + v4)) fun k6 => s_b1 (fM_takesOf_130 (g.1 132 k6) ((g.1 132 48) - v1) g) fun v7 => s_b1 (fM_least_s v3 v7 g) fun v8 => some v8)
  else some (0 : Int32)
theorem fM_takenBy_130_s {x1 : Int32} {x2 : Int32} {g : s_G} {z : Int32} (hB : fM_takenBy_130 x1 x2 g = some z) : s_Ev 2 s_m232 [.ref 130, .int x1, .int x2] (s_hg g) (some (.int z)) (s_hg g) := by
  unfold fM_takenBy_130 at hB
  refine s_Ev.fin ((?_ : ∀ (v : Option Value) (h' : s_H), (fun (z : Int32) (v : Option Value) (h' : s_H) => v = some (.int z) ∧ h' = s_hg g) z v h' → s_Fin 2 s_m232 (0, s_ent [.ref 130, .int x1, .int x2] (s_m232).2.2.1, [], s_hg g) v h') _ _ ⟨rfl, rfl⟩)
  intro v h' hr
  refine (show s_Fin 2 s_m232 (0, [some (.ref 130), some (.int x1), some (.int x2), none], [], s_hg g) v h' from ?_)
  refine s_Fin.sg 5 (y := (8, [some (.ref 130), some (.int x1), some (.int x2), none], [.int x2, .int (g.1 132 48)], s_hg g)) rfl ?_
  obtain ⟨v1, hp, hB⟩ := s_bd hB
  refine s_Fin.cl (d := 1) (q1 := s_m233) (md := 233) (vs := [.int x2]) (rest := [.int (g.1 132 48)]) (h1 := s_hg g) (u := some (.int v1)) (s_Ev.up (by omega) (fM_bits_s_s hp)) rfl rfl rfl rfl ?_
  refine s_Fin.sg 3 (y := (14, [some (.ref 130), some (.int x1), some (.int x2), some (.int ((g.1 132 48) - v1))], [.int ((g.1 132 48) - v1)], s_hg g)) rfl ?_
  by_cases hc : 0 < ((g.1 132 48) - v1)
  · rw [if_pos hc] at hB
    refine s_Fin.bt (c := 0 < ((g.1 132 48) - v1)) (tg := 21) (p2 := 14) (L1 := [some (.ref 130), some (.int x1), some (.int x2), some (.int ((g.1 132 48) - v1))]) (st1 := []) hc rfl ?_
    refine s_Fin.sg 4 (y := (25, [some (.ref 130), some (.int x1), some (.int x2), some (.int ((g.1 132 48) - v1))], [.int x1, .ref 130, .int x1, .ref 130], s_hg g)) rfl ?_
    obtain ⟨v2, hp, hB⟩ := s_bd hB
    refine s_Fin.cl (d := 1) (q1 := s_m229) (md := 229) (vs := [.ref 130, .int x1]) (rest := [.int x1, .ref 130]) (h1 := s_hg g) (u := some (.int v2)) (s_Ev.up (by omega) (fM_mostOf_130_s hp)) rfl rfl rfl rfl ?_
    obtain ⟨v3, hp, hB⟩ := s_bd hB
    refine s_Fin.cl (d := 1) (q1 := s_m199) (md := 199) (vs := [.ref 130, .int x1, .int v2]) (rest := []) (h1 := s_hg g) (u := some (.int v3)) (s_Ev.up (by omega) (fM_onOf_130_s hp)) rfl rfl rfl rfl ?_
    refine s_Fin.sg 6 (y := (40, [some (.ref 130), some (.int x1), some (.int x2), some (.int ((g.1 132 48) - v1))], [.int x1, .ref 130, .int (27 : Int32), .ref 132, .ref 130, .int v3], s_hg g)) rfl ?_
    obtain ⟨v4, hp, hB⟩ := s_bd hB
    refine s_Fin.cl (d := 1) (q1 := s_m229) (md := 229) (vs := [.ref 130, .int x1]) (rest := [.int (27 : Int32), .ref 132, .ref 130, .int v3]) (h1 := s_hg g) (u := some (.int v4)) (s_Ev.up (by omega) (fM_mostOf_130_s hp)) rfl rfl rfl rfl ?_
    refine s_Fin.sg 1 (y := (44, [some (.ref 130), some (.int x1), some (.int x2), some (.int ((g.1 132 48) - v1))], [.int ((27 : Int32) + v4), .ref 132, .ref 130, .int v3], s_hg g)) rfl ?_
    obtain ⟨k6, hk6, hB⟩ := s_bd hB
    refine s_Fin.ix (n := 375) (i := (27 : Int32) + v4) (pc1 := 45) (L1 := [some (.ref 130), some (.int x1), some (.int x2), some (.int ((g.1 132 48) - v1))]) (fun j5 => [.int (g.1 132 j5), .ref 130, .int v3]) (fun j5 => s_hg g) hk6 rfl rfl ?_
    refine s_Fin.sg 1 (y := (46, [some (.ref 130), some (.int x1), some (.int x2), some (.int ((g.1 132 48) - v1))], [.int ((g.1 132 48) - v1), .int (g.1 132 k6), .ref 130, .int v3], s_hg g)) rfl ?_
    obtain ⟨v7, hp, hB⟩ := s_bd hB
    refine s_Fin.cl (d := 1) (q1 := s_m205) (md := 205) (vs := [.ref 130, .int (g.1 132 k6), .int ((g.1 132 48) - v1)]) (rest := [.int v3]) (h1 := s_hg g) (u := some (.int v7)) (s_Ev.up (by omega) (fM_takesOf_130_s hp)) rfl rfl rfl rfl ?_
    obtain ⟨v8, hp, hB⟩ := s_bd hB
    refine s_Fin.cl (d := 1) (q1 := s_m217) (md := 217) (vs := [.int v3, .int v7]) (rest := []) (h1 := s_hg g) (u := some (.int v8)) (s_Ev.up (by omega) (fM_least_s_s hp)) rfl rfl rfl rfl ?_
    have hB := Option.some.inj hB
    subst hB
    obtain ⟨rfl, rfl⟩ := hr
    exact s_Fin.rt rfl rfl
  · rw [if_neg hc] at hB
    refine s_Fin.bf (c := 0 < ((g.1 132 48) - v1)) (tg := 21) (p2 := 14) (L1 := [some (.ref 130), some (.int x1), some (.int x2), some (.int ((g.1 132 48) - v1))]) (st1 := []) hc rfl ?_
    refine s_Fin.sg 2 (y := (52, [some (.ref 130), some (.int x1), some (.int x2), some (.int ((g.1 132 48) - v1))], [.int (0 : Int32)], s_hg g)) rfl ?_
    have hB := Option.some.inj hB
    subst hB
    obtain ⟨rfl, rfl⟩ := hr
    exact s_Fin.rt rfl rfl
-- CampAshesModel.moreBy
noncomputable def fM_moreBy_130 (x1 : Int32) (x2 : Int32) (g : s_G) : Option (Int32) :=
  s_b1 (fM_takenBy_130 x1 x2 g) fun v1 => s_b1 (s_ix 128 (x2 ||| ((1 : Int32) <<< (x1 &&& 31)))) fun k3 => some (v1 + (g.1 143 k3))
theorem fM_moreBy_130_s {x1 : Int32} {x2 : Int32} {g : s_G} {z : Int32} (hB : fM_moreBy_130 x1 x2 g = some z) : s_Ev 3 s_m231 [.ref 130, .int x1, .int x2] (s_hg g) (some (.int z)) (s_hg g) := by
  unfold fM_moreBy_130 at hB
  refine s_Ev.fin ((?_ : ∀ (v : Option Value) (h' : s_H), (fun (z : Int32) (v : Option Value) (h' : s_H) => v = some (.int z) ∧ h' = s_hg g) z v h' → s_Fin 3 s_m231 (0, s_ent [.ref 130, .int x1, .int x2] (s_m231).2.2.1, [], s_hg g) v h') _ _ ⟨rfl, rfl⟩)
  intro v h' hr
  refine (show s_Fin 3 s_m231 (0, [some (.ref 130), some (.int x1), some (.int x2)], [], s_hg g) v h' from ?_)
  refine s_Fin.sg 3 (y := (3, [some (.ref 130), some (.int x1), some (.int x2)], [.int x2, .int x1, .ref 130], s_hg g)) rfl ?_
  obtain ⟨v1, hp, hB⟩ := s_bd hB
  refine s_Fin.cl (d := 2) (q1 := s_m232) (md := 232) (vs := [.ref 130, .int x1, .int x2]) (rest := []) (h1 := s_hg g) (u := some (.int v1)) (s_Ev.up (by omega) (fM_takenBy_130_s hp)) rfl rfl rfl rfl ?_
  refine s_Fin.sg 7 (y := (15, [some (.ref 130), some (.int x1), some (.int x2)], [.int (x2 ||| ((1 : Int32) <<< (x1 &&& 31))), .ref 143, .int v1], s_hg g)) rfl ?_
  obtain ⟨k3, hk3, hB⟩ := s_bd hB
  refine s_Fin.ix (n := 128) (i := x2 ||| ((1 : Int32) <<< (x1 &&& 31))) (pc1 := 16) (L1 := [some (.ref 130), some (.int x1), some (.int x2)]) (fun j2 => [.int (g.1 143 j2), .int v1]) (fun j2 => s_hg g) hk3 rfl rfl ?_
  refine s_Fin.sg 1 (y := (17, [some (.ref 130), some (.int x1), some (.int x2)], [.int (v1 + (g.1 143 k3))], s_hg g)) rfl ?_
  have hB := Option.some.inj hB
  subst hB
  obtain ⟨rfl, rfl⟩ := hr
  exact s_Fin.rt rfl rfl
