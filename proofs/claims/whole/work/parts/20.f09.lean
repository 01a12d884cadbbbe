-- CampAshesModel.ashes
noncomputable def fM_ashes_130 (x1 : Int32) (g : s_G) : Option (Int32 × s_G) :=
  s_b1 (fM_isOneKind_130 x1 (s_si g 130 0 (0 : Int32))) fun v1 => if v1 = 0 then (some ((-1 : Int32), (s_si g 130 0 (0 : Int32))))
  else s_b1 (s_ix 375 ((52 : Int32) + x1)) fun k3 => some (g.1 132 k3, (s_si g 130 0 (0 : Int32)))
theorem fM_ashes_130_s {x1 : Int32} {g : s_G} {z : Int32 × s_G} (hB : fM_ashes_130 x1 g = some z) : s_Ev 2 s_m206 [.ref 130, .int x1] (s_hg g) (some (.int z.1)) (s_hg z.2) := by
  unfold fM_ashes_130 at hB
  refine s_Ev.fin ((?_ : ∀ (v : Option Value) (h' : s_H), (fun (z : Int32 × s_G) (v : Option Value) (h' : s_H) => v = some (.int z.1) ∧ h' = s_hg z.2) z v h' → s_Fin 2 s_m206 (0, s_ent [.ref 130, .int x1] (s_m206).2.2.1, [], s_hg g) v h') _ _ ⟨rfl, rfl⟩)
  intro v h' hr
  refine (show s_Fin 2 s_m206 (0, [some (.ref 130), some (.int x1)], [], s_hg g) v h' from ?_)
  refine s_Fin.sg 5 (y := (7, [some (.ref 130), some (.int x1)], [.int x1, .ref 130], s_hg (s_si g 130 0 (0 : Int32)))) rfl ?_
  obtain ⟨v1, hp, hB⟩ := s_bd hB
  refine s_Fin.cl (d := 1) (q1 := s_m204) (md := 204) (vs := [.ref 130, .int x1]) (rest := []) (h1 := s_hg (s_si g 130 0 (0 : Int32))) (u := some (.int v1)) (s_Ev.up (by omega) (fM_isOneKind_130_s hp)) rfl rfl rfl rfl ?_
  by_cases hc : v1 = 0
  · rw [if_pos hc] at hB
    refine s_Fin.bt (c := v1 = 0) (tg := 25) (p2 := 10) (L1 := [some (.ref 130), some (.int x1)]) (st1 := []) hc rfl ?_
    refine s_Fin.sg 1 (y := (26, [some (.ref 130), some (.int x1)], [.int (-1 : Int32)], s_hg (s_si g 130 0 (0 : Int32)))) rfl ?_
    have hB := Option.some.inj hB
    subst hB
    obtain ⟨rfl, rfl⟩ := hr
    exact s_Fin.rt rfl rfl
  · rw [if_neg hc] at hB
    refine s_Fin.bf (c := v1 = 0) (tg := 25) (p2 := 10) (L1 := [some (.ref 130), some (.int x1)]) (st1 := []) hc rfl ?_
    refine s_Fin.sg 5 (y := (21, [some (.ref 130), some (.int x1)], [.int ((52 : Int32) + x1), .ref 132], s_hg (s_si g 130 0 (0 : Int32)))) rfl ?_
    obtain ⟨k3, hk3, hB⟩ := s_bd hB
    refine s_Fin.ix (n := 375) (i := (52 : Int32) + x1) (pc1 := 22) (L1 := [some (.ref 130), some (.int x1)]) (fun j2 => [.int (g.1 132 j2)]) (fun j2 => s_hg (s_si g 130 0 (0 : Int32))) hk3 rfl rfl ?_
    refine s_Fin.sg 1 (y := (26, [some (.ref 130), some (.int x1)], [.int (g.1 132 k3)], s_hg (s_si g 130 0 (0 : Int32)))) rfl ?_
    have hB := Option.some.inj hB
    subst hB
    obtain ⟨rfl, rfl⟩ := hr
    exact s_Fin.rt rfl rfl
-- CampAshes.ashes
noncomputable def fC_ashes_0 (x1 : Int32) (g : s_G) : Option (Int32) :=
  if x1 < 0 then (some (-1 : Int32))
  else if x1 < (4 : Int32) then (s_b1 (s_ix 4 x1) fun k2 => some (g.1 20 k2))
  else some (-1 : Int32)
theorem fC_ashes_0_s {x1 : Int32} {g : s_G} {z : Int32} (hB : fC_ashes_0 x1 g = some z) : s_Ev 0 s_m55 [.ref 0, .int x1] (s_hg g) (some (.int z)) (s_hg g) := by
  unfold fC_ashes_0 at hB
  refine s_Ev.fin ((?_ : ∀ (v : Option Value) (h' : s_H), (fun (z : Int32) (v : Option Value) (h' : s_H) => v = some (.int z) ∧ h' = s_hg g) z v h' → s_Fin 0 s_m55 (0, s_ent [.ref 0, .int x1] (s_m55).2.2.1, [], s_hg g) v h') _ _ ⟨rfl, rfl⟩)
  intro v h' hr
  refine (show s_Fin 0 s_m55 (0, [some (.ref 0), some (.int x1)], [], s_hg g) v h' from ?_)
  refine s_Fin.sg 1 (y := (1, [some (.ref 0), some (.int x1)], [.int x1], s_hg g)) rfl ?_
  by_cases hc : x1 < 0
  · rw [if_pos hc] at hB
    refine s_Fin.bt (c := x1 < 0) (tg := 21) (p2 := 1) (L1 := [some (.ref 0), some (.int x1)]) (st1 := []) hc rfl ?_
    refine s_Fin.sg 1 (y := (22, [some (.ref 0), some (.int x1)], [.int (-1 : Int32)], s_hg g)) rfl ?_
    have hB := Option.some.inj hB
    subst hB
    obtain ⟨rfl, rfl⟩ := hr
    exact s_Fin.rt rfl rfl
  · rw [if_neg hc] at hB
    refine s_Fin.bf (c := x1 < 0) (tg := 21) (p2 := 1) (L1 := [some (.ref 0), some (.int x1)]) (st1 := []) hc rfl ?_
    refine s_Fin.sg 2 (y := (6, [some (.ref 0), some (.int x1)], [.int (4 : Int32), .int x1], s_hg g)) rfl ?_
    by_cases hc : x1 < (4 : Int32)
    · rw [if_pos hc] at hB
      refine s_Fin.bf (c := (4 : Int32) ≤ x1) (tg := 21) (p2 := 6) (L1 := [some (.ref 0), some (.int x1)]) (st1 := []) (Int32.not_le.mpr hc) rfl ?_
      refine s_Fin.sg 4 (y := (17, [some (.ref 0), some (.int x1)], [.int x1, .ref 20], s_hg g)) rfl ?_
      obtain ⟨k2, hk2, hB⟩ := s_bd hB
      refine s_Fin.ix (n := 4) (i := x1) (pc1 := 18) (L1 := [some (.ref 0), some (.int x1)]) (fun j1 => [.int (g.1 20 j1)]) (fun j1 => s_hg g) hk2 rfl rfl ?_
      refine s_Fin.sg 1 (y := (22, [some (.ref 0), some (.int x1)], [.int (g.1 20 k2)], s_hg g)) rfl ?_
      have hB := Option.some.inj hB
      subst hB
      obtain ⟨rfl, rfl⟩ := hr
      exact s_Fin.rt rfl rfl
    · rw [if_neg hc] at hB
      refine s_Fin.bt (c := (4 : Int32) ≤ x1) (tg := 21) (p2 := 6) (L1 := [some (.ref 0), some (.int x1)]) (st1 := []) (Int32.not_lt.mp hc) rfl ?_
      refine s_Fin.sg 1 (y := (22, [some (.ref 0), some (.int x1)], [.int (-1 : Int32)], s_hg g)) rfl ?_
      have hB := Option.some.inj hB
      subst hB
      obtain ⟨rfl, rfl⟩ := hr
      exact s_Fin.rt rfl rfl
-- CampAshesModel.isWet
noncomputable def fM_isWet_130 (g : s_G) : Option (Int32) :=
  if 0 < (g.1 132 5) then (if (g.1 132 5) = 0 then none else if (((g.1 132 47) + (1 : Int32)) - ((g.1 132 47) + (1 : Int32)) / (g.1 132 5) * (g.1 132 5)) = 0 then (some (1 : Int32))
  else some (0 : Int32))
  else some (0 : Int32)
theorem fM_isWet_130_s {g : s_G} {z : Int32} (hB : fM_isWet_130 g = some z) : s_Ev 0 s_m208 [.ref 130] (s_hg g) (some (.int z)) (s_hg g) := by
  unfold fM_isWet_130 at hB
  refine s_Ev.fin ((?_ : ∀ (v : Option Value) (h' : s_H), (fun (z : Int32) (v : Option Value) (h' : s_H) => v = some (.int z) ∧ h' = s_hg g) z v h' → s_Fin 0 s_m208 (0, s_ent [.ref 130] (s_m208).2.2.1, [], s_hg g) v h') _ _ ⟨rfl, rfl⟩)
  intro v h' hr
  refine (show s_Fin 0 s_m208 (0, [some (.ref 130)], [], s_hg g) v h' from ?_)
  refine s_Fin.sg 4 (y := (6, [some (.ref 130)], [.int (g.1 132 5)], s_hg g)) rfl ?_
  by_cases hc : 0 < (g.1 132 5)
  · rw [if_pos hc] at hB
    refine s_Fin.bf (c := (g.1 132 5) ≤ 0) (tg := 32) (p2 := 6) (L1 := [some (.ref 130)]) (st1 := []) (Int32.not_le.mpr hc) rfl ?_
    refine s_Fin.sg 10 (y := (24, [some (.ref 130)], [.int (g.1 132 5), .int ((g.1 132 47) + (1 : Int32))], s_hg g)) rfl ?_
    have hc : ¬ (g.1 132 5) = 0 := fun h => (by rw [if_pos h] at hB; cases hB)
    rw [if_neg hc] at hB
    refine s_Fin.gd (c := (g.1 132 5) = 0) (pc1 := 25) (L1 := [some (.ref 130)]) (st1 := [.int (((g.1 132 47) + (1 : Int32)) - ((g.1 132 47) + (1 : Int32)) / (g.1 132 5) * (g.1 132 5))]) (h1 := s_hg g) hc rfl rfl ?_
    by_cases hc : (((g.1 132 47) + (1 : Int32)) - ((g.1 132 47) + (1 : Int32)) / (g.1 132 5) * (g.1 132 5)) = 0
    · rw [if_pos hc] at hB
      refine s_Fin.bf (c := ¬ (((g.1 132 47) + (1 : Int32)) - ((g.1 132 47) + (1 : Int32)) / (g.1 132 5) * (g.1 132 5)) = 0) (tg := 32) (p2 := 25) (L1 := [some (.ref 130)]) (st1 := []) (fun h => h hc) rfl ?_
      refine s_Fin.sg 2 (y := (33, [some (.ref 130)], [.int (1 : Int32)], s_hg g)) rfl ?_
      have hB := Option.some.inj hB
      subst hB
      obtain ⟨rfl, rfl⟩ := hr
      exact s_Fin.rt rfl rfl
    · rw [if_neg hc] at hB
      refine s_Fin.bt (c := ¬ (((g.1 132 47) + (1 : Int32)) - ((g.1 132 47) + (1 : Int32)) / (g.1 132 5) * (g.1 132 5)) = 0) (tg := 32) (p2 := 25) (L1 := [some (.ref 130)]) (st1 := []) hc rfl ?_
      refine s_Fin.sg 1 (y := (33, [some (.ref 130)], [.int (0 : Int32)], s_hg g)) rfl ?_
      have hB := Option.some.inj hB
      subst hB
      obtain ⟨rfl, rfl⟩ := hr
      exact s_Fin.rt rfl rfl
  · rw [if_neg hc] at hB
    refine s_Fin.bt (c := (g.1 132 5) ≤ 0) (tg := 32) (p2 := 6) (L1 := [some (.ref 130)]) (st1 := []) (Int32.not_lt.mp hc) rfl ?_
    refine s_Fin.sg 1 (y := (33, [some (.ref 130)], [.int (0 : Int32)], s_hg g)) rfl ?_
    have hB := Option.some.inj hB
    subst hB
    obtain ⟨rfl, rfl⟩ := hr
    exact s_Fin.rt rfl rfl
-- CampAshesModel.overs
noncomputable def fM_overs_130_4 (x1 : Int32) (x2 : Int32) (g : s_G) : Option ((Int32 × Int32) ⊕ (Int32)) :=
  if x2 < (g.1 132 0) then (s_b1 (fM_isOver_130 x2 g) fun v1 => if v1 = 0 then (some (.inl (x1, x2 + (1 : Int32))))
  else some (.inl (x1 ||| ((1 : Int32) <<< (x2 &&& 31)), x2 + (1 : Int32))))
  else s_in (some x1)
theorem fM_overs_130_4_s {x1 : Int32} {x2 : Int32} {g : s_G} {z : (Int32 × Int32) ⊕ (Int32)} (hB : fM_overs_130_4 x1 x2 g = some z) {v : Option Value} {h' : s_H} (hr : (s_sm (fun (x : Int32 × Int32) (v : Option Value) (h' : s_H) => s_Fin 3 s_m209 (4, [some (.ref 130), some (.int x.1), some (.int x.2)], [], s_hg g) v h') (fun (z : Int32) (v : Option Value) (h' : s_H) => v = some (.int z) ∧ h' = s_hg g)) z v h') : s_Fin 3 s_m209 (4, [some (.ref 130), some (.int x1), some (.int x2)], [], s_hg g) v h' := by
  unfold fM_overs_130_4 at hB
  refine s_Fin.sg 5 (y := (11, [some (.ref 130), some (.int x1), some (.int x2)], [.int (g.1 132 0), .int x2], s_hg g)) rfl ?_
  by_cases hc : x2 < (g.1 132 0)
  · rw [if_pos hc] at hB
    refine s_Fin.bf (c := (g.1 132 0) ≤ x2) (tg := 34) (p2 := 11) (L1 := [some (.ref 130), some (.int x1), some (.int x2)]) (st1 := []) (Int32.not_le.mpr hc) rfl ?_
    refine s_Fin.sg 2 (y := (16, [some (.ref 130), some (.int x1), some (.int x2)], [.int x2, .ref 130], s_hg g)) rfl ?_
    obtain ⟨v1, hp, hB⟩ := s_bd hB
    refine s_Fin.cl (d := 2) (q1 := s_m196) (md := 196) (vs := [.ref 130, .int x2]) (rest := []) (h1 := s_hg g) (u := some (.int v1)) (s_Ev.up (by omega) (fM_isOver_130_s hp)) rfl rfl rfl rfl ?_
    by_cases hc : v1 = 0
    · rw [if_pos hc] at hB
      refine s_Fin.bt (c := v1 = 0) (tg := 28) (p2 := 19) (L1 := [some (.ref 130), some (.int x1), some (.int x2)]) (st1 := []) hc rfl ?_
      refine s_Fin.sg 2 (y := (4, [some (.ref 130), some (.int x1), some (.int (x2 + (1 : Int32)))], [], s_hg g)) rfl ?_
      have hB := Option.some.inj hB
      subst hB
      exact s_Fin.more (L := [some (.ref 130), some (.int x1), some (.int (x2 + (1 : Int32)))]) ⟨Or.inr rfl, Or.inr rfl, Or.inr rfl, trivial⟩ hr
    · rw [if_neg hc] at hB
      refine s_Fin.bf (c := v1 = 0) (tg := 28) (p2 := 19) (L1 := [some (.ref 130), some (.int x1), some (.int x2)]) (st1 := []) hc rfl ?_
      refine s_Fin.sg 8 (y := (4, [some (.ref 130), some (.int (x1 ||| ((1 : Int32) <<< (x2 &&& 31)))), some (.int (x2 + (1 : Int32)))], [], s_hg g)) rfl ?_
      have hB := Option.some.inj hB
      subst hB
      exact s_Fin.more (L := [some (.ref 130), some (.int (x1 ||| ((1 : Int32) <<< (x2 &&& 31)))), some (.int (x2 + (1 : Int32)))]) ⟨Or.inr rfl, Or.inr rfl, Or.inr rfl, trivial⟩ hr
  · rw [if_neg hc] at hB
    refine s_Fin.bt (c := (g.1 132 0) ≤ x2) (tg := 34) (p2 := 11) (L1 := [some (.ref 130), some (.int x1), some (.int x2)]) (st1 := []) (Int32.not_lt.mp hc) rfl ?_
    obtain ⟨_, hN, hz⟩ := s_in_of hB
    subst hz
    have hB := hN
    refine s_Fin.sg 1 (y := (35, [some (.ref 130), some (.int x1), some (.int x2)], [.int x1], s_hg g)) rfl ?_
    have hB := Option.some.inj hB
    subst hB
    obtain ⟨rfl, rfl⟩ := hr
    exact s_Fin.rt rfl rfl
noncomputable def fM_overs_130 (g : s_G) : Option (Int32) :=
  s_lp (fun x => fM_overs_130_4 x.1 x.2 g) ((0 : Int32), (0 : Int32))
theorem fM_overs_130_s {g : s_G} {z : Int32} (hB : fM_overs_130 g = some z) : s_Ev 3 s_m209 [.ref 130] (s_hg g) (some (.int z)) (s_hg g) := by
  unfold fM_overs_130 at hB
  refine s_Ev.fin ((?_ : ∀ (v : Option Value) (h' : s_H), (fun (z : Int32) (v : Option Value) (h' : s_H) => v = some (.int z) ∧ h' = s_hg g) z v h' → s_Fin 3 s_m209 (0, s_ent [.ref 130] (s_m209).2.2.1, [], s_hg g) v h') _ _ ⟨rfl, rfl⟩)
  intro v h' hr
  refine (show s_Fin 3 s_m209 (0, [some (.ref 130), none, none], [], s_hg g) v h' from ?_)
  refine s_Fin.sg 4 (y := (4, [some (.ref 130), some (.int (0 : Int32)), some (.int (0 : Int32))], [], s_hg g)) rfl ?_
  exact s_Fin.more (L := [some (.ref 130), some (.int (0 : Int32)), some (.int (0 : Int32))]) ⟨Or.inr rfl, Or.inr rfl, Or.inr rfl, trivial⟩ (s_lp_s (P := (fun (x : Int32 × Int32) (v : Option Value) (h' : s_H) => s_Fin 3 s_m209 (4, [some (.ref 130), some (.int x.1), some (.int x.2)], [], s_hg g) v h')) (Q := (fun (z : Int32) (v : Option Value) (h' : s_H) => v = some (.int z) ∧ h' = s_hg g)) (fun x z hB v h' hr => fM_overs_130_4_s hB hr) hB _ _ hr)
-- CampAshesModel.now
noncomputable def fM_now_130 (x1 : Int32) (g : s_G) : Option (Int32 × s_G) :=
  if x1 = 0 then (some (g.1 132 47, (s_si g 130 0 (0 : Int32))))
  else if x1 = 1 then (some (g.1 132 48, (s_si g 130 0 (0 : Int32))))
  else if x1 = 2 then (some (g.1 132 49, (s_si g 130 0 (0 : Int32))))
  else if x1 = 3 then (s_b1 (fM_isWet_130 (s_si g 130 0 (0 : Int32))) fun v1 => if v1 = 0 then (some ((0 : Int32), (s_si g 130 0 (0 : Int32))))
  else some ((1 : Int32), (s_si g 130 0 (0 : Int32))))
  else if x1 = 4 then (s_b1 (fM_overs_130 (s_si g 130 0 (0 : Int32))) fun v2 => some (v2, (s_si g 130 0 (0 : Int32))))
  else if x1 = 5 then (some (g.1 132 50, (s_si g 130 0 (0 : Int32))))
  else if x1 = 6 then (some (g.1 132 51, (s_si g 130 0 (0 : Int32))))
  else if x1 = 7 then (s_b1 (fM_sum_130 (63 : Int32) (70 : Int32) (s_si g 130 0 (0 : Int32))) fun v3 => some (v3, (s_si g 130 0 (0 : Int32))))
  else some ((-1 : Int32), (s_si g 130 0 (0 : Int32)))
theorem fM_now_130_s {x1 : Int32} {g : s_G} {z : Int32 × s_G} (hB : fM_now_130 x1 g = some z) : s_Ev 4 s_m207 [.ref 130, .int x1] (s_hg g) (some (.int z.1)) (s_hg z.2) := by
  unfold fM_now_130 at hB
  refine s_Ev.fin ((?_ : ∀ (v : Option Value) (h' : s_H), (fun (z : Int32 × s_G) (v : Option Value) (h' : s_H) => v = some (.int z.1) ∧ h' = s_hg z.2) z v h' → s_Fin 4 s_m207 (0, s_ent [.ref 130, .int x1] (s_m207).2.2.1, [], s_hg g) v h') _ _ ⟨rfl, rfl⟩)
  intro v h' hr
  refine (show s_Fin 4 s_m207 (0, [some (.ref 130), some (.int x1)], [], s_hg g) v h' from ?_)
  refine s_Fin.sg 4 (y := (6, [some (.ref 130), some (.int x1)], [.int x1], s_hg (s_si g 130 0 (0 : Int32)))) rfl ?_
  by_cases hc0 : x1 = 0
  · rw [if_pos hc0] at hB
    refine s_Fin.nx (pc1 := 52) (L1 := [some (.ref 130), some (.int x1)]) (st1 := []) (h1 := s_hg (s_si g 130 0 (0 : Int32))) (by rw [hc0]; exact rfl) rfl ?_
    refine s_Fin.sg 4 (y := (59, [some (.ref 130), some (.int x1)], [.int (g.1 132 47)], s_hg (s_si g 130 0 (0 : Int32)))) rfl ?_
    have hB := Option.some.inj hB
    subst hB
    obtain ⟨rfl, rfl⟩ := hr
    exact s_Fin.rt rfl rfl
  rw [if_neg hc0] at hB
  by_cases hc1 : x1 = 1
  · rw [if_pos hc1] at hB
    refine s_Fin.nx (pc1 := 60) (L1 := [some (.ref 130), some (.int x1)]) (st1 := []) (h1 := s_hg (s_si g 130 0 (0 : Int32))) (by rw [hc1]; exact rfl) rfl ?_
    refine s_Fin.sg 4 (y := (67, [some (.ref 130), some (.int x1)], [.int (g.1 132 48)], s_hg (s_si g 130 0 (0 : Int32)))) rfl ?_
    have hB := Option.some.inj hB
    subst hB
    obtain ⟨rfl, rfl⟩ := hr
    exact s_Fin.rt rfl rfl
  rw [if_neg hc1] at hB
  by_cases hc2 : x1 = 2
  · rw [if_pos hc2] at hB
    refine s_Fin.nx (pc1 := 68) (L1 := [some (.ref 130), some (.int x1)]) (st1 := []) (h1 := s_hg (s_si g 130 0 (0 : Int32))) (by rw [hc2]; exact rfl) rfl ?_
    refine s_Fin.sg 4 (y := (75, [some (.ref 130), some (.int x1)], [.int (g.1 132 49)], s_hg (s_si g 130 0 (0 : Int32)))) rfl ?_
    have hB := Option.some.inj hB
    subst hB
    obtain ⟨rfl, rfl⟩ := hr
    exact s_Fin.rt rfl rfl
  rw [if_neg hc2] at hB
  by_cases hc3 : x1 = 3
  · rw [if_pos hc3] at hB
    refine s_Fin.nx (pc1 := 76) (L1 := [some (.ref 130), some (.int x1)]) (st1 := []) (h1 := s_hg (s_si g 130 0 (0 : Int32))) (by rw [hc3]; exact rfl) rfl ?_
    refine s_Fin.sg 1 (y := (77, [some (.ref 130), some (.int x1)], [.ref 130], s_hg (s_si g 130 0 (0 : Int32)))) rfl ?_
    obtain ⟨v1, hp, hB⟩ := s_bd hB
    refine s_Fin.cl (d := 3) (q1 := s_m208) (md := 208) (vs := [.ref 130]) (rest := []) (h1 := s_hg (s_si g 130 0 (0 : Int32))) (u := some (.int v1)) (s_Ev.up (by omega) (fM_isWet_130_s hp)) rfl rfl rfl rfl ?_
    by_cases hc : v1 = 0
    · rw [if_pos hc] at hB
      refine s_Fin.bt (c := v1 = 0) (tg := 87) (p2 := 80) (L1 := [some (.ref 130), some (.int x1)]) (st1 := []) hc rfl ?_
      refine s_Fin.sg 1 (y := (88, [some (.ref 130), some (.int x1)], [.int (0 : Int32)], s_hg (s_si g 130 0 (0 : Int32)))) rfl ?_
      have hB := Option.some.inj hB
      subst hB
      obtain ⟨rfl, rfl⟩ := hr
      exact s_Fin.rt rfl rfl
    · rw [if_neg hc] at hB
      refine s_Fin.bf (c := v1 = 0) (tg := 87) (p2 := 80) (L1 := [some (.ref 130), some (.int x1)]) (st1 := []) hc rfl ?_
      refine s_Fin.sg 2 (y := (88, [some (.ref 130), some (.int x1)], [.int (1 : Int32)], s_hg (s_si g 130 0 (0 : Int32)))) rfl ?_
      have hB := Option.some.inj hB
      subst hB
      obtain ⟨rfl, rfl⟩ := hr
      exact s_Fin.rt rfl rfl
  rw [if_neg hc3] at hB
  by_cases hc4 : x1 = 4
  · rw [if_pos hc4] at hB
    refine s_Fin.nx (pc1 := 89) (L1 := [some (.ref 130), some (.int x1)]) (st1 := []) (h1 := s_hg (s_si g 130 0 (0 : Int32))) (by rw [hc4]; exact rfl) rfl ?_
    refine s_Fin.sg 1 (y := (90, [some (.ref 130), some (.int x1)], [.ref 130], s_hg (s_si g 130 0 (0 : Int32)))) rfl ?_
    obtain ⟨v2, hp, hB⟩ := s_bd hB
    refine s_Fin.cl (d := 3) (q1 := s_m209) (md := 209) (vs := [.ref 130]) (rest := []) (h1 := s_hg (s_si g 130 0 (0 : Int32))) (u := some (.int v2)) (s_Ev.up (by omega) (fM_overs_130_s hp)) rfl rfl rfl rfl ?_
    have hB := Option.some.inj hB
    subst hB
    obtain ⟨rfl, rfl⟩ := hr
    exact s_Fin.rt rfl rfl
  rw [if_neg hc4] at hB
  by_cases hc5 : x1 = 5
  · rw [if_pos hc5] at hB
    refine s_Fin.nx (pc1 := 94) (L1 := [some (.ref 130), some (.int x1)]) (st1 := []) (h1 := s_hg (s_si g 130 0 (0 : Int32))) (by rw [hc5]; exact rfl) rfl ?_
    refine s_Fin.sg 4 (y := (101, [some (.ref 130), some (.int x1)], [.int (g.1 132 50)], s_hg (s_si g 130 0 (0 : Int32)))) rfl ?_
    have hB := Option.some.inj hB
    subst hB
    obtain ⟨rfl, rfl⟩ := hr
    exact s_Fin.rt rfl rfl
  rw [if_neg hc5] at hB
  by_cases hc6 : x1 = 6
  · rw [if_pos hc6] at hB
    refine s_Fin.nx (pc1 := 102) (L1 := [some (.ref 130), some (.int x1)]) (st1 := []) (h1 := s_hg (s_si g 130 0 (0 : Int32))) (by rw [hc6]; exact rfl) rfl ?_
    refine s_Fin.sg 4 (y := (109, [some (.ref 130), some (.int x1)], [.int (g.1 132 51)], s_hg (s_si g 130 0 (0 : Int32)))) rfl ?_
    have hB := Option.some.inj hB
    subst hB
    obtain ⟨rfl, rfl⟩ := hr
    exact s_Fin.rt rfl rfl
  rw [if_neg hc6] at hB
  by_cases hc7 : x1 = 7
  · rw [if_pos hc7] at hB
    refine s_Fin.nx (pc1 := 110) (L1 := [some (.ref 130), some (.int x1)]) (st1 := []) (h1 := s_hg (s_si g 130 0 (0 : Int32))) (by rw [hc7]; exact rfl) rfl ?_
    refine s_Fin.sg 3 (y := (115, [some (.ref 130), some (.int x1)], [.int (70 : Int32), .int (63 : Int32), .ref 130], s_hg (s_si g 130 0 (0 : Int32)))) rfl ?_
    obtain ⟨v3, hp, hB⟩ := s_bd hB
    refine s_Fin.cl (d := 3) (q1 := s_m195) (md := 195) (vs := [.ref 130, .int (63 : Int32), .int (70 : Int32)]) (rest := []) (h1 := s_hg (s_si g 130 0 (0 : Int32))) (u := some (.int v3)) (s_Ev.up (by omega) (fM_sum_130_s hp)) rfl rfl rfl rfl ?_
    have hB := Option.some.inj hB
    subst hB
    obtain ⟨rfl, rfl⟩ := hr
    exact s_Fin.rt rfl rfl
  rw [if_neg hc7] at hB
  have ht : x1.toInt < 0 ∨ (8 : Int) ≤ x1.toInt := by
    have q0 : ¬ x1.toInt = 0 := s_tne hc0 (by decide)
    have q1 : ¬ x1.toInt = 1 := s_tne hc1 (by decide)
    have q2 : ¬ x1.toInt = 2 := s_tne hc2 (by decide)
    have q3 : ¬ x1.toInt = 3 := s_tne hc3 (by decide)
    have q4 : ¬ x1.toInt = 4 := s_tne hc4 (by decide)
    have q5 : ¬ x1.toInt = 5 := s_tne hc5 (by decide)
    have q6 : ¬ x1.toInt = 6 := s_tne hc6 (by decide)
    have q7 : ¬ x1.toInt = 7 := s_tne hc7 (by decide)
    omega
  refine s_Fin.nx (pc1 := 119) (L1 := [some (.ref 130), some (.int x1)]) (st1 := []) (h1 := s_hg (s_si g 130 0 (0 : Int32))) ((show _ = s_ts x1.toInt 6 [some (.ref 130), some (.int x1)] [] (s_hg (s_si g 130 0 (0 : Int32))) 113 0 [46, 54, 62, 70, 83, 88, 96, 104] from rfl).trans (s_ts_ms (n := 8) rfl ht (t := 119) rfl)) rfl ?_
  refine s_Fin.sg 1 (y := (120, [some (.ref 130), some (.int x1)], [.int (-1 : Int32)], s_hg (s_si g 130 0 (0 : Int32)))) rfl ?_
  have hB := Option.some.inj hB
  subst hB
  obtain ⟨rfl, rfl⟩ := hr
  exact s_Fin.rt rfl rfl
-- CampAshes$State.isWet
noncomputable def fT_isWet_17 (g : s_G) : Option (Int32) :=
  if 0 < (g.1 3 11) then (if (g.1 3 11) = 0 then none else if (((g.1 17 8) + (1 : Int32)) - ((g.1 17 8) + (1 : Int32)) / (g.1 3 11) * (g.1 3 11)) = 0 then (some (1 : Int32))
  else some (0 : Int32))
  else some (0 : Int32)
theorem fT_isWet_17_s {g : s_G} {z : Int32} (hB : fT_isWet_17 g = some z) : s_Ev 0 s_m57 [.ref 17] (s_hg g) (some (.int z)) (s_hg g) := by
  unfold fT_isWet_17 at hB
  refine s_Ev.fin ((?_ : ∀ (v : Option Value) (h' : s_H), (fun (z : Int32) (v : Option Value) (h' : s_H) => v = some (.int z) ∧ h' = s_hg g) z v h' → s_Fin 0 s_m57 (0, s_ent [.ref 17] (s_m57).2.2.1, [], s_hg g) v h') _ _ ⟨rfl, rfl⟩)
  intro v h' hr
  refine (show s_Fin 0 s_m57 (0, [some (.ref 17)], [], s_hg g) v h' from ?_)
  refine s_Fin.sg 3 (y := (7, [some (.ref 17)], [.int (g.1 3 11)], s_hg g)) rfl ?_
  by_cases hc : 0 < (g.1 3 11)
  · rw [if_pos hc] at hB
    refine s_Fin.bf (c := (g.1 3 11) ≤ 0) (tg := 31) (p2 := 7) (L1 := [some (.ref 17)]) (st1 := []) (Int32.not_le.mpr hc) rfl ?_
    refine s_Fin.sg 7 (y := (23, [some (.ref 17)], [.int (g.1 3 11), .int ((g.1 17 8) + (1 : Int32))], s_hg g)) rfl ?_
    have hc : ¬ (g.1 3 11) = 0 := fun h => (by rw [if_pos h] at hB; cases hB)
    rw [if_neg hc] at hB
    refine s_Fin.gd (c := (g.1 3 11) = 0) (pc1 := 24) (L1 := [some (.ref 17)]) (st1 := [.int (((g.1 17 8) + (1 : Int32)) - ((g.1 17 8) + (1 : Int32)) / (g.1 3 11) * (g.1 3 11))]) (h1 := s_hg g) hc rfl rfl ?_
    by_cases hc : (((g.1 17 8) + (1 : Int32)) - ((g.1 17 8) + (1 : Int32)) / (g.1 3 11) * (g.1 3 11)) = 0
    · rw [if_pos hc] at hB
      refine s_Fin.bf (c := ¬ (((g.1 17 8) + (1 : Int32)) - ((g.1 17 8) + (1 : Int32)) / (g.1 3 11) * (g.1 3 11)) = 0) (tg := 31) (p2 := 24) (L1 := [some (.ref 17)]) (st1 := []) (fun h => h hc) rfl ?_
      refine s_Fin.sg 2 (y := (32, [some (.ref 17)], [.int (1 : Int32)], s_hg g)) rfl ?_
      have hB := Option.some.inj hB
      subst hB
      obtain ⟨rfl, rfl⟩ := hr
      exact s_Fin.rt rfl rfl
    · rw [if_neg hc] at hB
      refine s_Fin.bt (c := ¬ (((g.1 17 8) + (1 : Int32)) - ((g.1 17 8) + (1 : Int32)) / (g.1 3 11) * (g.1 3 11)) = 0) (tg := 31) (p2 := 24) (L1 := [some (.ref 17)]) (st1 := []) hc rfl ?_
      refine s_Fin.sg 1 (y := (32, [some (.ref 17)], [.int (0 : Int32)], s_hg g)) rfl ?_
      have hB := Option.some.inj hB
      subst hB
      obtain ⟨rfl, rfl⟩ := hr
      exact s_Fin.rt rfl rfl
  · rw [if_neg hc] at hB
    refine s_Fin.bt (c := (g.1 3 11) ≤ 0) (tg := 31) (p2 := 7) (L1 := [some (.ref 17)]) (st1 := []) (Int32.not_lt.mp hc) rfl ?_
    refine s_Fin.sg 1 (y := (32, [some (.ref 17)], [.int (0 : Int32)], s_hg g)) rfl ?_
    have hB := Option.some.inj hB
    subst hB
    obtain ⟨rfl, rfl⟩ := hr
    exact s_Fin.rt rfl rfl
-- CampAshes$State.isOver
noncomputable def fT_isOver_17 (x1 : Int32) (g : s_G) : Option (Int32) :=
  s_b1 (s_ix 7 x1) fun k2 => if (g.1 5 k2) < (g.1 19 k2) then (some (1 : Int32))
  else some (0 : Int32)
theorem fT_isOver_17_s {x1 : Int32} {g : s_G} {z : Int32} (hB : fT_isOver_17 x1 g = some z) : s_Ev 0 s_m59 [.ref 17, .int x1] (s_hg g) (some (.int z)) (s_hg g) := by
  unfold fT_isOver_17 at hB
  refine s_Ev.fin ((?_ : ∀ (v : Option Value) (h' : s_H), (fun (z : Int32) (v : Option Value) (h' : s_H) => v = some (.int z) ∧ h' = s_hg g) z v h' → s_Fin 0 s_m59 (0, s_ent [.ref 17, .int x1] (s_m59).2.2.1, [], s_hg g) v h') _ _ ⟨rfl, rfl⟩)
  intro v h' hr
  refine (show s_Fin 0 s_m59 (0, [some (.ref 17), some (.int x1)], [], s_hg g) v h' from ?_)
  refine s_Fin.sg 3 (y := (5, [some (.ref 17), some (.int x1)], [.int x1, .ref 19], s_hg g)) rfl ?_
  obtain ⟨k2, hk2, hB⟩ := s_bd hB
  refine s_Fin.ix (n := 7) (i := x1) (pc1 := 6) (L1 := [some (.ref 17), some (.int x1)]) (fun j1 => [.int (g.1 19 j1)]) (fun j1 => s_hg g) hk2 rfl rfl ?_
  refine s_Fin.sg 4 (y := (14, [some (.ref 17), some (.int x1)], [.int x1, .ref 5, .int (g.1 19 k2)], s_hg g)) rfl ?_
  refine s_Fin.ix (n := 7) (i := x1) (pc1 := 15) (L1 := [some (.ref 17), some (.int x1)]) (fun j3 => [.int (g.1 5 j3), .int (g.1 19 k2)]) (fun j3 => s_hg g) hk2 rfl rfl ?_
  by_cases hc : (g.1 5 k2) < (g.1 19 k2)
  · rw [if_pos hc] at hB
    refine s_Fin.bf (c := (g.1 19 k2) ≤ (g.1 5 k2)) (tg := 22) (p2 := 15) (L1 := [some (.ref 17), some (.int x1)]) (st1 := []) (Int32.not_le.mpr hc) rfl ?_
    refine s_Fin.sg 2 (y := (23, [some (.ref 17), some (.int x1)], [.int (1 : Int32)], s_hg g)) rfl ?_
    have hB := Option.some.inj hB
    subst hB
    obtain ⟨rfl, rfl⟩ := hr
    exact s_Fin.rt rfl rfl
  · rw [if_neg hc] at hB
    refine s_Fin.bt (c := (g.1 19 k2) ≤ (g.1 5 k2)) (tg := 22) (p2 := 15) (L1 := [some (.ref 17), some (.int x1)]) (st1 := []) (Int32.not_lt.mp hc) rfl ?_
    refine s_Fin.sg 1 (y := (23, [some (.ref 17), some (.int x1)], [.int (0 : Int32)], s_hg g)) rfl ?_
    have hB := Option.some.inj hB
    subst hB
    obtain ⟨rfl, rfl⟩ := hr
    exact s_Fin.rt rfl rfl
-- CampAshes$State.overBits
noncomputable def fT_overBits_17_4 (x1 : Int32) (x2 : Int32) (g : s_G) : Option ((Int32 × Int32) ⊕ (Int32)) :=
  if x2 < (g.1 3 0) then (s_b1 (fT_isOver_17 x2 g) fun v1 => if v1 = 0 then (some (.inl (x1, x2 + (1 : Int32))))
  else some (.inl (x1 ||| ((1 : Int32) <<< (x2 &&& 31)), x2 + (1 : Int32))))
  else s_in (some x1)
theorem fT_overBits_17_4_s {x1 : Int32} {x2 : Int32} {g : s_G} {z : (Int32 × Int32) ⊕ (Int32)} (hB : fT_overBits_17_4 x1 x2 g = some z) {v : Option Value} {h' : s_H} (hr : (s_sm (fun (x : Int32 × Int32) (v : Option Value) (h' : s_H) => s_Fin 1 s_m58 (4, [some (.ref 17), some (.int x.1), some (.int x.2)], [], s_hg g) v h') (fun (z : Int32) (v : Option Value) (h' : s_H) => v = some (.int z) ∧ h' = s_hg g)) z v h') : s_Fin 1 s_m58 (4, [some (.ref 17), some (.int x1), some (.int x2)], [], s_hg g) v h' := by
  unfold fT_overBits_17_4 at hB
  refine s_Fin.sg 4 (y := (12, [some (.ref 17), some (.int x1), some (.int x2)], [.int (g.1 3 0), .int x2], s_hg g)) rfl ?_
  by_cases hc : x2 < (g.1 3 0)
  · rw [if_pos hc] at hB
    refine s_Fin.bf (c := (g.1 3 0) ≤ x2) (tg := 35) (p2 := 12) (L1 := [some (.ref 17), some (.int x1), some (.int x2)]) (st1 := []) (Int32.not_le.mpr hc) rfl ?_
    refine s_Fin.sg 2 (y := (17, [some (.ref 17), some (.int x1), some (.int x2)], [.int x2, .ref 17], s_hg g)) rfl ?_
    obtain ⟨v1, hp, hB⟩ := s_bd hB
    refine s_Fin.cl (d := 0) (q1 := s_m59) (md := 59) (vs := [.ref 17, .int x2]) (rest := []) (h1 := s_hg g) (u := some (.int v1)) (s_Ev.up (by omega) (fT_isOver_17_s hp)) rfl rfl rfl rfl ?_
    by_cases hc : v1 = 0
    · rw [if_pos hc] at hB
      refine s_Fin.bt (c := v1 = 0) (tg := 29) (p2 := 20) (L1 := [some (.ref 17), some (.int x1), some (.int x2)]) (st1 := []) hc rfl ?_
      refine s_Fin.sg 2 (y := (4, [some (.ref 17), some (.int x1), some (.int (x2 + (1 : Int32)))], [], s_hg g)) rfl ?_
      have hB := Option.some.inj hB
      subst hB
      exact s_Fin.more (L := [some (.ref 17), some (.int x1), some (.int (x2 + (1 : Int32)))]) ⟨Or.inr rfl, Or.inr rfl, Or.inr rfl, trivial⟩ hr
    · rw [if_neg hc] at hB
      refine s_Fin.bf (c := v1 = 0) (tg := 29) (p2 := 20) (L1 := [some (.ref 17), some (.int x1), some (.int x2)]) (st1 := []) hc rfl ?_
      refine s_Fin.sg 8 (y := (4, [some (.ref 17), some (.int (x1 ||| ((1 : Int32) <<< (x2 &&& 31)))), some (.int (x2 + (1 : Int32)))], [], s_hg g)) rfl ?_
      have hB := Option.some.inj hB
      subst hB
      exact s_Fin.more (L := [some (.ref 17), some (.int (x1 ||| ((1 : Int32) <<< (x2 &&& 31)))), some (.int (x2 + (1 : Int32)))]) ⟨Or.inr rfl, Or.inr rfl, Or.inr rfl, trivial⟩ hr
  · rw [if_neg hc] at hB
    refine s_Fin.bt (c := (g.1 3 0) ≤ x2) (tg := 35) (p2 := 12) (L1 := [some (.ref 17), some (.int x1), some (.int x2)]) (st1 := []) (Int32.not_lt.mp hc) rfl ?_
    obtain ⟨_, hN, hz⟩ := s_in_of hB
    subst hz
    have hB := hN
    refine s_Fin.sg 1 (y := (36, [some (.ref 17), some (.int x1), some (.int x2)], [.int x1], s_hg g)) rfl ?_
    have hB := Option.some.inj hB
    subst hB
    obtain ⟨rfl, rfl⟩ := hr
    exact s_Fin.rt rfl rfl
noncomputable def fT_overBits_17 (g : s_G) : Option (Int32) :=
  s_lp (fun x => fT_overBits_17_4 x.1 x.2 g) ((0 : Int32), (0 : Int32))
theorem fT_overBits_17_s {g : s_G} {z : Int32} (hB : fT_overBits_17 g = some z) : s_Ev 1 s_m58 [.ref 17] (s_hg g) (some (.int z)) (s_hg g) := by
  unfold fT_overBits_17 at hB
  refine s_Ev.fin ((?_ : ∀ (v : Option Value) (h' : s_H), (fun (z : Int32) (v : Option Value) (h' : s_H) => v = some (.int z) ∧ h' = s_hg g) z v h' → s_Fin 1 s_m58 (0, s_ent [.ref 17] (s_m58).2.2.1, [], s_hg g) v h') _ _ ⟨rfl, rfl⟩)
  intro v h' hr
  refine (show s_Fin 1 s_m58 (0, [some (.ref 17), none, none], [], s_hg g) v h' from ?_)
  refine s_Fin.sg 4 (y := (4, [some (.ref 17), some (.int (0 : Int32)), some (.int (0 : Int32))], [], s_hg g)) rfl ?_
  exact s_Fin.more (L := [some (.ref 17), some (.int (0 : Int32)), some (.int (0 : Int32))]) ⟨Or.inr rfl, Or.inr rfl, Or.inr rfl, trivial⟩ (s_lp_s (P := (fun (x : Int32 × Int32) (v : Option Value) (h' : s_H) => s_Fin 1 s_m58 (4, [some (.ref 17), some (.int x.1), some (.int x.2)], [], s_hg g) v h')) (Q := (fun (z : Int32) (v : Option Value) (h' : s_H) => v = some (.int z) ∧ h' = s_hg g)) (fun x z hB v h' hr => fT_overBits_17_4_s hB hr) hB _ _ hr)
-- CampAshes$State.allLoads
noncomputable def fT_allLoads_17_4 (x1 : Int32) (x2 : Int32) (g : s_G) : Option ((Int32 × Int32) ⊕ (Int32)) :=
  if x2 < (g.1 3 0) then (s_b1 (s_ix 7 x2) fun k2 => some (.inl (x1 + (g.1 19 k2), x2 + (1 : Int32))))
  else s_in (some x1)
theorem fT_allLoads_17_4_s {x1 : Int32} {x2 : Int32} {g : s_G} {z : (Int32 × Int32) ⊕ (Int32)} (hB : fT_allLoads_17_4 x1 x2 g = some z) {v : Option Value} {h' : s_H} (hr : (s_sm (fun (x : Int32 × Int32) (v : Option Value) (h' : s_H) => s_Fin 0 s_m60 (4, [some (.ref 17), some (.int x.1), some (.int x.2)], [], s_hg g) v h') (fun (z : Int32) (v : Option Value) (h' : s_H) => v = some (.int z) ∧ h' = s_hg g)) z v h') : s_Fin 0 s_m60 (4, [some (.ref 17), some (.int x1), some (.int x2)], [], s_hg g) v h' := by
  unfold fT_allLoads_17_4 at hB
  refine s_Fin.sg 4 (y := (12, [some (.ref 17), some (.int x1), some (.int x2)], [.int (g.1 3 0), .int x2], s_hg g)) rfl ?_
  by_cases hc : x2 < (g.1 3 0)
  · rw [if_pos hc] at hB
    refine s_Fin.bf (c := (g.1 3 0) ≤ x2) (tg := 30) (p2 := 12) (L1 := [some (.ref 17), some (.int x1), some (.int x2)]) (st1 := []) (Int32.not_le.mpr hc) rfl ?_
    refine s_Fin.sg 4 (y := (21, [some (.ref 17), some (.int x1), some (.int x2)], [.int x2, .ref 19, .int x1], s_hg g)) rfl ?_
    obtain ⟨k2, hk2, hB⟩ := s_bd hB
    refine s_Fin.ix (n := 7) (i := x2) (pc1 := 22) (L1 := [some (.ref 17), some (.int x1), some (.int x2)]) (fun j1 => [.int (g.1 19 j1), .int x1]) (fun j1 => s_hg g) hk2 rfl rfl ?_
    refine s_Fin.sg 4 (y := (4, [some (.ref 17), some (.int (x1 + (g.1 19 k2))), some (.int (x2 + (1 : Int32)))], [], s_hg g)) rfl ?_
    have hB := Option.some.inj hB
    subst hB
    exact s_Fin.more (L := [some (.ref 17), some (.int (x1 + (g.1 19 k2))), some (.int (x2 + (1 : Int32)))]) ⟨Or.inr rfl, Or.inr rfl, Or.inr rfl, trivial⟩ hr
  · rw [if_neg hc] at hB
    refine s_Fin.bt (c := (g.1 3 0) ≤ x2) (tg := 30) (p2 := 12) (L1 := [some (.ref 17), some (.int x1), some (.int x2)]) (st1 := []) (Int32.not_lt.mp hc) rfl ?_
    obtain ⟨_, hN, hz⟩ := s_in_of hB
    subst hz
    have hB := hN
    refine s_Fin.sg 1 (y := (31, [some (.ref 17), some (.int x1), some (.int x2)], [.int x1], s_hg g)) rfl ?_
    have hB := Option.some.inj hB
    subst hB
    obtain ⟨rfl, rfl⟩ := hr
    exact s_Fin.rt rfl rfl
noncomputable def fT_allLoads_17 (g : s_G) : Option (Int32) :=
  s_lp (fun x => fT_allLoads_17_4 x.1 x.2 g) ((0 : Int32), (0 : Int32))
theorem fT_allLoads_17_s {g : s_G} {z : Int32} (hB : fT_allLoads_17 g = some z) : s_Ev 0 s_m60 [.ref 17] (s_hg g) (some (.int z)) (s_hg g) := by
  unfold fT_allLoads_17 at hB
  refine s_Ev.fin ((?_ : ∀ (v : Option Value) (h' : s_H), (fun (z : Int32) (v : Option Value) (h' : s_H) => v = some (.int z) ∧ h' = s_hg g) z v h' → s_Fin 0 s_m60 (0, s_ent [.ref 17] (s_m60).2.2.1, [], s_hg g) v h') _ _ ⟨rfl, rfl⟩)
  intro v h' hr
  refine (show s_Fin 0 s_m60 (0, [some (.ref 17), none, none], [], s_hg g) v h' from ?_)
  refine s_Fin.sg 4 (y := (4, [some (.ref 17), some (.int (0 : Int32)), some (.int (0 : Int32))], [], s_hg g)) rfl ?_
  exact s_Fin.more (L := [some (.ref 17), some (.int (0 : Int32)), some (.int (0 : Int32))]) ⟨Or.inr rfl, Or.inr rfl, Or.inr rfl, trivial⟩ (s_lp_s (P := (fun (x : Int32 × Int32) (v : Option Value) (h' : s_H) => s_Fin 0 s_m60 (4, [some (.ref 17), some (.int x.1), some (.int x.2)], [], s_hg g) v h')) (Q := (fun (z : Int32) (v : Option Value) (h' : s_H) => v = some (.int z) ∧ h' = s_hg g)) (fun x z hB v h' hr => fT_allLoads_17_4_s hB hr) hB _ _ hr)
-- CampAshes.now
noncomputable def fC_now_0 (x1 : Int32) (g : s_G) : Option (Int32) :=
  if x1 = 0 then (some (g.1 17 8))
  else if x1 = 1 then (some (g.1 17 6))
  else if x1 = 2 then (some (g.1 17 7))
  else if x1 = 3 then (s_b1 (fT_isWet_17 g) fun v1 => if v1 = 0 then (some (0 : Int32))
  else some (1 : Int32))
  else if x1 = 4 then (s_b1 (fT_overBits_17 g) fun v2 => some v2)
  else if x1 = 5 then (some (g.1 17 5))
  else if x1 = 6 then (some (g.1 17 9))
  else if x1 = 7 then (s_b1 (fT_allLoads_17 g) fun v3 => some v3)
  else some (-1 : Int32)
theorem fC_now_0_s {x1 : Int32} {g : s_G} {z : Int32} (hB : fC_now_0 x1 g = some z) : s_Ev 2 s_m56 [.ref 0, .int x1] (s_hg g) (some (.int z)) (s_hg g) := by
  unfold fC_now_0 at hB
  refine s_Ev.fin ((?_ : ∀ (v : Option Value) (h' : s_H), (fun (z : Int32) (v : Option Value) (h' : s_H) => v = some (.int z) ∧ h' = s_hg g) z v h' → s_Fin 2 s_m56 (0, s_ent [.ref 0, .int x1] (s_m56).2.2.1, [], s_hg g) v h') _ _ ⟨rfl, rfl⟩)
  intro v h' hr
  refine (show s_Fin 2 s_m56 (0, [some (.ref 0), some (.int x1)], [], s_hg g) v h' from ?_)
  refine s_Fin.sg 1 (y := (1, [some (.ref 0), some (.int x1)], [.int x1], s_hg g)) rfl ?_
  by_cases hc0 : x1 = 0
  · rw [if_pos hc0] at hB
    refine s_Fin.nx (pc1 := 48) (L1 := [some (.ref 0), some (.int x1)]) (st1 := []) (h1 := s_hg g) (by rw [hc0]; exact rfl) rfl ?_
    refine s_Fin.sg 3 (y := (55, [some (.ref 0), some (.int x1)], [.int (g.1 17 8)], s_hg g)) rfl ?_
    have hB := Option.some.inj hB
    subst hB
    obtain ⟨rfl, rfl⟩ := hr
    exact s_Fin.rt rfl rfl
  rw [if_neg hc0] at hB
  by_cases hc1 : x1 = 1
  · rw [if_pos hc1] at hB
    refine s_Fin.nx (pc1 := 56) (L1 := [some (.ref 0), some (.int x1)]) (st1 := []) (h1 := s_hg g) (by rw [hc1]; exact rfl) rfl ?_
    refine s_Fin.sg 3 (y := (63, [some (.ref 0), some (.int x1)], [.int (g.1 17 6)], s_hg g)) rfl ?_
    have hB := Option.some.inj hB
    subst hB
    obtain ⟨rfl, rfl⟩ := hr
    exact s_Fin.rt rfl rfl
  rw [if_neg hc1] at hB
  by_cases hc2 : x1 = 2
  · rw [if_pos hc2] at hB
    refine s_Fin.nx (pc1 := 64) (L1 := [some (.ref 0), some (.int x1)]) (st1 := []) (h1 := s_hg g) (by rw [hc2]; exact rfl) rfl ?_
    refine s_Fin.sg 3 (y := (71, [some (.ref 0), some (.int x1)], [.int (g.1 17 7)], s_hg g)) rfl ?_
    have hB := Option.some.inj hB
    subst hB
    obtain ⟨rfl, rfl⟩ := hr
    exact s_Fin.rt rfl rfl
  rw [if_neg hc2] at hB
  by_cases hc3 : x1 = 3
  · rw [if_pos hc3] at hB
    refine s_Fin.nx (pc1 := 72) (L1 := [some (.ref 0), some (.int x1)]) (st1 := []) (h1 := s_hg g) (by rw [hc3]; exact rfl) rfl ?_
    refine s_Fin.sg 2 (y := (76, [some (.ref 0), some (.int x1)], [.ref 17], s_hg g)) rfl ?_
    obtain ⟨v1, hp, hB⟩ := s_bd hB
    refine s_Fin.cl (d := 1) (q1 := s_m57) (md := 57) (vs := [.ref 17]) (rest := []) (h1 := s_hg g) (u := some (.int v1)) (s_Ev.up (by omega) (fT_isWet_17_s hp)) rfl rfl rfl rfl ?_
    by_cases hc : v1 = 0
    · rw [if_pos hc] at hB
      refine s_Fin.bt (c := v1 = 0) (tg := 86) (p2 := 79) (L1 := [some (.ref 0), some (.int x1)]) (st1 := []) hc rfl ?_
      refine s_Fin.sg 1 (y := (87, [some (.ref 0), some (.int x1)], [.int (0 : Int32)], s_hg g)) rfl ?_
      have hB := Option.some.inj hB
      subst hB
      obtain ⟨rfl, rfl⟩ := hr
      exact s_Fin.rt rfl rfl
    · rw [if_neg hc] at hB
      refine s_Fin.bf (c := v1 = 0) (tg := 86) (p2 := 79) (L1 := [some (.ref 0), some (.int x1)]) (st1 := []) hc rfl ?_
      refine s_Fin.sg 2 (y := (87, [some (.ref 0), some (.int x1)], [.int (1 : Int32)], s_hg g)) rfl ?_
      have hB := Option.some.inj hB
      subst hB
      obtain ⟨rfl, rfl⟩ := hr
      exact s_Fin.rt rfl rfl
  rw [if_neg hc3] at hB
  by_cases hc4 : x1 = 4
  · rw [if_pos hc4] at hB
    refine s_Fin.nx (pc1 := 88) (L1 := [some (.ref 0), some (.int x1)]) (st1 := []) (h1 := s_hg g) (by rw [hc4]; exact rfl) rfl ?_
    refine s_Fin.sg 2 (y := (92, [some (.ref 0), some (.int x1)], [.ref 17], s_hg g)) rfl ?_
    obtain ⟨v2, hp, hB⟩ := s_bd hB
    refine s_Fin.cl (d := 1) (q1 := s_m58) (md := 58) (vs := [.ref 17]) (rest := []) (h1 := s_hg g) (u := some (.int v2)) (s_Ev.up (by omega) (fT_overBits_17_s hp)) rfl rfl rfl rfl ?_
    have hB := Option.some.inj hB
    subst hB
    obtain ⟨rfl, rfl⟩ := hr
    exact s_Fin.rt rfl rfl
  rw [if_neg hc4] at hB
  by_cases hc5 : x1 = 5
  · rw [if_pos hc5] at hB
    refine s_Fin.nx (pc1 := 96) (L1 := [some (.ref 0), some (.int x1)]) (st1 := []) (h1 := s_hg g) (by rw [hc5]; exact rfl) rfl ?_
    refine s_Fin.sg 3 (y := (103, [some (.ref 0), some (.int x1)], [.int (g.1 17 5)], s_hg g)) rfl ?_
    have hB := Option.some.inj hB
    subst hB
    obtain ⟨rfl, rfl⟩ := hr
    exact s_Fin.rt rfl rfl
  rw [if_neg hc5] at hB
  by_cases hc6 : x1 = 6
  · rw [if_pos hc6] at hB
    refine s_Fin.nx (pc1 := 104) (L1 := [some (.ref 0), some (.int x1)]) (st1 := []) (h1 := s_hg g) (by rw [hc6]; exact rfl) rfl ?_
    refine s_Fin.sg 3 (y := (111, [some (.ref 0), some (.int x1)], [.int (g.1 17 9)], s_hg g)) rfl ?_
    have hB := Option.some.inj hB
    subst hB
    obtain ⟨rfl, rfl⟩ := hr
    exact s_Fin.rt rfl rfl
  rw [if_neg hc6] at hB
  by_cases hc7 : x1 = 7
  · rw [if_pos hc7] at hB
    refine s_Fin.nx (pc1 := 112) (L1 := [some (.ref 0), some (.int x1)]) (st1 := []) (h1 := s_hg g) (by rw [hc7]; exact rfl) rfl ?_
    refine s_Fin.sg 2 (y := (116, [some (.ref 0), some (.int x1)], [.ref 17], s_hg g)) rfl ?_
    obtain ⟨v3, hp, hB⟩ := s_bd hB
    refine s_Fin.cl (d := 1) (q1 := s_m60) (md := 60) (vs := [.ref 17]) (rest := []) (h1 := s_hg g) (u := some (.int v3)) (s_Ev.up (by omega) (fT_allLoads_17_s hp)) rfl rfl rfl rfl ?_
    have hB := Option.some.inj hB
    subst hB
    obtain ⟨rfl, rfl⟩ := hr
    exact s_Fin.rt rfl rfl
  rw [if_neg hc7] at hB
  have ht : x1.toInt < 0 ∨ (8 : Int) ≤ x1.toInt := by
    have q0 : ¬ x1.toInt = 0 := s_tne hc0 (by decide)
    have q1 : ¬ x1.toInt = 1 := s_tne hc1 (by decide)
    have q2 : ¬ x1.toInt = 2 := s_tne hc2 (by decide)
    have q3 : ¬ x1.toInt = 3 := s_tne hc3 (by decide)
    have q4 : ¬ x1.toInt = 4 := s_tne hc4 (by decide)
    have q5 : ¬ x1.toInt = 5 := s_tne hc5 (by decide)
    have q6 : ¬ x1.toInt = 6 := s_tne hc6 (by decide)
    have q7 : ¬ x1.toInt = 7 := s_tne hc7 (by decide)
    omega
  refine s_Fin.nx (pc1 := 120) (L1 := [some (.ref 0), some (.int x1)]) (st1 := []) (h1 := s_hg g) ((show _ = s_ts x1.toInt 1 [some (.ref 0), some (.int x1)] [] (s_hg g) 119 0 [47, 55, 63, 71, 87, 95, 103, 111] from rfl).trans (s_ts_ms (n := 8) rfl ht (t := 120) rfl)) rfl ?_
  refine s_Fin.sg 1 (y := (121, [some (.ref 0), some (.int x1)], [.int (-1 : Int32)], s_hg g)) rfl ?_
  have hB := Option.some.inj hB
  subst hB
  obtain ⟨rfl, rfl⟩ := hr
  exact s_Fin.rt rfl rfl
-- CampAshesModel.whySay
noncomputable def fM_whySay_130 (x1 : Int32) (x2 : Int32) (g : s_G) : Option (Int32) :=
  s_b1 (fM_onOf_130 x1 x2 g) fun v1 => if v1 = 0 then (some (1 : Int32))
  else s_b1 (fM_isWet_130 g) fun v2 => if v2 = 0 then (if (g.1 132 48) = 0 then (some (3 : Int32))
  else s_b1 (fM_isHushed_130 x1 g) fun v3 => if v3 = 0 then (some (0 : Int32))
  else some (4 : Int32))
  else some (2 : Int32)
theorem fM_whySay_130_s {x1 : Int32} {x2 : Int32} {g : s_G} {z : Int32} (hB : fM_whySay_130 x1 x2 g = some z) : s_Ev 2 s_m213 [.ref 130, .int x1, .int x2] (s_hg g) (some (.int z)) (s_hg g) := by
  unfold fM_whySay_130 at hB
  refine s_Ev.fin ((?_ : ∀ (v : Option Value) (h' : s_H), (fun (z : Int32) (v : Option Value) (h' : s_H) => v = some (.int z) ∧ h' = s_hg g) z v h' → s_Fin 2 s_m213 (0, s_ent [.ref 130, .int x1, .int x2] (s_m213).2.2.1, [], s_hg g) v h') _ _ ⟨rfl, rfl⟩)
  intro v h' hr
  refine (show s_Fin 2 s_m213 (0, [some (.ref 130), some (.int x1), some (.int x2)], [], s_hg g) v h' from ?_)
  refine s_Fin.sg 3 (y := (3, [some (.ref 130), some (.int x1), some (.int x2)], [.int x2, .int x1, .ref 130], s_hg g)) rfl ?_
  obtain ⟨v1, hp, hB⟩ := s_bd hB
  refine s_Fin.cl (d := 1) (q1 := s_m199) (md := 199) (vs := [.ref 130, .int x1, .int x2]) (rest := []) (h1 := s_hg g) (u := some (.int v1)) (s_Ev.up (by omega) (fM_onOf_130_s hp)) rfl rfl rfl rfl ?_
  by_cases hc : v1 = 0
  · rw [if_pos hc] at hB
    refine s_Fin.bf (c := ¬ v1 = 0) (tg := 13) (p2 := 6) (L1 := [some (.ref 130), some (.int x1), some (.int x2)]) (st1 := []) (fun h => h hc) rfl ?_
    refine s_Fin.sg 2 (y := (51, [some (.ref 130), some (.int x1), some (.int x2)], [.int (1 : Int32)], s_hg g)) rfl ?_
    have hB := Option.some.inj hB
    subst hB
    obtain ⟨rfl, rfl⟩ := hr
    exact s_Fin.rt rfl rfl
  · rw [if_neg hc] at hB
    refine s_Fin.bt (c := ¬ v1 = 0) (tg := 13) (p2 := 6) (L1 := [some (.ref 130), some (.int x1), some (.int x2)]) (st1 := []) hc rfl ?_
    refine s_Fin.sg 1 (y := (14, [some (.ref 130), some (.int x1), some (.int x2)], [.ref 130], s_hg g)) rfl ?_
    obtain ⟨v2, hp, hB⟩ := s_bd hB
    refine s_Fin.cl (d := 1) (q1 := s_m208) (md := 208) (vs := [.ref 130]) (rest := []) (h1 := s_hg g) (u := some (.int v2)) (s_Ev.up (by omega) (fM_isWet_130_s hp)) rfl rfl rfl rfl ?_
    by_cases hc : v2 = 0
    · rw [if_pos hc] at hB
      refine s_Fin.bt (c := v2 = 0) (tg := 24) (p2 := 17) (L1 := [some (.ref 130), some (.int x1), some (.int x2)]) (st1 := []) hc rfl ?_
      refine s_Fin.sg 4 (y := (31, [some (.ref 130), some (.int x1), some (.int x2)], [.int (g.1 132 48)], s_hg g)) rfl ?_
      by_cases hc : (g.1 132 48) = 0
      · rw [if_pos hc] at hB
        refine s_Fin.bf (c := ¬ (g.1 132 48) = 0) (tg := 38) (p2 := 31) (L1 := [some (.ref 130), some (.int x1), some (.int x2)]) (st1 := []) (fun h => h hc) rfl ?_
        refine s_Fin.sg 2 (y := (51, [some (.ref 130), some (.int x1), some (.int x2)], [.int (3 : Int32)], s_hg g)) rfl ?_
        have hB := Option.some.inj hB
        subst hB
        obtain ⟨rfl, rfl⟩ := hr
        exact s_Fin.rt rfl rfl
      · rw [if_neg hc] at hB
        refine s_Fin.bt (c := ¬ (g.1 132 48) = 0) (tg := 38) (p2 := 31) (L1 := [some (.ref 130), some (.int x1), some (.int x2)]) (st1 := []) hc rfl ?_
        refine s_Fin.sg 2 (y := (40, [some (.ref 130), some (.int x1), some (.int x2)], [.int x1, .ref 130], s_hg g)) rfl ?_
        obtain ⟨v3, hp, hB⟩ := s_bd hB
        refine s_Fin.cl (d := 1) (q1 := s_m197) (md := 197) (vs := [.ref 130, .int x1]) (rest := []) (h1 := s_hg g) (u := some (.int v3)) (s_Ev.up (by omega) (fM_isHushed_130_s hp)) rfl rfl rfl rfl ?_
        by_cases hc : v3 = 0
        · rw [if_pos hc] at hB
          refine s_Fin.bt (c := v3 = 0) (tg := 50) (p2 := 43) (L1 := [some (.ref 130), some (.int x1), some (.int x2)]) (st1 := []) hc rfl ?_
          refine s_Fin.sg 1 (y := (51, [some (.ref 130), some (.int x1), some (.int x2)], [.int (0 : Int32)], s_hg g)) rfl ?_
          have hB := Option.some.inj hB
          subst hB
          obtain ⟨rfl, rfl⟩ := hr
          exact s_Fin.rt rfl rfl
        · rw [if_neg hc] at hB
          refine s_Fin.bf (c := v3 = 0) (tg := 50) (p2 := 43) (L1 := [some (.ref 130), some (.int x1), some (.int x2)]) (st1 := []) hc rfl ?_
          refine s_Fin.sg 2 (y := (51, [some (.ref 130), some (.int x1), some (.int x2)], [.int (4 : Int32)], s_hg g)) rfl ?_
          have hB := Option.some.inj hB
          subst hB
          obtain ⟨rfl, rfl⟩ := hr
          exact s_Fin.rt rfl rfl
    · rw [if_neg hc] at hB
      refine s_Fin.bf (c := v2 = 0) (tg := 24) (p2 := 17) (L1 := [some (.ref 130), some (.int x1), some (.int x2)]) (st1 := []) hc rfl ?_
      refine s_Fin.sg 2 (y := (51, [some (.ref 130), some (.int x1), some (.int x2)], [.int (2 : Int32)], s_hg g)) rfl ?_
      have hB := Option.some.inj hB
      subst hB
      obtain ⟨rfl, rfl⟩ := hr
      exact s_Fin.rt rfl rfl
-- CampAshesModel.why
noncomputable def fM_why_130 (x1 : Int32) (x2 : Int32) (x3 : Int32) (x4 : Int32) (x5 : Int32) (g : s_G) : Option (Int32) :=
  if x1 = 0 then (s_b1 (fM_whySay_130 x2 x3 g) fun v1 => some v1)
  else if x1 = 1 then (s_b1 (fM_whySay_130 x2 x3 g) fun v2 => some v2)
  else if x1 = 2 then (if x2 = x4 then (some (1 : Int32))
  else s_b1 (fM_onOf_130 x2 x3 g) fun v3 => if v3 < x5 then (some (2 : Int32))
  else s_b1 (fM_loadOf_130 x4 g) fun v4 => s_b1 (s_ix 375 ((10 : Int32) + x4)) fun k6 => if (g.1 132 k6) < (v4 + x5) then (some (3 : Int32))
  else some (0 : Int32))
  else if x1 = 3 then (if (g.1 132 49) = 0 then (some (1 : Int32))
  else if (g.1 132 48) = (30 : Int32) then (some (2 : Int32))
  else some (0 : Int32))
  else s_b1 (fM_sum_130 (52 : Int32) (4 : Int32) g) fun v7 => if v7 = 0 then (some (1 : Int32))
  else some (0 : Int32)
theorem fM_why_130_s {x1 : Int32} {x2 : Int32} {x3 : Int32} {x4 : Int32} {x5 : Int32} {g : s_G} {z : Int32} (hB : fM_why_130 x1 x2 x3 x4 x5 g = some z) : s_Ev 3 s_m212 [.ref 130, .int x1, .int x2, .int x3, .int x4, .int x5] (s_hg g) (some (.int z)) (s_hg g) := by
  unfold fM_why_130 at hB
  refine s_Ev.fin ((?_ : ∀ (v : Option Value) (h' : s_H), (fun (z : Int32) (v : Option Value) (h' : s_H) => v = some (.int z) ∧ h' = s_hg g) z v h' → s_Fin 3 s_m212 (0, s_ent [.ref 130, .int x1, .int x2, .int x3, .int x4, .int x5] (s_m212).2.2.1, [], s_hg g) v h') _ _ ⟨rfl, rfl⟩)
  intro v h' hr
  refine (show s_Fin 3 s_m212 (0, [some (.ref 130), some (.int x1), some (.int x2), some (.int x3), some (.int x4), some (.int x5)], [], s_hg g) v h' from ?_)
  refine s_Fin.sg 1 (y := (1, [some (.ref 130), some (.int x1), some (.int x2), some (.int x3), some (.int x4), some (.int x5)], [.int x1], s_hg g)) rfl ?_
  by_cases hc0 : x1 = 0
  · rw [if_pos hc0] at hB
    refine s_Fin.nx (pc1 := 32) (L1 := [some (.ref 130), some (.int x1), some (.int x2), some (.int x3), some (.int x4), some (.int x5)]) (st1 := []) (h1 := s_hg g) (by rw [hc0]; exact rfl) rfl ?_
    refine s_Fin.sg 3 (y := (35, [some (.ref 130), some (.int x1), some (.int x2), some (.int x3), some (.int x4), some (.int x5)], [.int x3, .int x2, .ref 130], s_hg g)) rfl ?_
    obtain ⟨v1, hp, hB⟩ := s_bd hB
    refine s_Fin.cl (d := 2) (q1 := s_m213) (md := 213) (vs := [.ref 130, .int x2, .int x3]) (rest := []) (h1 := s_hg g) (u := some (.int v1)) (s_Ev.up (by omega) (fM_whySay_130_s hp)) rfl rfl rfl rfl ?_
    have hB := Option.some.inj hB
    subst hB
    obtain ⟨rfl, rfl⟩ := hr
    exact s_Fin.rt rfl rfl
  rw [if_neg hc0] at hB
  by_cases hc1 : x1 = 1
  · rw [if_pos hc1] at hB
    refine s_Fin.nx (pc1 := 32) (L1 := [some (.ref 130), some (.int x1), some (.int x2), some (.int x3), some (.int x4), some (.int x5)]) (st1 := []) (h1 := s_hg g) (by rw [hc1]; exact rfl) rfl ?_
    refine s_Fin.sg 3 (y := (35, [some (.ref 130), some (.int x1), some (.int x2), some (.int x3), some (.int x4), some (.int x5)], [.int x3, .int x2, .ref 130], s_hg g)) rfl ?_
    obtain ⟨v2, hp, hB⟩ := s_bd hB
    refine s_Fin.cl (d := 2) (q1 := s_m213) (md := 213) (vs := [.ref 130, .int x2, .int x3]) (rest := []) (h1 := s_hg g) (u := some (.int v2)) (s_Ev.up (by omega) (fM_whySay_130_s hp)) rfl rfl rfl rfl ?_
    have hB := Option.some.inj hB
    subst hB
    obtain ⟨rfl, rfl⟩ := hr
    exact s_Fin.rt rfl rfl
  rw [if_neg hc1] at hB
  by_cases hc2 : x1 = 2
  · rw [if_pos hc2] at hB
    refine s_Fin.nx (pc1 := 39) (L1 := [some (.ref 130), some (.int x1), some (.int x2), some (.int x3), some (.int x4), some (.int x5)]) (st1 := []) (h1 := s_hg g) (by rw [hc2]; exact rfl) rfl ?_
    refine s_Fin.sg 2 (y := (42, [some (.ref 130), some (.int x1), some (.int x2), some (.int x3), some (.int x4), some (.int x5)], [.int x4, .int x2], s_hg g)) rfl ?_
    by_cases hc : x2 = x4
    · rw [if_pos hc] at hB
      refine s_Fin.bf (c := ¬ x2 = x4) (tg := 49) (p2 := 42) (L1 := [some (.ref 130), some (.int x1), some (.int x2), some (.int x3), some (.int x4), some (.int x5)]) (st1 := []) (fun h => h hc) rfl ?_
      refine s_Fin.sg 2 (y := (91, [some (.ref 130), some (.int x1), some (.int x2), some (.int x3), some (.int x4), some (.int x5)], [.int (1 : Int32)], s_hg g)) rfl ?_
      have hB := Option.some.inj hB
      subst hB
      obtain ⟨rfl, rfl⟩ := hr
      exact s_Fin.rt rfl rfl
    · rw [if_neg hc] at hB
      refine s_Fin.bt (c := ¬ x2 = x4) (tg := 49) (p2 := 42) (L1 := [some (.ref 130), some (.int x1), some (.int x2), some (.int x3), some (.int x4), some (.int x5)]) (st1 := []) hc rfl ?_
      refine s_Fin.sg 3 (y := (52, [some (.ref 130), some (.int x1), some (.int x2), some (.int x3), some (.int x4), some (.int x5)], [.int x3, .int x2, .ref 130], s_hg g)) rfl ?_
      obtain ⟨v3, hp, hB⟩ := s_bd hB
      refine s_Fin.cl (d := 2) (q1 := s_m199) (md := 199) (vs := [.ref 130, .int x2, .int x3]) (rest := []) (h1 := s_hg g) (u := some (.int v3)) (s_Ev.up (by omega) (fM_onOf_130_s hp)) rfl rfl rfl rfl ?_
      refine s_Fin.sg 1 (y := (57, [some (.ref 130), some (.int x1), some (.int x2), some (.int x3), some (.int x4), some (.int x5)], [.int x5, .int v3], s_hg g)) rfl ?_
      by_cases hc : v3 < x5
      · rw [if_pos hc] at hB
        refine s_Fin.bf (c := x5 ≤ v3) (tg := 64) (p2 := 57) (L1 := [some (.ref 130), some (.int x1), some (.int x2), some (.int x3), some (.int x4), some (.int x5)]) (st1 := []) (Int32.not_le.mpr hc) rfl ?_
        refine s_Fin.sg 2 (y := (91, [some (.ref 130), some (.int x1), some (.int x2), some (.int x3), some (.int x4), some (.int x5)], [.int (2 : Int32)], s_hg g)) rfl ?_
        have hB := Option.some.inj hB
        subst hB
        obtain ⟨rfl, rfl⟩ := hr
        exact s_Fin.rt rfl rfl
      · rw [if_neg hc] at hB
        refine s_Fin.bt (c := x5 ≤ v3) (tg := 64) (p2 := 57) (L1 := [some (.ref 130), some (.int x1), some (.int x2), some (.int x3), some (.int x4), some (.int x5)]) (st1 := []) (Int32.not_lt.mp hc) rfl ?_
        refine s_Fin.sg 2 (y := (67, [some (.ref 130), some (.int x1), some (.int x2), some (.int x3), some (.int x4), some (.int x5)], [.int x4, .ref 130], s_hg g)) rfl ?_
        obtain ⟨v4, hp, hB⟩ := s_bd hB
        refine s_Fin.cl (d := 2) (q1 := s_m194) (md := 194) (vs := [.ref 130, .int x4]) (rest := []) (h1 := s_hg g) (u := some (.int v4)) (s_Ev.up (by omega) (fM_loadOf_130_s hp)) rfl rfl rfl rfl ?_
        refine s_Fin.sg 7 (y := (82, [some (.ref 130), some (.int x1), some (.int x2), some (.int x3), some (.int x4), some (.int x5)], [.int ((10 : Int32) + x4), .ref 132, .int (v4 + x5)], s_hg g)) rfl ?_
        obtain ⟨k6, hk6, hB⟩ := s_bd hB
        refine s_Fin.ix (n := 375) (i := (10 : Int32) + x4) (pc1 := 83) (L1 := [some (.ref 130), some (.int x1), some (.int x2), some (.int x3), some (.int x4), some (.int x5)]) (fun j5 => [.int (g.1 132 j5), .int (v4 + x5)]) (fun j5 => s_hg g) hk6 rfl rfl ?_
        by_cases hc : (g.1 132 k6) < (v4 + x5)
        · rw [if_pos hc] at hB
          refine s_Fin.bf (c := (v4 + x5) ≤ (g.1 132 k6)) (tg := 90) (p2 := 83) (L1 := [some (.ref 130), some (.int x1), some (.int x2), some (.int x3), some (.int x4), some (.int x5)]) (st1 := []) (Int32.not_le.mpr hc) rfl ?_
          refine s_Fin.sg 2 (y := (91, [some (.ref 130), some (.int x1), some (.int x2), some (.int x3), some (.int x4), some (.int x5)], [.int (3 : Int32)], s_hg g)) rfl ?_
          have hB := Option.some.inj hB
          subst hB
          obtain ⟨rfl, rfl⟩ := hr
          exact s_Fin.rt rfl rfl
        · rw [if_neg hc] at hB
          refine s_Fin.bt (c := (v4 + x5) ≤ (g.1 132 k6)) (tg := 90) (p2 := 83) (L1 := [some (.ref 130), some (.int x1), some (.int x2), some (.int x3), some (.int x4), some (.int x5)]) (st1 := []) (Int32.not_lt.mp hc) rfl ?_
          refine s_Fin.sg 1 (y := (91, [some (.ref 130), some (.int x1), some (.int x2), some (.int x3), some (.int x4), some (.int x5)], [.int (0 : Int32)], s_hg g)) rfl ?_
          have hB := Option.some.inj hB
          subst hB
          obtain ⟨rfl, rfl⟩ := hr
          exact s_Fin.rt rfl rfl
  rw [if_neg hc2] at hB
  by_cases hc3 : x1 = 3
  · rw [if_pos hc3] at hB
    refine s_Fin.nx (pc1 := 92) (L1 := [some (.ref 130), some (.int x1), some (.int x2), some (.int x3), some (.int x4), some (.int x5)]) (st1 := []) (h1 := s_hg g) (by rw [hc3]; exact rfl) rfl ?_
    refine s_Fin.sg 4 (y := (99, [some (.ref 130), some (.int x1), some (.int x2), some (.int x3), some (.int x4), some (.int x5)], [.int (g.1 132 49)], s_hg g)) rfl ?_
    by_cases hc : (g.1 132 49) = 0
    · rw [if_pos hc] at hB
      refine s_Fin.bf (c := ¬ (g.1 132 49) = 0) (tg := 106) (p2 := 99) (L1 := [some (.ref 130), some (.int x1), some (.int x2), some (.int x3), some (.int x4), some (.int x5)]) (st1 := []) (fun h => h hc) rfl ?_
      refine s_Fin.sg 2 (y := (123, [some (.ref 130), some (.int x1), some (.int x2), some (.int x3), some (.int x4), some (.int x5)], [.int (1 : Int32)], s_hg g)) rfl ?_
      have hB := Option.some.inj hB
      subst hB
      obtain ⟨rfl, rfl⟩ := hr
      exact s_Fin.rt rfl rfl
    · rw [if_neg hc] at hB
      refine s_Fin.bt (c := ¬ (g.1 132 49) = 0) (tg := 106) (p2 := 99) (L1 := [some (.ref 130), some (.int x1), some (.int x2), some (.int x3), some (.int x4), some (.int x5)]) (st1 := []) hc rfl ?_
      refine s_Fin.sg 5 (y := (115, [some (.ref 130), some (.int x1), some (.int x2), some (.int x3), some (.int x4), some (.int x5)], [.int (30 : Int32), .int (g.1 132 48)], s_hg g)) rfl ?_
      by_cases hc : (g.1 132 48) = (30 : Int32)
      · rw [if_pos hc] at hB
        refine s_Fin.bf (c := ¬ (g.1 132 48) = (30 : Int32)) (tg := 122) (p2 := 115) (L1 := [some (.ref 130), some (.int x1), some (.int x2), some (.int x3), some (.int x4), some (.int x5)]) (st1 := []) (fun h => h hc) rfl ?_
        refine s_Fin.sg 2 (y := (123, [some (.ref 130), some (.int x1), some (.int x2), some (.int x3), some (.int x4), some (.int x5)], [.int (2 : Int32)], s_hg g)) rfl ?_
        have hB := Option.some.inj hB
        subst hB
        obtain ⟨rfl, rfl⟩ := hr
        exact s_Fin.rt rfl rfl
      · rw [if_neg hc] at hB
        refine s_Fin.bt (c := ¬ (g.1 132 48) = (30 : Int32)) (tg := 122) (p2 := 115) (L1 := [some (.ref 130), some (.int x1), some (.int x2), some (.int x3), some (.int x4), some (.int x5)]) (st1 := []) hc rfl ?_
        refine s_Fin.sg 1 (y := (123, [some (.ref 130), some (.int x1), some (.int x2), some (.int x3), some (.int x4), some (.int x5)], [.int (0 : Int32)], s_hg g)) rfl ?_
        have hB := Option.some.inj hB
        subst hB
        obtain ⟨rfl, rfl⟩ := hr
        exact s_Fin.rt rfl rfl
  rw [if_neg hc3] at hB
  have ht : x1.toInt < 0 ∨ (4 : Int) ≤ x1.toInt := by
    have q0 : ¬ x1.toInt = 0 := s_tne hc0 (by decide)
    have q1 : ¬ x1.toInt = 1 := s_tne hc1 (by decide)
    have q2 : ¬ x1.toInt = 2 := s_tne hc2 (by decide)
    have q3 : ¬ x1.toInt = 3 := s_tne hc3 (by decide)
    omega
  refine s_Fin.nx (pc1 := 124) (L1 := [some (.ref 130), some (.int x1), some (.int x2), some (.int x3), some (.int x4), some (.int x5)]) (st1 := []) (h1 := s_hg g) ((show _ = s_ts x1.toInt 1 [some (.ref 130), some (.int x1), some (.int x2), some (.int x3), some (.int x4), some (.int x5)] [] (s_hg g) 123 0 [31, 31, 38, 91] from rfl).trans (s_ts_ms (n := 4) rfl ht (t := 124) rfl)) rfl ?_
  refine s_Fin.sg 3 (y := (128, [some (.ref 130), some (.int x1), some (.int x2), some (.int x3), some (.int x4), some (.int x5)], [.int (4 : Int32), .int (52 : Int32), .ref 130], s_hg g)) rfl ?_
  obtain ⟨v7, hp, hB⟩ := s_bd hB
  refine s_Fin.cl (d := 2) (q1 := s_m195) (md := 195) (vs := [.ref 130, .int (52 : Int32), .int (4 : Int32)]) (rest := []) (h1 := s_hg g) (u := some (.int v7)) (s_Ev.up (by omega) (fM_sum_130_s hp)) rfl rfl rfl rfl ?_
  by_cases hc : v7 = 0
  · rw [if_pos hc] at hB
    refine s_Fin.bf (c := ¬ v7 = 0) (tg := 138) (p2 := 131) (L1 := [some (.ref 130), some (.int x1), some (.int x2), some (.int x3), some (.int x4), some (.int x5)]) (st1 := []) (fun h => h hc) rfl ?_
    refine s_Fin.sg 2 (y := (139, [some (.ref 130), some (.int x1), some (.int x2), some (.int x3), some (.int x4), some (.int x5)], [.int (1 : Int32)], s_hg g)) rfl ?_
    have hB := Option.some.inj hB
    subst hB
    obtain ⟨rfl, rfl⟩ := hr
    exact s_Fin.rt rfl rfl
  · rw [if_neg hc] at hB
    refine s_Fin.bt (c := ¬ v7 = 0) (tg := 138) (p2 := 131) (L1 := [some (.ref 130), some (.int x1), some (.int x2), some (.int x3), some (.int x4), some (.int x5)]) (st1 := []) hc rfl ?_
    refine s_Fin.sg 1 (y := (139, [some (.ref 130), some (.int x1), some (.int x2), some (.int x3), some (.int x4), some (.int x5)], [.int (0 : Int32)], s_hg g)) rfl ?_
    have hB := Option.some.inj hB
    subst hB
    obtain ⟨rfl, rfl⟩ := hr
    exact s_Fin.rt rfl rfl
