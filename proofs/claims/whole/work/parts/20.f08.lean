-- CampAshesModel.isHushed
noncomputable def fM_isHushed_130 (x1 : Int32) (g : s_G) : Option (Int32) :=
  s_b1 (fM_has_s (g.1 132 50) x1 g) fun v1 => if v1 = 0 ∨ v1 = 1 then some v1
  else none
theorem fM_isHushed_130_s {x1 : Int32} {g : s_G} {z : Int32} (hB : fM_isHushed_130 x1 g = some z) : s_Ev 1 s_m197 [.ref 130, .int x1] (s_hg g) (some (.int z)) (s_hg g) := by
  unfold fM_isHushed_130 at hB
  refine s_Ev.fin ((?_ : ∀ (v : Option Value) (h' : s_H), (fun (z : Int32) (v : Option Value) (h' : s_H) => v = some (.int z) ∧ h' = s_hg g) z v h' → s_Fin 1 s_m197 (0, s_ent [.ref 130, .int x1] (s_m197).2.2.1, [], s_hg g) v h') _ _ ⟨rfl, rfl⟩)
  intro v h' hr
  refine (show s_Fin 1 s_m197 (0, [some (.ref 130), some (.int x1)], [], s_hg g) v h' from ?_)
  refine s_Fin.sg 5 (y := (8, [some (.ref 130), some (.int x1)], [.int x1, .int (g.1 132 50)], s_hg g)) rfl ?_
  obtain ⟨v1, hp, hB⟩ := s_bd hB
  refine s_Fin.cl (d := 0) (q1 := s_m198) (md := 198) (vs := [.int (g.1 132 50), .int x1]) (rest := []) (h1 := s_hg g) (u := some (.int v1)) (s_Ev.up (by omega) (fM_has_s_s hp)) rfl rfl rfl rfl ?_
  have hc : v1 = 0 ∨ v1 = 1 := Classical.byContradiction fun h => (by rw [if_neg h] at hB; cases hB)
  rw [if_pos hc] at hB
  have hB := Option.some.inj hB
  subst hB
  obtain ⟨rfl, rfl⟩ := hr
  exact s_Fin.rt (by rcases hc with hc | hc <;> rw [hc] <;> exact rfl) rfl
-- CampAshesModel.onOf
noncomputable def fM_onOf_130 (x1 : Int32) (x2 : Int32) (g : s_G) : Option (Int32) :=
  s_b1 (s_ix 375 (((63 : Int32) + ((10 : Int32) * x1)) + x2)) fun k2 => some (g.1 132 k2)
theorem fM_onOf_130_s {x1 : Int32} {x2 : Int32} {g : s_G} {z : Int32} (hB : fM_onOf_130 x1 x2 g = some z) : s_Ev 0 s_m199 [.ref 130, .int x1, .int x2] (s_hg g) (some (.int z)) (s_hg g) := by
  unfold fM_onOf_130 at hB
  refine s_Ev.fin ((?_ : ∀ (v : Option Value) (h' : s_H), (fun (z : Int32) (v : Option Value) (h' : s_H) => v = some (.int z) ∧ h' = s_hg g) z v h' → s_Fin 0 s_m199 (0, s_ent [.ref 130, .int x1, .int x2] (s_m199).2.2.1, [], s_hg g) v h') _ _ ⟨rfl, rfl⟩)
  intro v h' hr
  refine (show s_Fin 0 s_m199 (0, [some (.ref 130), some (.int x1), some (.int x2)], [], s_hg g) v h' from ?_)
  refine s_Fin.sg 9 (y := (13, [some (.ref 130), some (.int x1), some (.int x2)], [.int (((63 : Int32) + ((10 : Int32) * x1)) + x2), .ref 132], s_hg g)) rfl ?_
  obtain ⟨k2, hk2, hB⟩ := s_bd hB
  refine s_Fin.ix (n := 375) (i := ((63 : Int32) + ((10 : Int32) * x1)) + x2) (pc1 := 14) (L1 := [some (.ref 130), some (.int x1), some (.int x2)]) (fun j1 => [.int (g.1 132 j1)]) (fun j1 => s_hg g) hk2 rfl rfl ?_
  have hB := Option.some.inj hB
  subst hB
  obtain ⟨rfl, rfl⟩ := hr
  exact s_Fin.rt rfl rfl
-- CampAshesModel.boy
noncomputable def fM_boy_130_115 (x1 : Int32) (x3 : Int32) (x4 : Int32) (g : s_G) : Option ((Int32 × Int32) ⊕ (Int32 × s_G)) :=
  if x4 < (10 : Int32) then (s_b1 (fM_onOf_130 x1 x4 g) fun v11 => if 0 < v11 then (some (.inl (x3 ||| ((1 : Int32) <<< (x4 &&& 31)), x4 + (1 : Int32))))
  else some (.inl (x3, x4 + (1 : Int32))))
  else s_in (some (x3, g))
theorem fM_boy_130_115_s {x1 : Int32} {x3 : Int32} {x4 : Int32} {g : s_G} {z : (Int32 × Int32) ⊕ (Int32 × s_G)} (hB : fM_boy_130_115 x1 x3 x4 g = some z) {v : Option Value} {h' : s_H} (hr : (s_sm (fun (x : Int32 × Int32) (v : Option Value) (h' : s_H) => s_Fin 3 s_m191 (115, [some (.ref 130), some (.int x1), none, some (.int x.1), some (.int x.2)], [], s_hg g) v h') (fun (z : Int32 × s_G) (v : Option Value) (h' : s_H) => v = some (.int z.1) ∧ h' = s_hg z.2)) z v h') : s_Fin 3 s_m191 (115, [some (.ref 130), some (.int x1), none, some (.int x3), some (.int x4)], [], s_hg g) v h' := by
  unfold fM_boy_130_115 at hB
  refine s_Fin.sg 2 (y := (119, [some (.ref 130), some (.int x1), none, some (.int x3), some (.int x4)], [.int (10 : Int32), .int x4], s_hg g)) rfl ?_
  by_cases hc : x4 < (10 : Int32)
  · rw [if_pos hc] at hB
    refine s_Fin.bf (c := (10 : Int32) ≤ x4) (tg := 145) (p2 := 119) (L1 := [some (.ref 130), some (.int x1), none, some (.int x3), some (.int x4)]) (st1 := []) (Int32.not_le.mpr hc) rfl ?_
    refine s_Fin.sg 3 (y := (126, [some (.ref 130), some (.int x1), none, some (.int x3), some (.int x4)], [.int x4, .int x1, .ref 130], s_hg g)) rfl ?_
    obtain ⟨v11, hp, hB⟩ := s_bd hB
    refine s_Fin.cl (d := 2) (q1 := s_m199) (md := 199) (vs := [.ref 130, .int x1, .int x4]) (rest := []) (h1 := s_hg g) (u := some (.int v11)) (s_Ev.up (by omega) (fM_onOf_130_s hp)) rfl rfl rfl rfl ?_
    by_cases hc : 0 < v11
    · rw [if_pos hc] at hB
      refine s_Fin.bf (c := v11 ≤ 0) (tg := 139) (p2 := 129) (L1 := [some (.ref 130), some (.int x1), none, some (.int x3), some (.int x4)]) (st1 := []) (Int32.not_le.mpr hc) rfl ?_
      refine s_Fin.sg 8 (y := (115, [some (.ref 130), some (.int x1), none, some (.int (x3 ||| ((1 : Int32) <<< (x4 &&& 31)))), some (.int (x4 + (1 : Int32)))], [], s_hg g)) rfl ?_
      have hB := Option.some.inj hB
      subst hB
      exact s_Fin.more (L := [some (.ref 130), some (.int x1), none, some (.int (x3 ||| ((1 : Int32) <<< (x4 &&& 31)))), some (.int (x4 + (1 : Int32)))]) ⟨Or.inr rfl, Or.inr rfl, Or.inl rfl, Or.inr rfl, Or.inr rfl, trivial⟩ hr
    · rw [if_neg hc] at hB
      refine s_Fin.bt (c := v11 ≤ 0) (tg := 139) (p2 := 129) (L1 := [some (.ref 130), some (.int x1), none, some (.int x3), some (.int x4)]) (st1 := []) (Int32.not_lt.mp hc) rfl ?_
      refine s_Fin.sg 2 (y := (115, [some (.ref 130), some (.int x1), none, some (.int x3), some (.int (x4 + (1 : Int32)))], [], s_hg g)) rfl ?_
      have hB := Option.some.inj hB
      subst hB
      exact s_Fin.more (L := [some (.ref 130), some (.int x1), none, some (.int x3), some (.int (x4 + (1 : Int32)))]) ⟨Or.inr rfl, Or.inr rfl, Or.inl rfl, Or.inr rfl, Or.inr rfl, trivial⟩ hr
  · rw [if_neg hc] at hB
    refine s_Fin.bt (c := (10 : Int32) ≤ x4) (tg := 145) (p2 := 119) (L1 := [some (.ref 130), some (.int x1), none, some (.int x3), some (.int x4)]) (st1 := []) (Int32.not_lt.mp hc) rfl ?_
    obtain ⟨_, hN, hz⟩ := s_in_of hB
    subst hz
    have hB := hN
    refine s_Fin.sg 1 (y := (146, [some (.ref 130), some (.int x1), none, some (.int x3), some (.int x4)], [.int x3], s_hg g)) rfl ?_
    have hB := Option.some.inj hB
    subst hB
    obtain ⟨rfl, rfl⟩ := hr
    exact s_Fin.rt rfl rfl
noncomputable def fM_boy_130 (x1 : Int32) (x2 : Int32) (g : s_G) : Option (Int32 × s_G) :=
  s_b1 (fM_isBoy_130 x1 (s_si g 130 0 (0 : Int32))) fun v1 => if v1 = 0 then (s_b2 (fM_refuse_130 (s_si g 130 0 (0 : Int32))) fun v3 g2 => some (v3, g2))
  else if x2 = 0 then (s_b1 (fM_loadOf_130 x1 (s_si g 130 0 (0 : Int32))) fun v4 => some (v4, (s_si g 130 0 (0 : Int32))))
  else if x2 = 1 then (s_b1 (s_ix 375 ((10 : Int32) + x1)) fun k6 => some (g.1 132 k6, (s_si g 130 0 (0 : Int32))))
  else if x2 = 2 then (s_b1 (fM_isOver_130 x1 (s_si g 130 0 (0 : Int32))) fun v7 => if v7 = 0 then (some ((0 : Int32), (s_si g 130 0 (0 : Int32))))
  else some ((1 : Int32), (s_si g 130 0 (0 : Int32))))
  else if x2 = 3 then (s_b1 (fM_isHushed_130 x1 (s_si g 130 0 (0 : Int32))) fun v8 => if v8 = 0 then (some ((0 : Int32), (s_si g 130 0 (0 : Int32))))
  else some ((1 : Int32), (s_si g 130 0 (0 : Int32))))
  else if x2 = 4 then (s_b1 (s_ix 375 ((56 : Int32) + x1)) fun k10 => some (g.1 132 k10, (s_si g 130 0 (0 : Int32))))
  else if x2 = 5 then (s_lp (fun x => fM_boy_130_115 x1 x.1 x.2 (s_si g 130 0 (0 : Int32))) ((0 : Int32), (0 : Int32)))
  else s_b2 (fM_refuse_130 (s_si g 130 0 (0 : Int32))) fun v13 g12 => some (v13, g12)
theorem fM_boy_130_s {x1 : Int32} {x2 : Int32} {g : s_G} {z : Int32 × s_G} (hB : fM_boy_130 x1 x2 g = some z) : s_Ev 3 s_m191 [.ref 130, .int x1, .int x2] (s_hg g) (some (.int z.1)) (s_hg z.2) := by
  unfold fM_boy_130 at hB
  refine s_Ev.fin ((?_ : ∀ (v : Option Value) (h' : s_H), (fun (z : Int32 × s_G) (v : Option Value) (h' : s_H) => v = some (.int z.1) ∧ h' = s_hg z.2) z v h' → s_Fin 3 s_m191 (0, s_ent [.ref 130, .int x1, .int x2] (s_m191).2.2.1, [], s_hg g) v h') _ _ ⟨rfl, rfl⟩)
  intro v h' hr
  refine (show s_Fin 3 s_m191 (0, [some (.ref 130), some (.int x1), some (.int x2), none, none], [], s_hg g) v h' from ?_)
  refine s_Fin.sg 5 (y := (7, [some (.ref 130), some (.int x1), some (.int x2), none, none], [.int x1, .ref 130], s_hg (s_si g 130 0 (0 : Int32)))) rfl ?_
  obtain ⟨v1, hp, hB⟩ := s_bd hB
  refine s_Fin.cl (d := 2) (q1 := s_m192) (md := 192) (vs := [.ref 130, .int x1]) (rest := []) (h1 := s_hg (s_si g 130 0 (0 : Int32))) (u := some (.int v1)) (s_Ev.up (by omega) (fM_isBoy_130_s hp)) rfl rfl rfl rfl ?_
  by_cases hc : v1 = 0
  · rw [if_pos hc] at hB
    refine s_Fin.bf (c := ¬ v1 = 0) (tg := 18) (p2 := 10) (L1 := [some (.ref 130), some (.int x1), some (.int x2), none, none]) (st1 := []) (fun h => h hc) rfl ?_
    refine s_Fin.sg 1 (y := (14, [some (.ref 130), some (.int x1), some (.int x2), none, none], [.ref 130], s_hg (s_si g 130 0 (0 : Int32)))) rfl ?_
    obtain ⟨v3, g2, hp, hB⟩ := s_bd2 hB
    refine s_Fin.cl (d := 2) (q1 := s_m193) (md := 193) (vs := [.ref 130]) (rest := []) (h1 := s_hg g2) (u := some (.int v3)) (s_Ev.up (by omega) (fM_refuse_130_s hp)) rfl rfl rfl rfl ?_
    have hB := Option.some.inj hB
    subst hB
    obtain ⟨rfl, rfl⟩ := hr
    exact s_Fin.rt rfl rfl
  · rw [if_neg hc] at hB
    refine s_Fin.bt (c := ¬ v1 = 0) (tg := 18) (p2 := 10) (L1 := [some (.ref 130), some (.int x1), some (.int x2), none, none]) (st1 := []) hc rfl ?_
    refine s_Fin.sg 1 (y := (19, [some (.ref 130), some (.int x1), some (.int x2), none, none], [.int x2], s_hg (s_si g 130 0 (0 : Int32)))) rfl ?_
    by_cases hc0 : x2 = 0
    · rw [if_pos hc0] at hB
      refine s_Fin.nx (pc1 := 56) (L1 := [some (.ref 130), some (.int x1), some (.int x2), none, none]) (st1 := []) (h1 := s_hg (s_si g 130 0 (0 : Int32))) (by rw [hc0]; exact rfl) rfl ?_
      refine s_Fin.sg 2 (y := (58, [some (.ref 130), some (.int x1), some (.int x2), none, none], [.int x1, .ref 130], s_hg (s_si g 130 0 (0 : Int32)))) rfl ?_
      obtain ⟨v4, hp, hB⟩ := s_bd hB
      refine s_Fin.cl (d := 2) (q1 := s_m194) (md := 194) (vs := [.ref 130, .int x1]) (rest := []) (h1 := s_hg (s_si g 130 0 (0 : Int32))) (u := some (.int v4)) (s_Ev.up (by omega) (fM_loadOf_130_s hp)) rfl rfl rfl rfl ?_
      have hB := Option.some.inj hB
      subst hB
      obtain ⟨rfl, rfl⟩ := hr
      exact s_Fin.rt rfl rfl
    rw [if_neg hc0] at hB
    by_cases hc1 : x2 = 1
    · rw [if_pos hc1] at hB
      refine s_Fin.nx (pc1 := 62) (L1 := [some (.ref 130), some (.int x1), some (.int x2), none, none]) (st1 := []) (h1 := s_hg (s_si g 130 0 (0 : Int32))) (by rw [hc1]; exact rfl) rfl ?_
      refine s_Fin.sg 5 (y := (70, [some (.ref 130), some (.int x1), some (.int x2), none, none], [.int ((10 : Int32) + x1), .ref 132], s_hg (s_si g 130 0 (0 : Int32)))) rfl ?_
      obtain ⟨k6, hk6, hB⟩ := s_bd hB
      refine s_Fin.ix (n := 375) (i := (10 : Int32) + x1) (pc1 := 71) (L1 := [some (.ref 130), some (.int x1), some (.int x2), none, none]) (fun j5 => [.int (g.1 132 j5)]) (fun j5 => s_hg (s_si g 130 0 (0 : Int32))) hk6 rfl rfl ?_
      have hB := Option.some.inj hB
      subst hB
      obtain ⟨rfl, rfl⟩ := hr
      exact s_Fin.rt rfl rfl
    rw [if_neg hc1] at hB
    by_cases hc2 : x2 = 2
    · rw [if_pos hc2] at hB
      refine s_Fin.nx (pc1 := 72) (L1 := [some (.ref 130), some (.int x1), some (.int x2), none, none]) (st1 := []) (h1 := s_hg (s_si g 130 0 (0 : Int32))) (by rw [hc2]; exact rfl) rfl ?_
      refine s_Fin.sg 2 (y := (74, [some (.ref 130), some (.int x1), some (.int x2), none, none], [.int x1, .ref 130], s_hg (s_si g 130 0 (0 : Int32)))) rfl ?_
      obtain ⟨v7, hp, hB⟩ := s_bd hB
      refine s_Fin.cl (d := 2) (q1 := s_m196) (md := 196) (vs := [.ref 130, .int x1]) (rest := []) (h1 := s_hg (s_si g 130 0 (0 : Int32))) (u := some (.int v7)) (s_Ev.up (by omega) (fM_isOver_130_s hp)) rfl rfl rfl rfl ?_
      by_cases hc : v7 = 0
      · rw [if_pos hc] at hB
        refine s_Fin.bt (c := v7 = 0) (tg := 84) (p2 := 77) (L1 := [some (.ref 130), some (.int x1), some (.int x2), none, none]) (st1 := []) hc rfl ?_
        refine s_Fin.sg 1 (y := (85, [some (.ref 130), some (.int x1), some (.int x2), none, none], [.int (0 : Int32)], s_hg (s_si g 130 0 (0 : Int32)))) rfl ?_
        have hB := Option.some.inj hB
        subst hB
        obtain ⟨rfl, rfl⟩ := hr
        exact s_Fin.rt rfl rfl
      · rw [if_neg hc] at hB
        refine s_Fin.bf (c := v7 = 0) (tg := 84) (p2 := 77) (L1 := [some (.ref 130), some (.int x1), some (.int x2), none, none]) (st1 := []) hc rfl ?_
        refine s_Fin.sg 2 (y := (85, [some (.ref 130), some (.int x1), some (.int x2), none, none], [.int (1 : Int32)], s_hg (s_si g 130 0 (0 : Int32)))) rfl ?_
        have hB := Option.some.inj hB
        subst hB
        obtain ⟨rfl, rfl⟩ := hr
        exact s_Fin.rt rfl rfl
    rw [if_neg hc2] at hB
    by_cases hc3 : x2 = 3
    · rw [if_pos hc3] at hB
      refine s_Fin.nx (pc1 := 86) (L1 := [some (.ref 130), some (.int x1), some (.int x2), none, none]) (st1 := []) (h1 := s_hg (s_si g 130 0 (0 : Int32))) (by rw [hc3]; exact rfl) rfl ?_
      refine s_Fin.sg 2 (y := (88, [some (.ref 130), some (.int x1), some (.int x2), none, none], [.int x1, .ref 130], s_hg (s_si g 130 0 (0 : Int32)))) rfl ?_
      obtain ⟨v8, hp, hB⟩ := s_bd hB
      refine s_Fin.cl (d := 2) (q1 := s_m197) (md := 197) (vs := [.ref 130, .int x1]) (rest := []) (h1 := s_hg (s_si g 130 0 (0 : Int32))) (u := some (.int v8)) (s_Ev.up (by omega) (fM_isHushed_130_s hp)) rfl rfl rfl rfl ?_
      by_cases hc : v8 = 0
      · rw [if_pos hc] at hB
        refine s_Fin.bt (c := v8 = 0) (tg := 98) (p2 := 91) (L1 := [some (.ref 130), some (.int x1), some (.int x2), none, none]) (st1 := []) hc rfl ?_
        refine s_Fin.sg 1 (y := (99, [some (.ref 130), some (.int x1), some (.int x2), none, none], [.int (0 : Int32)], s_hg (s_si g 130 0 (0 : Int32)))) rfl ?_
        have hB := Option.some.inj hB
        subst hB
        obtain ⟨rfl, rfl⟩ := hr
        exact s_Fin.rt rfl rfl
      · rw [if_neg hc] at hB
        refine s_Fin.bf (c := v8 = 0) (tg := 98) (p2 := 91) (L1 := [some (.ref 130), some (.int x1), some (.int x2), none, none]) (st1 := []) hc rfl ?_
        refine s_Fin.sg 2 (y := (99, [some (.ref 130), some (.int x1), some (.int x2), none, none], [.int (1 : Int32)], s_hg (s_si g 130 0 (0 : Int32)))) rfl ?_
        have hB := Option.some.inj hB
        subst hB
        obtain ⟨rfl, rfl⟩ := hr
        exact s_Fin.rt rfl rfl
    rw [if_neg hc3] at hB
    by_cases hc4 : x2 = 4
    · rw [if_pos hc4] at hB
      refine s_Fin.nx (pc1 := 100) (L1 := [some (.ref 130), some (.int x1), some (.int x2), none, none]) (st1 := []) (h1 := s_hg (s_si g 130 0 (0 : Int32))) (by rw [hc4]; exact rfl) rfl ?_
      refine s_Fin.sg 5 (y := (108, [some (.ref 130), some (.int x1), some (.int x2), none, none], [.int ((56 : Int32) + x1), .ref 132], s_hg (s_si g 130 0 (0 : Int32)))) rfl ?_
      obtain ⟨k10, hk10, hB⟩ := s_bd hB
      refine s_Fin.ix (n := 375) (i := (56 : Int32) + x1) (pc1 := 109) (L1 := [some (.ref 130), some (.int x1), some (.int x2), none, none]) (fun j9 => [.int (g.1 132 j9)]) (fun j9 => s_hg (s_si g 130 0 (0 : Int32))) hk10 rfl rfl ?_
      have hB := Option.some.inj hB
      subst hB
      obtain ⟨rfl, rfl⟩ := hr
      exact s_Fin.rt rfl rfl
    rw [if_neg hc4] at hB
    by_cases hc5 : x2 = 5
    · rw [if_pos hc5] at hB
      refine s_Fin.nx (pc1 := 110) (L1 := [some (.ref 130), some (.int x1), some (.int x2), none, none]) (st1 := []) (h1 := s_hg (s_si g 130 0 (0 : Int32))) (by rw [hc5]; exact rfl) rfl ?_
      refine s_Fin.sg 4 (y := (115, [some (.ref 130), some (.int x1), some (.int x2), some (.int (0 : Int32)), some (.int (0 : Int32))], [], s_hg (s_si g 130 0 (0 : Int32)))) rfl ?_
      exact s_Fin.more (L := [some (.ref 130), some (.int x1), none, some (.int (0 : Int32)), some (.int (0 : Int32))]) ⟨Or.inr rfl, Or.inr rfl, Or.inl rfl, Or.inr rfl, Or.inr rfl, trivial⟩ (s_lp_s (P := (fun (x : Int32 × Int32) (v : Option Value) (h' : s_H) => s_Fin 3 s_m191 (115, [some (.ref 130), some (.int x1), none, some (.int x.1), some (.int x.2)], [], s_hg (s_si g 130 0 (0 : Int32))) v h')) (Q := (fun (z : Int32 × s_G) (v : Option Value) (h' : s_H) => v = some (.int z.1) ∧ h' = s_hg z.2)) (fun x z hB v h' hr => fM_boy_130_115_s hB hr) hB _ _ hr)
    rw [if_neg hc5] at hB
    have ht : x2.toInt < 0 ∨ (6 : Int) ≤ x2.toInt := by
      have q0 : ¬ x2.toInt = 0 := s_tne hc0 (by decide)
      have q1 : ¬ x2.toInt = 1 := s_tne hc1 (by decide)
      have q2 : ¬ x2.toInt = 2 := s_tne hc2 (by decide)
      have q3 : ¬ x2.toInt = 3 := s_tne hc3 (by decide)
      have q4 : ¬ x2.toInt = 4 := s_tne hc4 (by decide)
      have q5 : ¬ x2.toInt = 5 := s_tne hc5 (by decide)
      omega
    refine s_Fin.nx (pc1 := 147) (L1 := [some (.ref 130), some (.int x1), some (.int x2), none, none]) (st1 := []) (h1 := s_hg (s_si g 130 0 (0 : Int32))) ((show _ = s_ts x2.toInt 19 [some (.ref 130), some (.int x1), some (.int x2), none, none] [] (s_hg (s_si g 130 0 (0 : Int32))) 128 0 [37, 43, 53, 67, 81, 91] from rfl).trans (s_ts_ms (n := 6) rfl ht (t := 147) rfl)) rfl ?_
    refine s_Fin.sg 1 (y := (148, [some (.ref 130), some (.int x1), some (.int x2), none, none], [.ref 130], s_hg (s_si g 130 0 (0 : Int32)))) rfl ?_
    obtain ⟨v13, g12, hp, hB⟩ := s_bd2 hB
    refine s_Fin.cl (d := 2) (q1 := s_m193) (md := 193) (vs := [.ref 130]) (rest := []) (h1 := s_hg g12) (u := some (.int v13)) (s_Ev.up (by omega) (fM_refuse_130_s hp)) rfl rfl rfl rfl ?_
    have hB := Option.some.inj hB
    subst hB
    obtain ⟨rfl, rfl⟩ := hr
    exact s_Fin.rt rfl rfl
-- CampAshesModel.isEvent
noncomputable def fM_isEvent_130 (x1 : Int32) (g : s_G) : Option (Int32) :=
  s_b1 (fM_isIn_s x1 (0 : Int32) ((g.1 132 1) - (1 : Int32)) g) fun v1 => if v1 = 0 ∨ v1 = 1 then some v1
  else none
theorem fM_isEvent_130_s {x1 : Int32} {g : s_G} {z : Int32} (hB : fM_isEvent_130 x1 g = some z) : s_Ev 1 s_m201 [.ref 130, .int x1] (s_hg g) (some (.int z)) (s_hg g) := by
  unfold fM_isEvent_130 at hB
  refine s_Ev.fin ((?_ : ∀ (v : Option Value) (h' : s_H), (fun (z : Int32) (v : Option Value) (h' : s_H) => v = some (.int z) ∧ h' = s_hg g) z v h' → s_Fin 1 s_m201 (0, s_ent [.ref 130, .int x1] (s_m201).2.2.1, [], s_hg g) v h') _ _ ⟨rfl, rfl⟩)
  intro v h' hr
  refine (show s_Fin 1 s_m201 (0, [some (.ref 130), some (.int x1)], [], s_hg g) v h' from ?_)
  refine s_Fin.sg 8 (y := (10, [some (.ref 130), some (.int x1)], [.int ((g.1 132 1) - (1 : Int32)), .int (0 : Int32), .int x1], s_hg g)) rfl ?_
  obtain ⟨v1, hp, hB⟩ := s_bd hB
  refine s_Fin.cl (d := 0) (q1 := s_m181) (md := 181) (vs := [.int x1, .int (0 : Int32), .int ((g.1 132 1) - (1 : Int32))]) (rest := []) (h1 := s_hg g) (u := some (.int v1)) (s_Ev.up (by omega) (fM_isIn_s_s hp)) rfl rfl rfl rfl ?_
  have hc : v1 = 0 ∨ v1 = 1 := Classical.byContradiction fun h => (by rw [if_neg h] at hB; cases hB)
  rw [if_pos hc] at hB
  have hB := Option.some.inj hB
  subst hB
  obtain ⟨rfl, rfl⟩ := hr
  exact s_Fin.rt (by rcases hc with hc | hc <;> rw [hc] <;> exact rfl) rfl
-- CampAshesModel.on
noncomputable def fM_on_130 (x1 : Int32) (x2 : Int32) (g : s_G) : Option (Int32 × s_G) :=
  s_b1 (fM_isEvent_130 x1 (s_si g 130 0 (0 : Int32))) fun v1 => if v1 = 0 then (some ((-1 : Int32), (s_si g 130 0 (0 : Int32))))
  else s_b1 (fM_isBoy_130 x2 (s_si g 130 0 (0 : Int32))) fun v2 => if v2 = 0 then (some ((-1 : Int32), (s_si g 130 0 (0 : Int32))))
  else s_b1 (fM_onOf_130 x2 x1 (s_si g 130 0 (0 : Int32))) fun v3 => some (v3, (s_si g 130 0 (0 : Int32)))
theorem fM_on_130_s {x1 : Int32} {x2 : Int32} {g : s_G} {z : Int32 × s_G} (hB : fM_on_130 x1 x2 g = some z) : s_Ev 2 s_m200 [.ref 130, .int x1, .int x2] (s_hg g) (some (.int z.1)) (s_hg z.2) := by
  unfold fM_on_130 at hB
  refine s_Ev.fin ((?_ : ∀ (v : Option Value) (h' : s_H), (fun (z : Int32 × s_G) (v : Option Value) (h' : s_H) => v = some (.int z.1) ∧ h' = s_hg z.2) z v h' → s_Fin 2 s_m200 (0, s_ent [.ref 130, .int x1, .int x2] (s_m200).2.2.1, [], s_hg g) v h') _ _ ⟨rfl, rfl⟩)
  intro v h' hr
  refine (show s_Fin 2 s_m200 (0, [some (.ref 130), some (.int x1), some (.int x2)], [], s_hg g) v h' from ?_)
  refine s_Fin.sg 5 (y := (7, [some (.ref 130), some (.int x1), some (.int x2)], [.int x1, .ref 130], s_hg (s_si g 130 0 (0 : Int32)))) rfl ?_
  obtain ⟨v1, hp, hB⟩ := s_bd hB
  refine s_Fin.cl (d := 1) (q1 := s_m201) (md := 201) (vs := [.ref 130, .int x1]) (rest := []) (h1 := s_hg (s_si g 130 0 (0 : Int32))) (u := some (.int v1)) (s_Ev.up (by omega) (fM_isEvent_130_s hp)) rfl rfl rfl rfl ?_
  by_cases hc : v1 = 0
  · rw [if_pos hc] at hB
    refine s_Fin.bt (c := v1 = 0) (tg := 30) (p2 := 10) (L1 := [some (.ref 130), some (.int x1), some (.int x2)]) (st1 := []) hc rfl ?_
    refine s_Fin.sg 1 (y := (31, [some (.ref 130), some (.int x1), some (.int x2)], [.int (-1 : Int32)], s_hg (s_si g 130 0 (0 : Int32)))) rfl ?_
    have hB := Option.some.inj hB
    subst hB
    obtain ⟨rfl, rfl⟩ := hr
    exact s_Fin.rt rfl rfl
  · rw [if_neg hc] at hB
    refine s_Fin.bf (c := v1 = 0) (tg := 30) (p2 := 10) (L1 := [some (.ref 130), some (.int x1), some (.int x2)]) (st1 := []) hc rfl ?_
    refine s_Fin.sg 2 (y := (15, [some (.ref 130), some (.int x1), some (.int x2)], [.int x2, .ref 130], s_hg (s_si g 130 0 (0 : Int32)))) rfl ?_
    obtain ⟨v2, hp, hB⟩ := s_bd hB
    refine s_Fin.cl (d := 1) (q1 := s_m192) (md := 192) (vs := [.ref 130, .int x2]) (rest := []) (h1 := s_hg (s_si g 130 0 (0 : Int32))) (u := some (.int v2)) (s_Ev.up (by omega) (fM_isBoy_130_s hp)) rfl rfl rfl rfl ?_
    by_cases hc : v2 = 0
    · rw [if_pos hc] at hB
      refine s_Fin.bt (c := v2 = 0) (tg := 30) (p2 := 18) (L1 := [some (.ref 130), some (.int x1), some (.int x2)]) (st1 := []) hc rfl ?_
      refine s_Fin.sg 1 (y := (31, [some (.ref 130), some (.int x1), some (.int x2)], [.int (-1 : Int32)], s_hg (s_si g 130 0 (0 : Int32)))) rfl ?_
      have hB := Option.some.inj hB
      subst hB
      obtain ⟨rfl, rfl⟩ := hr
      exact s_Fin.rt rfl rfl
    · rw [if_neg hc] at hB
      refine s_Fin.bf (c := v2 = 0) (tg := 30) (p2 := 18) (L1 := [some (.ref 130), some (.int x1), some (.int x2)]) (st1 := []) hc rfl ?_
      refine s_Fin.sg 3 (y := (24, [some (.ref 130), some (.int x1), some (.int x2)], [.int x1, .int x2, .ref 130], s_hg (s_si g 130 0 (0 : Int32)))) rfl ?_
      obtain ⟨v3, hp, hB⟩ := s_bd hB
      refine s_Fin.cl (d := 1) (q1 := s_m199) (md := 199) (vs := [.ref 130, .int x2, .int x1]) (rest := []) (h1 := s_hg (s_si g 130 0 (0 : Int32))) (u := some (.int v3)) (s_Ev.up (by omega) (fM_onOf_130_s hp)) rfl rfl rfl rfl ?_
      refine s_Fin.sg 1 (y := (31, [some (.ref 130), some (.int x1), some (.int x2)], [.int v3], s_hg (s_si g 130 0 (0 : Int32)))) rfl ?_
      have hB := Option.some.inj hB
      subst hB
      obtain ⟨rfl, rfl⟩ := hr
      exact s_Fin.rt rfl rfl
-- CampAshes$Camp.hasEvent
noncomputable def fP_hasEvent_3 (x1 : Int32) (g : s_G) : Option (Int32) :=
  if x1 < 0 then (some (0 : Int32))
  else if x1 < (g.1 3 1) then (some (1 : Int32))
  else some (0 : Int32)
theorem fP_hasEvent_3_s {x1 : Int32} {g : s_G} {z : Int32} (hB : fP_hasEvent_3 x1 g = some z) : s_Ev 0 s_m48 [.ref 3, .int x1] (s_hg g) (some (.int z)) (s_hg g) := by
  unfold fP_hasEvent_3 at hB
  refine s_Ev.fin ((?_ : ∀ (v : Option Value) (h' : s_H), (fun (z : Int32) (v : Option Value) (h' : s_H) => v = some (.int z) ∧ h' = s_hg g) z v h' → s_Fin 0 s_m48 (0, s_ent [.ref 3, .int x1] (s_m48).2.2.1, [], s_hg g) v h') _ _ ⟨rfl, rfl⟩)
  intro v h' hr
  refine (show s_Fin 0 s_m48 (0, [some (.ref 3), some (.int x1)], [], s_hg g) v h' from ?_)
  refine s_Fin.sg 1 (y := (1, [some (.ref 3), some (.int x1)], [.int x1], s_hg g)) rfl ?_
  by_cases hc : x1 < 0
  · rw [if_pos hc] at hB
    refine s_Fin.bt (c := x1 < 0) (tg := 16) (p2 := 1) (L1 := [some (.ref 3), some (.int x1)]) (st1 := []) hc rfl ?_
    refine s_Fin.sg 1 (y := (17, [some (.ref 3), some (.int x1)], [.int (0 : Int32)], s_hg g)) rfl ?_
    have hB := Option.some.inj hB
    subst hB
    obtain ⟨rfl, rfl⟩ := hr
    exact s_Fin.rt rfl rfl
  · rw [if_neg hc] at hB
    refine s_Fin.bf (c := x1 < 0) (tg := 16) (p2 := 1) (L1 := [some (.ref 3), some (.int x1)]) (st1 := []) hc rfl ?_
    refine s_Fin.sg 3 (y := (9, [some (.ref 3), some (.int x1)], [.int (g.1 3 1), .int x1], s_hg g)) rfl ?_
    by_cases hc : x1 < (g.1 3 1)
    · rw [if_pos hc] at hB
      refine s_Fin.bf (c := (g.1 3 1) ≤ x1) (tg := 16) (p2 := 9) (L1 := [some (.ref 3), some (.int x1)]) (st1 := []) (Int32.not_le.mpr hc) rfl ?_
      refine s_Fin.sg 2 (y := (17, [some (.ref 3), some (.int x1)], [.int (1 : Int32)], s_hg g)) rfl ?_
      have hB := Option.some.inj hB
      subst hB
      obtain ⟨rfl, rfl⟩ := hr
      exact s_Fin.rt rfl rfl
    · rw [if_neg hc] at hB
      refine s_Fin.bt (c := (g.1 3 1) ≤ x1) (tg := 16) (p2 := 9) (L1 := [some (.ref 3), some (.int x1)]) (st1 := []) (Int32.not_lt.mp hc) rfl ?_
      refine s_Fin.sg 1 (y := (17, [some (.ref 3), some (.int x1)], [.int (0 : Int32)], s_hg g)) rfl ?_
      have hB := Option.some.inj hB
      subst hB
      obtain ⟨rfl, rfl⟩ := hr
      exact s_Fin.rt rfl rfl
-- CampAshes$Camp.hasBoy
noncomputable def fP_hasBoy_3 (x1 : Int32) (g : s_G) : Option (Int32) :=
  if x1 < 0 then (some (0 : Int32))
  else if x1 < (g.1 3 0) then (some (1 : Int32))
  else some (0 : Int32)
theorem fP_hasBoy_3_s {x1 : Int32} {g : s_G} {z : Int32} (hB : fP_hasBoy_3 x1 g = some z) : s_Ev 0 s_m49 [.ref 3, .int x1] (s_hg g) (some (.int z)) (s_hg g) := by
  unfold fP_hasBoy_3 at hB
  refine s_Ev.fin ((?_ : ∀ (v : Option Value) (h' : s_H), (fun (z : Int32) (v : Option Value) (h' : s_H) => v = some (.int z) ∧ h' = s_hg g) z v h' → s_Fin 0 s_m49 (0, s_ent [.ref 3, .int x1] (s_m49).2.2.1, [], s_hg g) v h') _ _ ⟨rfl, rfl⟩)
  intro v h' hr
  refine (show s_Fin 0 s_m49 (0, [some (.ref 3), some (.int x1)], [], s_hg g) v h' from ?_)
  refine s_Fin.sg 1 (y := (1, [some (.ref 3), some (.int x1)], [.int x1], s_hg g)) rfl ?_
  by_cases hc : x1 < 0
  · rw [if_pos hc] at hB
    refine s_Fin.bt (c := x1 < 0) (tg := 16) (p2 := 1) (L1 := [some (.ref 3), some (.int x1)]) (st1 := []) hc rfl ?_
    refine s_Fin.sg 1 (y := (17, [some (.ref 3), some (.int x1)], [.int (0 : Int32)], s_hg g)) rfl ?_
    have hB := Option.some.inj hB
    subst hB
    obtain ⟨rfl, rfl⟩ := hr
    exact s_Fin.rt rfl rfl
  · rw [if_neg hc] at hB
    refine s_Fin.bf (c := x1 < 0) (tg := 16) (p2 := 1) (L1 := [some (.ref 3), some (.int x1)]) (st1 := []) hc rfl ?_
    refine s_Fin.sg 3 (y := (9, [some (.ref 3), some (.int x1)], [.int (g.1 3 0), .int x1], s_hg g)) rfl ?_
    by_cases hc : x1 < (g.1 3 0)
    · rw [if_pos hc] at hB
      refine s_Fin.bf (c := (g.1 3 0) ≤ x1) (tg := 16) (p2 := 9) (L1 := [some (.ref 3), some (.int x1)]) (st1 := []) (Int32.not_le.mpr hc) rfl ?_
      refine s_Fin.sg 2 (y := (17, [some (.ref 3), some (.int x1)], [.int (1 : Int32)], s_hg g)) rfl ?_
      have hB := Option.some.inj hB
      subst hB
      obtain ⟨rfl, rfl⟩ := hr
      exact s_Fin.rt rfl rfl
    · rw [if_neg hc] at hB
      refine s_Fin.bt (c := (g.1 3 0) ≤ x1) (tg := 16) (p2 := 9) (L1 := [some (.ref 3), some (.int x1)]) (st1 := []) (Int32.not_lt.mp hc) rfl ?_
      refine s_Fin.sg 1 (y := (17, [some (.ref 3), some (.int x1)], [.int (0 : Int32)], s_hg g)) rfl ?_
      have hB := Option.some.inj hB
      subst hB
      obtain ⟨rfl, rfl⟩ := hr
      exact s_Fin.rt rfl rfl
-- CampAshes$State.onBoy
noncomputable def fT_onBoy_17 (x1 : Int32) (x2 : Int32) (g : s_G) : Option (Int32) :=
  s_b1 (s_ix 70 ((x1 * (7 : Int32)) + x2)) fun k2 => some (g.1 18 k2)
theorem fT_onBoy_17_s {x1 : Int32} {x2 : Int32} {g : s_G} {z : Int32} (hB : fT_onBoy_17 x1 x2 g = some z) : s_Ev 0 s_m50 [.ref 17, .int x1, .int x2] (s_hg g) (some (.int z)) (s_hg g) := by
  unfold fT_onBoy_17 at hB
  refine s_Ev.fin ((?_ : ∀ (v : Option Value) (h' : s_H), (fun (z : Int32) (v : Option Value) (h' : s_H) => v = some (.int z) ∧ h' = s_hg g) z v h' → s_Fin 0 s_m50 (0, s_ent [.ref 17, .int x1, .int x2] (s_m50).2.2.1, [], s_hg g) v h') _ _ ⟨rfl, rfl⟩)
  intro v h' hr
  refine (show s_Fin 0 s_m50 (0, [some (.ref 17), some (.int x1), some (.int x2)], [], s_hg g) v h' from ?_)
  refine s_Fin.sg 7 (y := (10, [some (.ref 17), some (.int x1), some (.int x2)], [.int ((x1 * (7 : Int32)) + x2), .ref 18], s_hg g)) rfl ?_
  obtain ⟨k2, hk2, hB⟩ := s_bd hB
  refine s_Fin.ix (n := 70) (i := (x1 * (7 : Int32)) + x2) (pc1 := 11) (L1 := [some (.ref 17), some (.int x1), some (.int x2)]) (fun j1 => [.int (g.1 18 j1)]) (fun j1 => s_hg g) hk2 rfl rfl ?_
  have hB := Option.some.inj hB
  subst hB
  obtain ⟨rfl, rfl⟩ := hr
  exact s_Fin.rt rfl rfl
-- CampAshes.on
noncomputable def fC_on_0 (x1 : Int32) (x2 : Int32) (g : s_G) : Option (Int32) :=
  s_b1 (fP_hasEvent_3 x1 g) fun v1 => if v1 = 0 then (some (-1 : Int32))
  else s_b1 (fP_hasBoy_3 x2 g) fun v2 => if v2 = 0 then (some (-1 : Int32))
  else s_b1 (fT_onBoy_17 x1 x2 g) fun v3 => some v3
theorem fC_on_0_s {x1 : Int32} {x2 : Int32} {g : s_G} {z : Int32} (hB : fC_on_0 x1 x2 g = some z) : s_Ev 1 s_m47 [.ref 0, .int x1, .int x2] (s_hg g) (some (.int z)) (s_hg g) := by
  unfold fC_on_0 at hB
  refine s_Ev.fin ((?_ : ∀ (v : Option Value) (h' : s_H), (fun (z : Int32) (v : Option Value) (h' : s_H) => v = some (.int z) ∧ h' = s_hg g) z v h' → s_Fin 1 s_m47 (0, s_ent [.ref 0, .int x1, .int x2] (s_m47).2.2.1, [], s_hg g) v h') _ _ ⟨rfl, rfl⟩)
  intro v h' hr
  refine (show s_Fin 1 s_m47 (0, [some (.ref 0), some (.int x1), some (.int x2)], [], s_hg g) v h' from ?_)
  refine s_Fin.sg 3 (y := (5, [some (.ref 0), some (.int x1), some (.int x2)], [.int x1, .ref 3], s_hg g)) rfl ?_
  obtain ⟨v1, hp, hB⟩ := s_bd hB
  refine s_Fin.cl (d := 0) (q1 := s_m48) (md := 48) (vs := [.ref 3, .int x1]) (rest := []) (h1 := s_hg g) (u := some (.int v1)) (s_Ev.up (by omega) (fP_hasEvent_3_s hp)) rfl rfl rfl rfl ?_
  by_cases hc : v1 = 0
  · rw [if_pos hc] at hB
    refine s_Fin.bt (c := v1 = 0) (tg := 22) (p2 := 8) (L1 := [some (.ref 0), some (.int x1), some (.int x2)]) (st1 := []) hc rfl ?_
    refine s_Fin.sg 1 (y := (23, [some (.ref 0), some (.int x1), some (.int x2)], [.int (-1 : Int32)], s_hg g)) rfl ?_
    have hB := Option.some.inj hB
    subst hB
    obtain ⟨rfl, rfl⟩ := hr
    exact s_Fin.rt rfl rfl
  · rw [if_neg hc] at hB
    refine s_Fin.bf (c := v1 = 0) (tg := 22) (p2 := 8) (L1 := [some (.ref 0), some (.int x1), some (.int x2)]) (st1 := []) hc rfl ?_
    refine s_Fin.sg 3 (y := (16, [some (.ref 0), some (.int x1), some (.int x2)], [.int x2, .ref 3], s_hg g)) rfl ?_
    obtain ⟨v2, hp, hB⟩ := s_bd hB
    refine s_Fin.cl (d := 0) (q1 := s_m49) (md := 49) (vs := [.ref 3, .int x2]) (rest := []) (h1 := s_hg g) (u := some (.int v2)) (s_Ev.up (by omega) (fP_hasBoy_3_s hp)) rfl rfl rfl rfl ?_
    by_cases hc : v2 = 0
    · rw [if_pos hc] at hB
      refine s_Fin.bf (c := ¬ v2 = 0) (tg := 24) (p2 := 19) (L1 := [some (.ref 0), some (.int x1), some (.int x2)]) (st1 := []) (fun h => h hc) rfl ?_
      refine s_Fin.sg 1 (y := (23, [some (.ref 0), some (.int x1), some (.int x2)], [.int (-1 : Int32)], s_hg g)) rfl ?_
      have hB := Option.some.inj hB
      subst hB
      obtain ⟨rfl, rfl⟩ := hr
      exact s_Fin.rt rfl rfl
    · rw [if_neg hc] at hB
      refine s_Fin.bt (c := ¬ v2 = 0) (tg := 24) (p2 := 19) (L1 := [some (.ref 0), some (.int x1), some (.int x2)]) (st1 := []) hc rfl ?_
      refine s_Fin.sg 4 (y := (30, [some (.ref 0), some (.int x1), some (.int x2)], [.int x2, .int x1, .ref 17], s_hg g)) rfl ?_
      obtain ⟨v3, hp, hB⟩ := s_bd hB
      refine s_Fin.cl (d := 0) (q1 := s_m50) (md := 50) (vs := [.ref 17, .int x1, .int x2]) (rest := []) (h1 := s_hg g) (u := some (.int v3)) (s_Ev.up (by omega) (fT_onBoy_17_s hp)) rfl rfl rfl rfl ?_
      have hB := Option.some.inj hB
      subst hB
      obtain ⟨rfl, rfl⟩ := hr
      exact s_Fin.rt rfl rfl
-- CampAshesModel.event
noncomputable def fM_event_130_81 (x1 : Int32) (x3 : Int32) (x4 : Int32) (g : s_G) : Option ((Int32 × Int32) ⊕ (Int32 × s_G)) :=
  if x4 < (7 : Int32) then (s_b1 (fM_onOf_130 x4 x1 g) fun v8 => some (.inl (x3 + v8, x4 + (1 : Int32))))
  else s_in (some (x3, g))
theorem fM_event_130_81_s {x1 : Int32} {x3 : Int32} {x4 : Int32} {g : s_G} {z : (Int32 × Int32) ⊕ (Int32 × s_G)} (hB : fM_event_130_81 x1 x3 x4 g = some z) {v : Option Value} {h' : s_H} (hr : (s_sm (fun (x : Int32 × Int32) (v : Option Value) (h' : s_H) => s_Fin 2 s_m202 (81, [some (.ref 130), some (.int x1), none, some (.int x.1), some (.int x.2)], [], s_hg g) v h') (fun (z : Int32 × s_G) (v : Option Value) (h' : s_H) => v = some (.int z.1) ∧ h' = s_hg z.2)) z v h') : s_Fin 2 s_m202 (81, [some (.ref 130), some (.int x1), none, some (.int x3), some (.int x4)], [], s_hg g) v h' := by
  unfold fM_event_130_81 at hB
  refine s_Fin.sg 2 (y := (85, [some (.ref 130), some (.int x1), none, some (.int x3), some (.int x4)], [.int (7 : Int32), .int x4], s_hg g)) rfl ?_
  by_cases hc : x4 < (7 : Int32)
  · rw [if_pos hc] at hB
    refine s_Fin.bf (c := (7 : Int32) ≤ x4) (tg := 104) (p2 := 85) (L1 := [some (.ref 130), some (.int x1), none, some (.int x3), some (.int x4)]) (st1 := []) (Int32.not_le.mpr hc) rfl ?_
    refine s_Fin.sg 4 (y := (93, [some (.ref 130), some (.int x1), none, some (.int x3), some (.int x4)], [.int x1, .int x4, .ref 130, .int x3], s_hg g)) rfl ?_
    obtain ⟨v8, hp, hB⟩ := s_bd hB
    refine s_Fin.cl (d := 1) (q1 := s_m199) (md := 199) (vs := [.ref 130, .int x4, .int x1]) (rest := [.int x3]) (h1 := s_hg g) (u := some (.int v8)) (s_Ev.up (by omega) (fM_onOf_130_s hp)) rfl rfl rfl rfl ?_
    refine s_Fin.sg 4 (y := (81, [some (.ref 130), some (.int x1), none, some (.int (x3 + v8)), some (.int (x4 + (1 : Int32)))], [], s_hg g)) rfl ?_
    have hB := Option.some.inj hB
    subst hB
    exact s_Fin.more (L := [some (.ref 130), some (.int x1), none, some (.int (x3 + v8)), some (.int (x4 + (1 : Int32)))]) ⟨Or.inr rfl, Or.inr rfl, Or.inl rfl, Or.inr rfl, Or.inr rfl, trivial⟩ hr
  · rw [if_neg hc] at hB
    refine s_Fin.bt (c := (7 : Int32) ≤ x4) (tg := 104) (p2 := 85) (L1 := [some (.ref 130), some (.int x1), none, some (.int x3), some (.int x4)]) (st1 := []) (Int32.not_lt.mp hc) rfl ?_
    obtain ⟨_, hN, hz⟩ := s_in_of hB
    subst hz
    have hB := hN
    refine s_Fin.sg 1 (y := (105, [some (.ref 130), some (.int x1), none, some (.int x3), some (.int x4)], [.int x3], s_hg g)) rfl ?_
    have hB := Option.some.inj hB
    subst hB
    obtain ⟨rfl, rfl⟩ := hr
    exact s_Fin.rt rfl rfl
noncomputable def fM_event_130 (x1 : Int32) (x2 : Int32) (g : s_G) : Option (Int32 × s_G) :=
  s_b1 (fM_isEvent_130 x1 (s_si g 130 0 (0 : Int32))) fun v1 => if v1 = 0 then (some ((-1 : Int32), (s_si g 130 0 (0 : Int32))))
  else if x2 = 0 then (s_b1 (s_ix 375 ((17 : Int32) + x1)) fun k3 => some (g.1 132 k3, (s_si g 130 0 (0 : Int32))))
  else if x2 = 1 then (s_b1 (s_ix 375 ((27 : Int32) + x1)) fun k5 => some (g.1 132 k5, (s_si g 130 0 (0 : Int32))))
  else if x2 = 2 then (s_b1 (s_ix 375 ((37 : Int32) + x1)) fun k7 => some (g.1 132 k7, (s_si g 130 0 (0 : Int32))))
  else if x2 = 3 then (s_lp (fun x => fM_event_130_81 x1 x.1 x.2 (s_si g 130 0 (0 : Int32))) ((0 : Int32), (0 : Int32)))
  else some ((-1 : Int32), (s_si g 130 0 (0 : Int32)))
theorem fM_event_130_s {x1 : Int32} {x2 : Int32} {g : s_G} {z : Int32 × s_G} (hB : fM_event_130 x1 x2 g = some z) : s_Ev 2 s_m202 [.ref 130, .int x1, .int x2] (s_hg g) (some (.int z.1)) (s_hg z.2) := by
  unfold fM_event_130 at hB
  refine s_Ev.fin ((?_ : ∀ (v : Option Value) (h' : s_H), (fun (z : Int32 × s_G) (v : Option Value) (h' : s_H) => v = some (.int z.1) ∧ h' = s_hg z.2) z v h' → s_Fin 2 s_m202 (0, s_ent [.ref 130, .int x1, .int x2] (s_m202).2.2.1, [], s_hg g) v h') _ _ ⟨rfl, rfl⟩)
  intro v h' hr
  refine (show s_Fin 2 s_m202 (0, [some (.ref 130), some (.int x1), some (.int x2), none, none], [], s_hg g) v h' from ?_)
  refine s_Fin.sg 5 (y := (7, [some (.ref 130), some (.int x1), some (.int x2), none, none], [.int x1, .ref 130], s_hg (s_si g 130 0 (0 : Int32)))) rfl ?_
  obtain ⟨v1, hp, hB⟩ := s_bd hB
  refine s_Fin.cl (d := 1) (q1 := s_m201) (md := 201) (vs := [.ref 130, .int x1]) (rest := []) (h1 := s_hg (s_si g 130 0 (0 : Int32))) (u := some (.int v1)) (s_Ev.up (by omega) (fM_isEvent_130_s hp)) rfl rfl rfl rfl ?_
  by_cases hc : v1 = 0
  · rw [if_pos hc] at hB
    refine s_Fin.bf (c := ¬ v1 = 0) (tg := 15) (p2 := 10) (L1 := [some (.ref 130), some (.int x1), some (.int x2), none, none]) (st1 := []) (fun h => h hc) rfl ?_
    refine s_Fin.sg 1 (y := (14, [some (.ref 130), some (.int x1), some (.int x2), none, none], [.int (-1 : Int32)], s_hg (s_si g 130 0 (0 : Int32)))) rfl ?_
    have hB := Option.some.inj hB
    subst hB
    obtain ⟨rfl, rfl⟩ := hr
    exact s_Fin.rt rfl rfl
  · rw [if_neg hc] at hB
    refine s_Fin.bt (c := ¬ v1 = 0) (tg := 15) (p2 := 10) (L1 := [some (.ref 130), some (.int x1), some (.int x2), none, none]) (st1 := []) hc rfl ?_
    refine s_Fin.sg 3 (y := (18, [some (.ref 130), some (.int x1), some (.int x2), some (.int (0 : Int32)), none], [.int x2], s_hg (s_si g 130 0 (0 : Int32)))) rfl ?_
    by_cases hc0 : x2 = 0
    · rw [if_pos hc0] at hB
      refine s_Fin.nx (pc1 := 48) (L1 := [some (.ref 130), some (.int x1), some (.int x2), some (.int (0 : Int32)), none]) (st1 := []) (h1 := s_hg (s_si g 130 0 (0 : Int32))) (by rw [hc0]; exact rfl) rfl ?_
      refine s_Fin.sg 5 (y := (56, [some (.ref 130), some (.int x1), some (.int x2), some (.int (0 : Int32)), none], [.int ((17 : Int32) + x1), .ref 132], s_hg (s_si g 130 0 (0 : Int32)))) rfl ?_
      obtain ⟨k3, hk3, hB⟩ := s_bd hB
      refine s_Fin.ix (n := 375) (i := (17 : Int32) + x1) (pc1 := 57) (L1 := [some (.ref 130), some (.int x1), some (.int x2), some (.int (0 : Int32)), none]) (fun j2 => [.int (g.1 132 j2)]) (fun j2 => s_hg (s_si g 130 0 (0 : Int32))) hk3 rfl rfl ?_
      have hB := Option.some.inj hB
      subst hB
      obtain ⟨rfl, rfl⟩ := hr
      exact s_Fin.rt rfl rfl
    rw [if_neg hc0] at hB
    by_cases hc1 : x2 = 1
    · rw [if_pos hc1] at hB
      refine s_Fin.nx (pc1 := 58) (L1 := [some (.ref 130), some (.int x1), some (.int x2), some (.int (0 : Int32)), none]) (st1 := []) (h1 := s_hg (s_si g 130 0 (0 : Int32))) (by rw [hc1]; exact rfl) rfl ?_
      refine s_Fin.sg 5 (y := (66, [some (.ref 130), some (.int x1), some (.int x2), some (.int (0 : Int32)), none], [.int ((27 : Int32) + x1), .ref 132], s_hg (s_si g 130 0 (0 : Int32)))) rfl ?_
      obtain ⟨k5, hk5, hB⟩ := s_bd hB
      refine s_Fin.ix (n := 375) (i := (27 : Int32) + x1) (pc1 := 67) (L1 := [some (.ref 130), some (.int x1), some (.int x2), some (.int (0 : Int32)), none]) (fun j4 => [.int (g.1 132 j4)]) (fun j4 => s_hg (s_si g 130 0 (0 : Int32))) hk5 rfl rfl ?_
      have hB := Option.some.inj hB
      subst hB
      obtain ⟨rfl, rfl⟩ := hr
      exact s_Fin.rt rfl rfl
    rw [if_neg hc1] at hB
    by_cases hc2 : x2 = 2
    · rw [if_pos hc2] at hB
      refine s_Fin.nx (pc1 := 68) (L1 := [some (.ref 130), some (.int x1), some (.int x2), some (.int (0 : Int32)), none]) (st1 := []) (h1 := s_hg (s_si g 130 0 (0 : Int32))) (by rw [hc2]; exact rfl) rfl ?_
      refine s_Fin.sg 5 (y := (76, [some (.ref 130), some (.int x1), some (.int x2), some (.int (0 : Int32)), none], [.int ((37 : Int32) + x1), .ref 132], s_hg (s_si g 130 0 (0 : Int32)))) rfl ?_
      obtain ⟨k7, hk7, hB⟩ := s_bd hB
      refine s_Fin.ix (n := 375) (i := (37 : Int32) + x1) (pc1 := 77) (L1 := [some (.ref 130), some (.int x1), some (.int x2), some (.int (0 : Int32)), none]) (fun j6 => [.int (g.1 132 j6)]) (fun j6 => s_hg (s_si g 130 0 (0 : Int32))) hk7 rfl rfl ?_
      have hB := Option.some.inj hB
      subst hB
      obtain ⟨rfl, rfl⟩ := hr
      exact s_Fin.rt rfl rfl
    rw [if_neg hc2] at hB
    by_cases hc3 : x2 = 3
    · rw [if_pos hc3] at hB
      refine s_Fin.nx (pc1 := 78) (L1 := [some (.ref 130), some (.int x1), some (.int x2), some (.int (0 : Int32)), none]) (st1 := []) (h1 := s_hg (s_si g 130 0 (0 : Int32))) (by rw [hc3]; exact rfl) rfl ?_
      refine s_Fin.sg 2 (y := (81, [some (.ref 130), some (.int x1), some (.int x2), some (.int (0 : Int32)), some (.int (0 : Int32))], [], s_hg (s_si g 130 0 (0 : Int32)))) rfl ?_
      exact s_Fin.more (L := [some (.ref 130), some (.int x1), none, some (.int (0 : Int32)), some (.int (0 : Int32))]) ⟨Or.inr rfl, Or.inr rfl, Or.inl rfl, Or.inr rfl, Or.inr rfl, trivial⟩ (s_lp_s (P := (fun (x : Int32 × Int32) (v : Option Value) (h' : s_H) => s_Fin 2 s_m202 (81, [some (.ref 130), some (.int x1), none, some (.int x.1), some (.int x.2)], [], s_hg (s_si g 130 0 (0 : Int32))) v h')) (Q := (fun (z : Int32 × s_G) (v : Option Value) (h' : s_H) => v = some (.int z.1) ∧ h' = s_hg z.2)) (fun x z hB v h' hr => fM_event_130_81_s hB hr) hB _ _ hr)
    rw [if_neg hc3] at hB
    have ht : x2.toInt < 0 ∨ (4 : Int) ≤ x2.toInt := by
      have q0 : ¬ x2.toInt = 0 := s_tne hc0 (by decide)
      have q1 : ¬ x2.toInt = 1 := s_tne hc1 (by decide)
      have q2 : ¬ x2.toInt = 2 := s_tne hc2 (by decide)
      have q3 : ¬ x2.toInt = 3 := s_tne hc3 (by decide)
      omega
    refine s_Fin.nx (pc1 := 106) (L1 := [some (.ref 130), some (.int x1), some (.int x2), some (.int (0 : Int32)), none]) (st1 := []) (h1 := s_hg (s_si g 130 0 (0 : Int32))) ((show _ = s_ts x2.toInt 18 [some (.ref 130), some (.int x1), some (.int x2), some (.int (0 : Int32)), none] [] (s_hg (s_si g 130 0 (0 : Int32))) 88 0 [30, 40, 50, 60] from rfl).trans (s_ts_ms (n := 4) rfl ht (t := 106) rfl)) rfl ?_
    refine s_Fin.sg 1 (y := (107, [some (.ref 130), some (.int x1), some (.int x2), some (.int (0 : Int32)), none], [.int (-1 : Int32)], s_hg (s_si g 130 0 (0 : Int32)))) rfl ?_
    have hB := Option.some.inj hB
    subst hB
    obtain ⟨rfl, rfl⟩ := hr
    exact s_Fin.rt rfl rfl
-- CampAshes$State.leftOf
noncomputable def fT_leftOf_17_4 (x1 : Int32) (x2 : Int32) (x3 : Int32) (g : s_G) : Option ((Int32 × Int32) ⊕ (Int32)) :=
  if x3 < (g.1 3 0) then (s_b1 (fT_onBoy_17 x1 x3 g) fun v1 => some (.inl (x2 + v1, x3 + (1 : Int32))))
  else s_in (some x2)
theorem fT_leftOf_17_4_s {x1 : Int32} {x2 : Int32} {x3 : Int32} {g : s_G} {z : (Int32 × Int32) ⊕ (Int32)} (hB : fT_leftOf_17_4 x1 x2 x3 g = some z) {v : Option Value} {h' : s_H} (hr : (s_sm (fun (x : Int32 × Int32) (v : Option Value) (h' : s_H) => s_Fin 1 s_m52 (4, [some (.ref 17), some (.int x1), some (.int x.1), some (.int x.2)], [], s_hg g) v h') (fun (z : Int32) (v : Option Value) (h' : s_H) => v = some (.int z) ∧ h' = s_hg g)) z v h') : s_Fin 1 s_m52 (4, [some (.ref 17), some (.int x1), some (.int x2), some (.int x3)], [], s_hg g) v h' := by
  unfold fT_leftOf_17_4 at hB
  refine s_Fin.sg 4 (y := (12, [some (.ref 17), some (.int x1), some (.int x2), some (.int x3)], [.int (g.1 3 0), .int x3], s_hg g)) rfl ?_
  by_cases hc : x3 < (g.1 3 0)
  · rw [if_pos hc] at hB
    refine s_Fin.bf (c := (g.1 3 0) ≤ x3) (tg := 30) (p2 := 12) (L1 := [some (.ref 17), some (.int x1), some (.int x2), some (.int x3)]) (st1 := []) (Int32.not_le.mpr hc) rfl ?_
    refine s_Fin.sg 4 (y := (19, [some (.ref 17), some (.int x1), some (.int x2), some (.int x3)], [.int x3, .int x1, .ref 17, .int x2], s_hg g)) rfl ?_
    obtain ⟨v1, hp, hB⟩ := s_bd hB
    refine s_Fin.cl (d := 0) (q1 := s_m50) (md := 50) (vs := [.ref 17, .int x1, .int x3]) (rest := [.int x2]) (h1 := s_hg g) (u := some (.int v1)) (s_Ev.up (by omega) (fT_onBoy_17_s hp)) rfl rfl rfl rfl ?_
    refine s_Fin.sg 4 (y := (4, [some (.ref 17), some (.int x1), some (.int (x2 + v1)), some (.int (x3 + (1 : Int32)))], [], s_hg g)) rfl ?_
    have hB := Option.some.inj hB
    subst hB
    exact s_Fin.more (L := [some (.ref 17), some (.int x1), some (.int (x2 + v1)), some (.int (x3 + (1 : Int32)))]) ⟨Or.inr rfl, Or.inr rfl, Or.inr rfl, Or.inr rfl, trivial⟩ hr
  · rw [if_neg hc] at hB
    refine s_Fin.bt (c := (g.1 3 0) ≤ x3) (tg := 30) (p2 := 12) (L1 := [some (.ref 17), some (.int x1), some (.int x2), some (.int x3)]) (st1 := []) (Int32.not_lt.mp hc) rfl ?_
    obtain ⟨_, hN, hz⟩ := s_in_of hB
    subst hz
    have hB := hN
    refine s_Fin.sg 1 (y := (31, [some (.ref 17), some (.int x1), some (.int x2), some (.int x3)], [.int x2], s_hg g)) rfl ?_
    have hB := Option.some.inj hB
    subst hB
    obtain ⟨rfl, rfl⟩ := hr
    exact s_Fin.rt rfl rfl
noncomputable def fT_leftOf_17 (x1 : Int32) (g : s_G) : Option (Int32) :=
  s_lp (fun x => fT_leftOf_17_4 x1 x.1 x.2 g) ((0 : Int32), (0 : Int32))
theorem fT_leftOf_17_s {x1 : Int32} {g : s_G} {z : Int32} (hB : fT_leftOf_17 x1 g = some z) : s_Ev 1 s_m52 [.ref 17, .int x1] (s_hg g) (some (.int z)) (s_hg g) := by
  unfold fT_leftOf_17 at hB
  refine s_Ev.fin ((?_ : ∀ (v : Option Value) (h' : s_H), (fun (z : Int32) (v : Option Value) (h' : s_H) => v = some (.int z) ∧ h' = s_hg g) z v h' → s_Fin 1 s_m52 (0, s_ent [.ref 17, .int x1] (s_m52).2.2.1, [], s_hg g) v h') _ _ ⟨rfl, rfl⟩)
  intro v h' hr
  refine (show s_Fin 1 s_m52 (0, [some (.ref 17), some (.int x1), none, none], [], s_hg g) v h' from ?_)
  refine s_Fin.sg 4 (y := (4, [some (.ref 17), some (.int x1), some (.int (0 : Int32)), some (.int (0 : Int32))], [], s_hg g)) rfl ?_
  exact s_Fin.more (L := [some (.ref 17), some (.int x1), some (.int (0 : Int32)), some (.int (0 : Int32))]) ⟨Or.inr rfl, Or.inr rfl, Or.inr rfl, Or.inr rfl, trivial⟩ (s_lp_s (P := (fun (x : Int32 × Int32) (v : Option Value) (h' : s_H) => s_Fin 1 s_m52 (4, [some (.ref 17), some (.int x1), some (.int x.1), some (.int x.2)], [], s_hg g) v h')) (Q := (fun (z : Int32) (v : Option Value) (h' : s_H) => v = some (.int z) ∧ h' = s_hg g)) (fun x z hB v h' hr => fT_leftOf_17_4_s hB hr) hB _ _ hr)
-- CampAshes.event
noncomputable def fC_event_0 (x1 : Int32) (x2 : Int32) (g : s_G) : Option (Int32) :=
  s_b1 (fP_hasEvent_3 x1 g) fun v1 => if v1 = 0 then (some (-1 : Int32))
  else if x2 = 0 then (s_b1 (s_ix 10 x1) fun k3 => some (g.1 6 k3))
  else if x2 = 1 then (s_b1 (s_ix 10 x1) fun k5 => some (g.1 7 k5))
  else if x2 = 2 then (s_b1 (s_ix 10 x1) fun k7 => some (g.1 8 k7))
  else if x2 = 3 then (s_b1 (fT_leftOf_17 x1 g) fun v8 => some v8)
  else some (-1 : Int32)
theorem fC_event_0_s {x1 : Int32} {x2 : Int32} {g : s_G} {z : Int32} (hB : fC_event_0 x1 x2 g = some z) : s_Ev 2 s_m51 [.ref 0, .int x1, .int x2] (s_hg g) (some (.int z)) (s_hg g) := by
  unfold fC_event_0 at hB
  refine s_Ev.fin ((?_ : ∀ (v : Option Value) (h' : s_H), (fun (z : Int32) (v : Option Value) (h' : s_H) => v = some (.int z) ∧ h' = s_hg g) z v h' → s_Fin 2 s_m51 (0, s_ent [.ref 0, .int x1, .int x2] (s_m51).2.2.1, [], s_hg g) v h') _ _ ⟨rfl, rfl⟩)
  intro v h' hr
  refine (show s_Fin 2 s_m51 (0, [some (.ref 0), some (.int x1), some (.int x2)], [], s_hg g) v h' from ?_)
  refine s_Fin.sg 3 (y := (5, [some (.ref 0), some (.int x1), some (.int x2)], [.int x1, .ref 3], s_hg g)) rfl ?_
  obtain ⟨v1, hp, hB⟩ := s_bd hB
  refine s_Fin.cl (d := 1) (q1 := s_m48) (md := 48) (vs := [.ref 3, .int x1]) (rest := []) (h1 := s_hg g) (u := some (.int v1)) (s_Ev.up (by omega) (fP_hasEvent_3_s hp)) rfl rfl rfl rfl ?_
  by_cases hc : v1 = 0
  · rw [if_pos hc] at hB
    refine s_Fin.bf (c := ¬ v1 = 0) (tg := 13) (p2 := 8) (L1 := [some (.ref 0), some (.int x1), some (.int x2)]) (st1 := []) (fun h => h hc) rfl ?_
    refine s_Fin.sg 1 (y := (12, [some (.ref 0), some (.int x1), some (.int x2)], [.int (-1 : Int32)], s_hg g)) rfl ?_
    have hB := Option.some.inj hB
    subst hB
    obtain ⟨rfl, rfl⟩ := hr
    exact s_Fin.rt rfl rfl
  · rw [if_neg hc] at hB
    refine s_Fin.bt (c := ¬ v1 = 0) (tg := 13) (p2 := 8) (L1 := [some (.ref 0), some (.int x1), some (.int x2)]) (st1 := []) hc rfl ?_
    refine s_Fin.sg 1 (y := (14, [some (.ref 0), some (.int x1), some (.int x2)], [.int x2], s_hg g)) rfl ?_
    by_cases hc0 : x2 = 0
    · rw [if_pos hc0] at hB
      refine s_Fin.nx (pc1 := 44) (L1 := [some (.ref 0), some (.int x1), some (.int x2)]) (st1 := []) (h1 := s_hg g) (by rw [hc0]; exact rfl) rfl ?_
      refine s_Fin.sg 4 (y := (52, [some (.ref 0), some (.int x1), some (.int x2)], [.int x1, .ref 6], s_hg g)) rfl ?_
      obtain ⟨k3, hk3, hB⟩ := s_bd hB
      refine s_Fin.ix (n := 10) (i := x1) (pc1 := 53) (L1 := [some (.ref 0), some (.int x1), some (.int x2)]) (fun j2 => [.int (g.1 6 j2)]) (fun j2 => s_hg g) hk3 rfl rfl ?_
      have hB := Option.some.inj hB
      subst hB
      obtain ⟨rfl, rfl⟩ := hr
      exact s_Fin.rt rfl rfl
    rw [if_neg hc0] at hB
    by_cases hc1 : x2 = 1
    · rw [if_pos hc1] at hB
      refine s_Fin.nx (pc1 := 54) (L1 := [some (.ref 0), some (.int x1), some (.int x2)]) (st1 := []) (h1 := s_hg g) (by rw [hc1]; exact rfl) rfl ?_
      refine s_Fin.sg 4 (y := (62, [some (.ref 0), some (.int x1), some (.int x2)], [.int x1, .ref 7], s_hg g)) rfl ?_
      obtain ⟨k5, hk5, hB⟩ := s_bd hB
      refine s_Fin.ix (n := 10) (i := x1) (pc1 := 63) (L1 := [some (.ref 0), some (.int x1), some (.int x2)]) (fun j4 => [.int (g.1 7 j4)]) (fun j4 => s_hg g) hk5 rfl rfl ?_
      have hB := Option.some.inj hB
      subst hB
      obtain ⟨rfl, rfl⟩ := hr
      exact s_Fin.rt rfl rfl
    rw [if_neg hc1] at hB
    by_cases hc2 : x2 = 2
    · rw [if_pos hc2] at hB
      refine s_Fin.nx (pc1 := 64) (L1 := [some (.ref 0), some (.int x1), some (.int x2)]) (st1 := []) (h1 := s_hg g) (by rw [hc2]; exact rfl) rfl ?_
      refine s_Fin.sg 4 (y := (72, [some (.ref 0), some (.int x1), some (.int x2)], [.int x1, .ref 8], s_hg g)) rfl ?_
      obtain ⟨k7, hk7, hB⟩ := s_bd hB
      refine s_Fin.ix (n := 10) (i := x1) (pc1 := 73) (L1 := [some (.ref 0), some (.int x1), some (.int x2)]) (fun j6 => [.int (g.1 8 j6)]) (fun j6 => s_hg g) hk7 rfl rfl ?_
      have hB := Option.some.inj hB
      subst hB
      obtain ⟨rfl, rfl⟩ := hr
      exact s_Fin.rt rfl rfl
    rw [if_neg hc2] at hB
    by_cases hc3 : x2 = 3
    · rw [if_pos hc3] at hB
      refine s_Fin.nx (pc1 := 74) (L1 := [some (.ref 0), some (.int x1), some (.int x2)]) (st1 := []) (h1 := s_hg g) (by rw [hc3]; exact rfl) rfl ?_
      refine s_Fin.sg 3 (y := (79, [some (.ref 0), some (.int x1), some (.int x2)], [.int x1, .ref 17], s_hg g)) rfl ?_
      obtain ⟨v8, hp, hB⟩ := s_bd hB
      refine s_Fin.cl (d := 1) (q1 := s_m52) (md := 52) (vs := [.ref 17, .int x1]) (rest := []) (h1 := s_hg g) (u := some (.int v8)) (s_Ev.up (by omega) (fT_leftOf_17_s hp)) rfl rfl rfl rfl ?_
      have hB := Option.some.inj hB
      subst hB
      obtain ⟨rfl, rfl⟩ := hr
      exact s_Fin.rt rfl rfl
    rw [if_neg hc3] at hB
    have ht : x2.toInt < 0 ∨ (4 : Int) ≤ x2.toInt := by
      have q0 : ¬ x2.toInt = 0 := s_tne hc0 (by decide)
      have q1 : ¬ x2.toInt = 1 := s_tne hc1 (by decide)
      have q2 : ¬ x2.toInt = 2 := s_tne hc2 (by decide)
      have q3 : ¬ x2.toInt = 3 := s_tne hc3 (by decide)
      omega
    refine s_Fin.nx (pc1 := 83) (L1 := [some (.ref 0), some (.int x1), some (.int x2)]) (st1 := []) (h1 := s_hg g) ((show _ = s_ts x2.toInt 14 [some (.ref 0), some (.int x1), some (.int x2)] [] (s_hg g) 69 0 [30, 40, 50, 60] from rfl).trans (s_ts_ms (n := 4) rfl ht (t := 83) rfl)) rfl ?_
    refine s_Fin.sg 1 (y := (84, [some (.ref 0), some (.int x1), some (.int x2)], [.int (-1 : Int32)], s_hg g)) rfl ?_
    have hB := Option.some.inj hB
    subst hB
    obtain ⟨rfl, rfl⟩ := hr
    exact s_Fin.rt rfl rfl
-- CampAshesModel.isOneKind
noncomputable def fM_isOneKind_130 (x1 : Int32) (g : s_G) : Option (Int32) :=
  s_b1 (fM_isIn_s x1 (0 : Int32) (3 : Int32) g) fun v1 => if v1 = 0 ∨ v1 = 1 then some v1
  else none
theorem fM_isOneKind_130_s {x1 : Int32} {g : s_G} {z : Int32} (hB : fM_isOneKind_130 x1 g = some z) : s_Ev 1 s_m204 [.ref 130, .int x1] (s_hg g) (some (.int z)) (s_hg g) := by
  unfold fM_isOneKind_130 at hB
  refine s_Ev.fin ((?_ : ∀ (v : Option Value) (h' : s_H), (fun (z : Int32) (v : Option Value) (h' : s_H) => v = some (.int z) ∧ h' = s_hg g) z v h' → s_Fin 1 s_m204 (0, s_ent [.ref 130, .int x1] (s_m204).2.2.1, [], s_hg g) v h') _ _ ⟨rfl, rfl⟩)
  intro v h' hr
  refine (show s_Fin 1 s_m204 (0, [some (.ref 130), some (.int x1)], [], s_hg g) v h' from ?_)
  refine s_Fin.sg 3 (y := (3, [some (.ref 130), some (.int x1)], [.int (3 : Int32), .int (0 : Int32), .int x1], s_hg g)) rfl ?_
  obtain ⟨v1, hp, hB⟩ := s_bd hB
  refine s_Fin.cl (d := 0) (q1 := s_m181) (md := 181) (vs := [.int x1, .int (0 : Int32), .int (3 : Int32)]) (rest := []) (h1 := s_hg g) (u := some (.int v1)) (s_Ev.up (by omega) (fM_isIn_s_s hp)) rfl rfl rfl rfl ?_
  have hc : v1 = 0 ∨ v1 = 1 := Classical.byContradiction fun h => (by rw [if_neg h] at hB; cases hB)
  rw [if_pos hc] at hB
  have hB := Option.some.inj hB
  subst hB
  obtain ⟨rfl, rfl⟩ := hr
  exact s_Fin.rt (by rcases hc with hc | hc <;> rw [hc] <;> exact rfl) rfl
-- CampAshesModel.takesOf
noncomputable def fM_takesOf_130 (x1 : Int32) (x2 : Int32) (g : s_G) : Option (Int32) :=
  s_b1 (s_ix 375 ((6 : Int32) + x1)) fun k2 => some ((g.1 132 k2) + (x2 / (5 : Int32)))
theorem fM_takesOf_130_s {x1 : Int32} {x2 : Int32} {g : s_G} {z : Int32} (hB : fM_takesOf_130 x1 x2 g = some z) : s_Ev 0 s_m205 [.ref 130, .int x1, .int x2] (s_hg g) (some (.int z)) (s_hg g) := by
  unfold fM_takesOf_130 at hB
  refine s_Ev.fin ((?_ : ∀ (v : Option Value) (h' : s_H), (fun (z : Int32) (v : Option Value) (h' : s_H) => v = some (.int z) ∧ h' = s_hg g) z v h' → s_Fin 0 s_m205 (0, s_ent [.ref 130, .int x1, .int x2] (s_m205).2.2.1, [], s_hg g) v h') _ _ ⟨rfl, rfl⟩)
  intro v h' hr
  refine (show s_Fin 0 s_m205 (0, [some (.ref 130), some (.int x1), some (.int x2)], [], s_hg g) v h' from ?_)
  refine s_Fin.sg 5 (y := (8, [some (.ref 130), some (.int x1), some (.int x2)], [.int ((6 : Int32) + x1), .ref 132], s_hg g)) rfl ?_
  obtain ⟨k2, hk2, hB⟩ := s_bd hB
  refine s_Fin.ix (n := 375) (i := (6 : Int32) + x1) (pc1 := 9) (L1 := [some (.ref 130), some (.int x1), some (.int x2)]) (fun j1 => [.int (g.1 132 j1)]) (fun j1 => s_hg g) hk2 rfl rfl ?_
  refine s_Fin.sg 4 (y := (13, [some (.ref 130), some (.int x1), some (.int x2)], [.int ((g.1 132 k2) + (x2 / (5 : Int32)))], s_hg g)) rfl ?_
  have hB := Option.some.inj hB
  subst hB
  obtain ⟨rfl, rfl⟩ := hr
  exact s_Fin.rt rfl rfl
-- CampAshesModel.takes
noncomputable def fM_takes_130 (x1 : Int32) (g : s_G) : Option (Int32 × s_G) :=
  s_b1 (fM_isOneKind_130 x1 (s_si g 130 0 (0 : Int32))) fun v1 => if v1 = 0 then (some ((-1 : Int32), (s_si g 130 0 (0 : Int32))))
  else s_b1 (fM_takesOf_130 x1 (g.1 132 48) (s_si g 130 0 (0 : Int32))) fun v2 => some (v2, (s_si g 130 0 (0 : Int32)))
theorem fM_takes_130_s {x1 : Int32} {g : s_G} {z : Int32 × s_G} (hB : fM_takes_130 x1 g = some z) : s_Ev 2 s_m203 [.ref 130, .int x1] (s_hg g) (some (.int z.1)) (s_hg z.2) := by
  unfold fM_takes_130 at hB
  refine s_Ev.fin ((?_ : ∀ (v : Option Value) (h' : s_H), (fun (z : Int32 × s_G) (v : Option Value) (h' : s_H) => v = some (.int z.1) ∧ h' = s_hg z.2) z v h' → s_Fin 2 s_m203 (0, s_ent [.ref 130, .int x1] (s_m203).2.2.1, [], s_hg g) v h') _ _ ⟨rfl, rfl⟩)
  intro v h' hr
  refine (show s_Fin 2 s_m203 (0, [some (.ref 130), some (.int x1)], [], s_hg g) v h' from ?_)
  refine s_Fin.sg 5 (y := (7, [some (.ref 130), some (.int x1)], [.int x1, .ref 130], s_hg (s_si g 130 0 (0 : Int32)))) rfl ?_
  obtain ⟨v1, hp, hB⟩ := s_bd hB
  refine s_Fin.cl (d := 1) (q1 := s_m204) (md := 204) (vs := [.ref 130, .int x1]) (rest := []) (h1 := s_hg (s_si g 130 0 (0 : Int32))) (u := some (.int v1)) (s_Ev.up (by omega) (fM_isOneKind_130_s hp)) rfl rfl rfl rfl ?_
  by_cases hc : v1 = 0
  · rw [if_pos hc] at hB
    refine s_Fin.bt (c := v1 = 0) (tg := 28) (p2 := 10) (L1 := [some (.ref 130), some (.int x1)]) (st1 := []) hc rfl ?_
    refine s_Fin.sg 1 (y := (29, [some (.ref 130), some (.int x1)], [.int (-1 : Int32)], s_hg (s_si g 130 0 (0 : Int32)))) rfl ?_
    have hB := Option.some.inj hB
    subst hB
    obtain ⟨rfl, rfl⟩ := hr
    exact s_Fin.rt rfl rfl
  · rw [if_neg hc] at hB
    refine s_Fin.bf (c := v1 = 0) (tg := 28) (p2 := 10) (L1 := [some (.ref 130), some (.int x1)]) (st1 := []) hc rfl ?_
    refine s_Fin.sg 6 (y := (22, [some (.ref 130), some (.int x1)], [.int (g.1 132 48), .int x1, .ref 130], s_hg (s_si g 130 0 (0 : Int32)))) rfl ?_
    obtain ⟨v2, hp, hB⟩ := s_bd hB
    refine s_Fin.cl (d := 1) (q1 := s_m205) (md := 205) (vs := [.ref 130, .int x1, .int (g.1 132 48)]) (rest := []) (h1 := s_hg (s_si g 130 0 (0 : Int32))) (u := some (.int v2)) (s_Ev.up (by omega) (fM_takesOf_130_s hp)) rfl rfl rfl rfl ?_
    refine s_Fin.sg 1 (y := (29, [some (.ref 130), some (.int x1)], [.int v2], s_hg (s_si g 130 0 (0 : Int32)))) rfl ?_
    have hB := Option.some.inj hB
    subst hB
    obtain ⟨rfl, rfl⟩ := hr
    exact s_Fin.rt rfl rfl
-- CampAshes$State.wouldTake
noncomputable def fT_wouldTake_17 (x1 : Int32) (g : s_G) : Option (Int32) :=
  s_b1 (s_ix 4 x1) fun k2 => some ((g.1 9 k2) + ((g.1 17 6) / (5 : Int32)))
theorem fT_wouldTake_17_s {x1 : Int32} {g : s_G} {z : Int32} (hB : fT_wouldTake_17 x1 g = some z) : s_Ev 0 s_m54 [.ref 17, .int x1] (s_hg g) (some (.int z)) (s_hg g) := by
  unfold fT_wouldTake_17 at hB
  refine s_Ev.fin ((?_ : ∀ (v : Option Value) (h' : s_H), (fun (z : Int32) (v : Option Value) (h' : s_H) => v = some (.int z) ∧ h' = s_hg g) z v h' → s_Fin 0 s_m54 (0, s_ent [.ref 17, .int x1] (s_m54).2.2.1, [], s_hg g) v h') _ _ ⟨rfl, rfl⟩)
  intro v h' hr
  refine (show s_Fin 0 s_m54 (0, [some (.ref 17), some (.int x1)], [], s_hg g) v h' from ?_)
  refine s_Fin.sg 4 (y := (8, [some (.ref 17), some (.int x1)], [.int x1, .ref 9], s_hg g)) rfl ?_
  obtain ⟨k2, hk2, hB⟩ := s_bd hB
  refine s_Fin.ix (n := 4) (i := x1) (pc1 := 9) (L1 := [some (.ref 17), some (.int x1)]) (fun j1 => [.int (g.1 9 j1)]) (fun j1 => s_hg g) hk2 rfl rfl ?_
  refine s_Fin.sg 5 (y := (16, [some (.ref 17), some (.int x1)], [.int ((g.1 9 k2) + ((g.1 17 6) / (5 : Int32)))], s_hg g)) rfl ?_
  have hB := Option.some.inj hB
  subst hB
  obtain ⟨rfl, rfl⟩ := hr
  exact s_Fin.rt rfl rfl
-- CampAshes.takes
noncomputable def fC_takes_0 (x1 : Int32) (g : s_G) : Option (Int32) :=
  if x1 < 0 then (some (-1 : Int32))
  else if x1 < (4 : Int32) then (s_b1 (fT_wouldTake_17 x1 g) fun v1 => some v1)
  else some (-1 : Int32)
theorem fC_takes_0_s {x1 : Int32} {g : s_G} {z : Int32} (hB : fC_takes_0 x1 g = some z) : s_Ev 1 s_m53 [.ref 0, .int x1] (s_hg g) (some (.int z)) (s_hg g) := by
  unfold fC_takes_0 at hB
  refine s_Ev.fin ((?_ : ∀ (v : Option Value) (h' : s_H), (fun (z : Int32) (v : Option Value) (h' : s_H) => v = some (.int z) ∧ h' = s_hg g) z v h' → s_Fin 1 s_m53 (0, s_ent [.ref 0, .int x1] (s_m53).2.2.1, [], s_hg g) v h') _ _ ⟨rfl, rfl⟩)
  intro v h' hr
  refine (show s_Fin 1 s_m53 (0, [some (.ref 0), some (.int x1)], [], s_hg g) v h' from ?_)
  refine s_Fin.sg 1 (y := (1, [some (.ref 0), some (.int x1)], [.int x1], s_hg g)) rfl ?_
  by_cases hc : x1 < 0
  · rw [if_pos hc] at hB
    refine s_Fin.bt (c := x1 < 0) (tg := 20) (p2 := 1) (L1 := [some (.ref 0), some (.int x1)]) (st1 := []) hc rfl ?_
    refine s_Fin.sg 1 (y := (21, [some (.ref 0), some (.int x1)], [.int (-1 : Int32)], s_hg g)) rfl ?_
    have hB := Option.some.inj hB
    subst hB
    obtain ⟨rfl, rfl⟩ := hr
    exact s_Fin.rt rfl rfl
  · rw [if_neg hc] at hB
    refine s_Fin.bf (c := x1 < 0) (tg := 20) (p2 := 1) (L1 := [some (.ref 0), some (.int x1)]) (st1 := []) hc rfl ?_
    refine s_Fin.sg 2 (y := (6, [some (.ref 0), some (.int x1)], [.int (4 : Int32), .int x1], s_hg g)) rfl ?_
    by_cases hc : x1 < (4 : Int32)
    · rw [if_pos hc] at hB
      refine s_Fin.bf (c := (4 : Int32) ≤ x1) (tg := 20) (p2 := 6) (L1 := [some (.ref 0), some (.int x1)]) (st1 := []) (Int32.not_le.mpr hc) rfl ?_
      refine s_Fin.sg 3 (y := (14, [some (.ref 0), some (.int x1)], [.int x1, .ref 17], s_hg g)) rfl ?_
      obtain ⟨v1, hp, hB⟩ := s_bd hB
      refine s_Fin.cl (d := 0) (q1 := s_m54) (md := 54) (vs := [.ref 17, .int x1]) (rest := []) (h1 := s_hg g) (u := some (.int v1)) (s_Ev.up (by omega) (fT_wouldTake_17_s hp)) rfl rfl rfl rfl ?_
      refine s_Fin.sg 1 (y := (21, [some (.ref 0), some (.int x1)], [.int v1], s_hg g)) rfl ?_
      have hB := Option.some.inj hB
      subst hB
      obtain ⟨rfl, rfl⟩ := hr
      exact s_Fin.rt rfl rfl
    · rw [if_neg hc] at hB
      refine s_Fin.bt (c := (4 : Int32) ≤ x1) (tg := 20) (p2 := 6) (L1 := [some (.ref 0), some (.int x1)]) (st1 := []) (Int32.not_lt.mp hc) rfl ?_
      refine s_Fin.sg 1 (y := (21, [some (.ref 0), some (.int x1)], [.int (-1 : Int32)], s_hg g)) rfl ?_
      have hB := Option.some.inj hB
      subst hB
      obtain ⟨rfl, rfl⟩ := hr
      exact s_Fin.rt rfl rfl
