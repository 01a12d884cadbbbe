-- CampAshesModel.layMore
noncomputable def fM_layMore_130_26 (x1 : Int32) (x2 : Int32) (x3 : Int32) (g : s_G) : Option ((Int32 × s_G) ⊕ ((Int32 × s_G) ⊕ (s_G))) :=
  if x3 < (7 : Int32) then (s_b1 (fM_has_s (x1 &&& (x2 ^^^ (-1 : Int32))) x3 g) fun v3 => if v3 = 0 then (some (.inl (x3 + (1 : Int32), g)))
  else s_b1 (fM_moreBy_130 x3 x2 g) fun v4 => s_b1 (s_ix 128 x2) fun k6 => if (g.1 143 k6) < v4 then (s_b1 (fM_moreBy_130 x3 x2 g) fun v7 => some (.inl (x3 + (1 : Int32), (s_si g 143 k6 v7))))
  else some (.inl (x3 + (1 : Int32), g)))
  else s_in (some (.inl (x2 + (-1 : Int32), g)))
theorem fM_layMore_130_26_s {x1 : Int32} {x2 : Int32} {x3 : Int32} {g : s_G} {z : (Int32 × s_G) ⊕ ((Int32 × s_G) ⊕ (s_G))} (hB : fM_layMore_130_26 x1 x2 x3 g = some z) {v : Option Value} {h' : s_H} (hr : (s_sm (fun (x : Int32 × s_G) (v : Option Value) (h' : s_H) => s_Fin 4 s_m230 (26, [some (.ref 130), some (.int x1), some (.int x2), some (.int x.1)], [], s_hg x.2) v h') (s_sm (fun (x : Int32 × s_G) (v : Option Value) (h' : s_H) => s_Fin 4 s_m230 (2, [some (.ref 130), some (.int x1), some (.int x.1), none], [], s_hg x.2) v h') (fun (z : s_G) (v : Option Value) (h' : s_H) => v = none ∧ h' = s_hg z))) z v h') : s_Fin 4 s_m230 (26, [some (.ref 130), some (.int x1), some (.int x2), some (.int x3)], [], s_hg g) v h' := by
  unfold fM_layMore_130_26 at hB
  refine s_Fin.sg 2 (y := (29, [some (.ref 130), some (.int x1), some (.int x2), some (.int x3)], [.int (7 : Int32), .int x3], s_hg g)) rfl ?_
  by_cases hc : x3 < (7 : Int32)
  · rw [if_pos hc] at hB
    refine s_Fin.bf (c := (7 : Int32) ≤ x3) (tg := 77) (p2 := 29) (L1 := [some (.ref 130), some (.int x1), some (.int x2), some (.int x3)]) (st1 := []) (Int32.not_le.mpr hc) rfl ?_
    refine s_Fin.sg 6 (y := (38, [some (.ref 130), some (.int x1), some (.int x2), some (.int x3)], [.int x3, .int (x1 &&& (x2 ^^^ (-1 : Int32)))], s_hg g)) rfl ?_
    obtain ⟨v3, hp, hB⟩ := s_bd hB
    refine s_Fin.cl (d := 3) (q1 := s_m198) (md := 198) (vs := [.int (x1 &&& (x2 ^^^ (-1 : Int32))), .int x3]) (rest := []) (h1 := s_hg g) (u := some (.int v3)) (s_Ev.up (by omega) (fM_has_s_s hp)) rfl rfl rfl rfl ?_
    by_cases hc : v3 = 0
    · rw [if_pos hc] at hB
      refine s_Fin.bt (c := v3 = 0) (tg := 71) (p2 := 41) (L1 := [some (.ref 130), some (.int x1), some (.int x2), some (.int x3)]) (st1 := []) hc rfl ?_
      refine s_Fin.sg 2 (y := (26, [some (.ref 130), some (.int x1), some (.int x2), some (.int (x3 + (1 : Int32)))], [], s_hg g)) rfl ?_
      have hB := Option.some.inj hB
      subst hB
      exact s_Fin.more (L := [some (.ref 130), some (.int x1), some (.int x2), some (.int (x3 + (1 : Int32)))]) ⟨Or.inr rfl, Or.inr rfl, Or.inr rfl, Or.inr rfl, trivial⟩ hr
    · rw [if_neg hc] at hB
      refine s_Fin.bf (c := v3 = 0) (tg := 71) (p2 := 41) (L1 := [some (.ref 130), some (.int x1), some (.int x2), some (.int x3)]) (st1 := []) hc rfl ?_
      refine s_Fin.sg 3 (y := (47, [some (.ref 130), some (.int x1), some (.int x2), some (.int x3)], [.int x2, .int x3, .ref 130], s_hg g)) rfl ?_
      obtain ⟨v4, hp, hB⟩ := s_bd hB
      refine s_Fin.cl (d := 3) (q1 := s_m231) (md := 231) (vs := [.ref 130, .int x3, .int x2]) (rest := []) (h1 := s_hg g) (u := some (.int v4)) (s_Ev.up (by omega) (fM_moreBy_130_s hp)) rfl rfl rfl rfl ?_
      refine s_Fin.sg 3 (y := (55, [some (.ref 130), some (.int x1), some (.int x2), some (.int x3)], [.int x2, .ref 143, .int v4], s_hg g)) rfl ?_
      obtain ⟨k6, hk6, hB⟩ := s_bd hB
      refine s_Fin.ix (n := 128) (i := x2) (pc1 := 56) (L1 := [some (.ref 130), some (.int x1), some (.int x2), some (.int x3)]) (fun j5 => [.int (g.1 143 j5), .int v4]) (fun j5 => s_hg g) hk6 rfl rfl ?_
      by_cases hc : (g.1 143 k6) < v4
      · rw [if_pos hc] at hB
        refine s_Fin.bf (c := v4 ≤ (g.1 143 k6)) (tg := 71) (p2 := 56) (L1 := [some (.ref 130), some (.int x1), some (.int x2), some (.int x3)]) (st1 := []) (Int32.not_le.mpr hc) rfl ?_
        refine s_Fin.sg 6 (y := (67, [some (.ref 130), some (.int x1), some (.int x2), some (.int x3)], [.int x2, .int x3, .ref 130, .int x2, .ref 143], s_hg g)) rfl ?_
        obtain ⟨v7, hp, hB⟩ := s_bd hB
        refine s_Fin.cl (d := 3) (q1 := s_m231) (md := 231) (vs := [.ref 130, .int x3, .int x2]) (rest := [.int x2, .ref 143]) (h1 := s_hg g) (u := some (.int v7)) (s_Ev.up (by omega) (fM_moreBy_130_s hp)) rfl rfl rfl rfl ?_
        refine s_Fin.ix (n := 128) (i := x2) (pc1 := 71) (L1 := [some (.ref 130), some (.int x1), some (.int x2), some (.int x3)]) (fun j8 => []) (fun j8 => s_hg (s_si g 143 j8 v7)) hk6 rfl rfl ?_
        refine s_Fin.sg 2 (y := (26, [some (.ref 130), some (.int x1), some (.int x2), some (.int (x3 + (1 : Int32)))], [], s_hg (s_si g 143 k6 v7))) rfl ?_
        have hB := Option.some.inj hB
        subst hB
        exact s_Fin.more (L := [some (.ref 130), some (.int x1), some (.int x2), some (.int (x3 + (1 : Int32)))]) ⟨Or.inr rfl, Or.inr rfl, Or.inr rfl, Or.inr rfl, trivial⟩ hr
      · rw [if_neg hc] at hB
        refine s_Fin.bt (c := v4 ≤ (g.1 143 k6)) (tg := 71) (p2 := 56) (L1 := [some (.ref 130), some (.int x1), some (.int x2), some (.int x3)]) (st1 := []) (Int32.not_lt.mp hc) rfl ?_
        refine s_Fin.sg 2 (y := (26, [some (.ref 130), some (.int x1), some (.int x2), some (.int (x3 + (1 : Int32)))], [], s_hg g)) rfl ?_
        have hB := Option.some.inj hB
        subst hB
        exact s_Fin.more (L := [some (.ref 130), some (.int x1), some (.int x2), some (.int (x3 + (1 : Int32)))]) ⟨Or.inr rfl, Or.inr rfl, Or.inr rfl, Or.inr rfl, trivial⟩ hr
  · rw [if_neg hc] at hB
    refine s_Fin.bt (c := (7 : Int32) ≤ x3) (tg := 77) (p2 := 29) (L1 := [some (.ref 130), some (.int x1), some (.int x2), some (.int x3)]) (st1 := []) (Int32.not_lt.mp hc) rfl ?_
    obtain ⟨_, hN, hz⟩ := s_in_of hB
    subst hz
    have hB := hN
    refine s_Fin.sg 2 (y := (2, [some (.ref 130), some (.int x1), some (.int (x2 + (-1 : Int32))), some (.int x3)], [], s_hg g)) rfl ?_
    have hB := Option.some.inj hB
    subst hB
    exact s_Fin.more (L := [some (.ref 130), some (.int x1), some (.int (x2 + (-1 : Int32))), none]) ⟨Or.inr rfl, Or.inr rfl, Or.inr rfl, Or.inl rfl, trivial⟩ hr
noncomputable def fM_layMore_130_2 (x1 : Int32) (x2 : Int32) (g : s_G) : Option ((Int32 × s_G) ⊕ (s_G)) :=
  if x2 < 0 then (s_in (some g))
  else if (x2 &&& (x1 ^^^ (-1 : Int32))) = 0 then (s_b1 (s_ix 128 x2) fun k2 => s_lp (fun x => fM_layMore_130_26 x1 x2 x.1 x.2) ((0 : Int32), (s_si g 143 k2 (0 : Int32))))
  else some (.inl (x2 + (-1 : Int32), g))
theorem fM_layMore_130_2_s {x1 : Int32} {x2 : Int32} {g : s_G} {z : (Int32 × s_G) ⊕ (s_G)} (hB : fM_layMore_130_2 x1 x2 g = some z) {v : Option Value} {h' : s_H} (hr : (s_sm (fun (x : Int32 × s_G) (v : Option Value) (h' : s_H) => s_Fin 4 s_m230 (2, [some (.ref 130), some (.int x1), some (.int x.1), none], [], s_hg x.2) v h') (fun (z : s_G) (v : Option Value) (h' : s_H) => v = none ∧ h' = s_hg z)) z v h') : s_Fin 4 s_m230 (2, [some (.ref 130), some (.int x1), some (.int x2), none], [], s_hg g) v h' := by
  unfold fM_layMore_130_2 at hB
  refine s_Fin.sg 1 (y := (3, [some (.ref 130), some (.int x1), some (.int x2), none], [.int x2], s_hg g)) rfl ?_
  by_cases hc : x2 < 0
  · rw [if_pos hc] at hB
    refine s_Fin.bt (c := x2 < 0) (tg := 83) (p2 := 3) (L1 := [some (.ref 130), some (.int x1), some (.int x2), none]) (st1 := []) hc rfl ?_
    obtain ⟨_, hN, hz⟩ := s_in_of hB
    subst hz
    have hB := hN
    have hB := Option.some.inj hB
    subst hB
    obtain ⟨rfl, rfl⟩ := hr
    exact s_Fin.rt rfl rfl
  · rw [if_neg hc] at hB
    refine s_Fin.bf (c := x2 < 0) (tg := 83) (p2 := 3) (L1 := [some (.ref 130), some (.int x1), some (.int x2), none]) (st1 := []) hc rfl ?_
    refine s_Fin.sg 5 (y := (11, [some (.ref 130), some (.int x1), some (.int x2), none], [.int (x2 &&& (x1 ^^^ (-1 : Int32)))], s_hg g)) rfl ?_
    by_cases hc : (x2 &&& (x1 ^^^ (-1 : Int32))) = 0
    · rw [if_pos hc] at hB
      refine s_Fin.bt (c := (x2 &&& (x1 ^^^ (-1 : Int32))) = 0) (tg := 17) (p2 := 11) (L1 := [some (.ref 130), some (.int x1), some (.int x2), none]) (st1 := []) hc rfl ?_
      refine s_Fin.sg 4 (y := (23, [some (.ref 130), some (.int x1), some (.int x2), none], [.int (0 : Int32), .int x2, .ref 143], s_hg g)) rfl ?_
      obtain ⟨k2, hk2, hB⟩ := s_bd hB
      refine s_Fin.ix (n := 128) (i := x2) (pc1 := 24) (L1 := [some (.ref 130), some (.int x1), some (.int x2), none]) (fun j1 => []) (fun j1 => s_hg (s_si g 143 j1 (0 : Int32))) hk2 rfl rfl ?_
      refine s_Fin.sg 2 (y := (26, [some (.ref 130), some (.int x1), some (.int x2), some (.int (0 : Int32))], [], s_hg (s_si g 143 k2 (0 : Int32)))) rfl ?_
      exact s_Fin.more (L := [some (.ref 130), some (.int x1), some (.int x2), some (.int (0 : Int32))]) ⟨Or.inr rfl, Or.inr rfl, Or.inr rfl, Or.inr rfl, trivial⟩ (s_lp_s (P := (fun (x : Int32 × s_G) (v : Option Value) (h' : s_H) => s_Fin 4 s_m230 (26, [some (.ref 130), some (.int x1), some (.int x2), some (.int x.1)], [], s_hg x.2) v h')) (Q := (s_sm (fun (x : Int32 × s_G) (v : Option Value) (h' : s_H) => s_Fin 4 s_m230 (2, [some (.ref 130), some (.int x1), some (.int x.1), none], [], s_hg x.2) v h') (fun (z : s_G) (v : Option Value) (h' : s_H) => v = none ∧ h' = s_hg z))) (fun x z hB v h' hr => fM_layMore_130_26_s hB hr) hB _ _ hr)
    · rw [if_neg hc] at hB
      refine s_Fin.bf (c := (x2 &&& (x1 ^^^ (-1 : Int32))) = 0) (tg := 17) (p2 := 11) (L1 := [some (.ref 130), some (.int x1), some (.int x2), none]) (st1 := []) hc rfl ?_
      refine s_Fin.sg 3 (y := (2, [some (.ref 130), some (.int x1), some (.int (x2 + (-1 : Int32))), none], [], s_hg g)) rfl ?_
      have hB := Option.some.inj hB
      subst hB
      exact s_Fin.more (L := [some (.ref 130), some (.int x1), some (.int (x2 + (-1 : Int32))), none]) ⟨Or.inr rfl, Or.inr rfl, Or.inr rfl, Or.inl rfl, trivial⟩ hr
noncomputable def fM_layMore_130 (x1 : Int32) (g : s_G) : Option (s_G) :=
  s_lp (fun x => fM_layMore_130_2 x1 x.1 x.2) (x1, g)
theorem fM_layMore_130_s {x1 : Int32} {g : s_G} {z : s_G} (hB : fM_layMore_130 x1 g = some z) : s_Ev 4 s_m230 [.ref 130, .int x1] (s_hg g) (none) (s_hg z) := by
  unfold fM_layMore_130 at hB
  refine s_Ev.fin ((?_ : ∀ (v : Option Value) (h' : s_H), (fun (z : s_G) (v : Option Value) (h' : s_H) => v = none ∧ h' = s_hg z) z v h' → s_Fin 4 s_m230 (0, s_ent [.ref 130, .int x1] (s_m230).2.2.1, [], s_hg g) v h') _ _ ⟨rfl, rfl⟩)
  intro v h' hr
  refine (show s_Fin 4 s_m230 (0, [some (.ref 130), some (.int x1), none, none], [], s_hg g) v h' from ?_)
  refine s_Fin.sg 2 (y := (2, [some (.ref 130), some (.int x1), some (.int x1), none], [], s_hg g)) rfl ?_
  exact s_Fin.more (L := [some (.ref 130), some (.int x1), some (.int x1), none]) ⟨Or.inr rfl, Or.inr rfl, Or.inr rfl, Or.inl rfl, trivial⟩ (s_lp_s (P := (fun (x : Int32 × s_G) (v : Option Value) (h' : s_H) => s_Fin 4 s_m230 (2, [some (.ref 130), some (.int x1), some (.int x.1), none], [], s_hg x.2) v h')) (Q := (fun (z : s_G) (v : Option Value) (h' : s_H) => v = none ∧ h' = s_hg z)) (fun x z hB v h' hr => fM_layMore_130_2_s hB hr) hB _ _ hr)
-- CampAshesModel.best
noncomputable def fM_best_130_29 (x1 : Int32) (x2 : Int32) (x3 : Int32) (g : s_G) : Option ((Int32) ⊕ ((Int32 × s_G) ⊕ (Int32 × s_G))) :=
  s_b1 (fM_has_s (x1 &&& (x2 ^^^ (-1 : Int32))) x3 g) fun v3 => if v3 = 0 then (some (.inl (x3 + (1 : Int32))))
  else s_b1 (fM_moreBy_130 x3 x2 g) fun v4 => s_b1 (s_ix 128 x2) fun k6 => if v4 = (g.1 143 k6) then (s_in (s_b1 (s_ix 7 (g.1 130 28)) fun k8 => some (.inl (x2 ||| ((1 : Int32) <<< (x3 &&& 31)), (s_si (s_si g 144 k8 x3) 130 28 ((g.1 130 28) + (1 : Int32)))))))
  else some (.inl (x3 + (1 : Int32)))
theorem fM_best_130_29_s {x1 : Int32} {x2 : Int32} {x3 : Int32} {g : s_G} {z : (Int32) ⊕ ((Int32 × s_G) ⊕ (Int32 × s_G))} (hB : fM_best_130_29 x1 x2 x3 g = some z) {v : Option Value} {h' : s_H} (hr : (s_sm (fun (x : Int32) (v : Option Value) (h' : s_H) => s_Fin 5 s_m227 (29, [some (.ref 130), some (.int x1), some (.int x2), some (.int x)], [], s_hg g) v h') (s_sm (fun (x : Int32 × s_G) (v : Option Value) (h' : s_H) => s_Fin 5 s_m227 (22, [some (.ref 130), some (.int x1), some (.int x.1), none], [], s_hg x.2) v h') (fun (z : Int32 × s_G) (v : Option Value) (h' : s_H) => v = some (.int z.1) ∧ h' = s_hg z.2))) z v h') : s_Fin 5 s_m227 (29, [some (.ref 130), some (.int x1), some (.int x2), some (.int x3)], [], s_hg g) v h' := by
  unfold fM_best_130_29 at hB
  refine s_Fin.sg 6 (y := (35, [some (.ref 130), some (.int x1), some (.int x2), some (.int x3)], [.int x3, .int (x1 &&& (x2 ^^^ (-1 : Int32)))], s_hg g)) rfl ?_
  obtain ⟨v3, hp, hB⟩ := s_bd hB
  refine s_Fin.cl (d := 4) (q1 := s_m198) (md := 198) (vs := [.int (x1 &&& (x2 ^^^ (-1 : Int32))), .int x3]) (rest := []) (h1 := s_hg g) (u := some (.int v3)) (s_Ev.up (by omega) (fM_has_s_s hp)) rfl rfl rfl rfl ?_
  by_cases hc : v3 = 0
  · rw [if_pos hc] at hB
    refine s_Fin.bt (c := v3 = 0) (tg := 56) (p2 := 38) (L1 := [some (.ref 130), some (.int x1), some (.int x2), some (.int x3)]) (st1 := []) hc rfl ?_
    refine s_Fin.sg 2 (y := (29, [some (.ref 130), some (.int x1), some (.int x2), some (.int (x3 + (1 : Int32)))], [], s_hg g)) rfl ?_
    have hB := Option.some.inj hB
    subst hB
    exact s_Fin.more (L := [some (.ref 130), some (.int x1), some (.int x2), some (.int (x3 + (1 : Int32)))]) ⟨Or.inr rfl, Or.inr rfl, Or.inr rfl, Or.inr rfl, trivial⟩ hr
  · rw [if_neg hc] at hB
    refine s_Fin.bf (c := v3 = 0) (tg := 56) (p2 := 38) (L1 := [some (.ref 130), some (.int x1), some (.int x2), some (.int x3)]) (st1 := []) hc rfl ?_
    refine s_Fin.sg 3 (y := (44, [some (.ref 130), some (.int x1), some (.int x2), some (.int x3)], [.int x2, .int x3, .ref 130], s_hg g)) rfl ?_
    obtain ⟨v4, hp, hB⟩ := s_bd hB
    refine s_Fin.cl (d := 4) (q1 := s_m231) (md := 231) (vs := [.ref 130, .int x3, .int x2]) (rest := []) (h1 := s_hg g) (u := some (.int v4)) (s_Ev.up (by omega) (fM_moreBy_130_s hp)) rfl rfl rfl rfl ?_
    refine s_Fin.sg 3 (y := (52, [some (.ref 130), some (.int x1), some (.int x2), some (.int x3)], [.int x2, .ref 143, .int v4], s_hg g)) rfl ?_
    obtain ⟨k6, hk6, hB⟩ := s_bd hB
    refine s_Fin.ix (n := 128) (i := x2) (pc1 := 53) (L1 := [some (.ref 130), some (.int x1), some (.int x2), some (.int x3)]) (fun j5 => [.int (g.1 143 j5), .int v4]) (fun j5 => s_hg g) hk6 rfl rfl ?_
    by_cases hc : v4 = (g.1 143 k6)
    · rw [if_pos hc] at hB
      refine s_Fin.bt (c := v4 = (g.1 143 k6)) (tg := 62) (p2 := 53) (L1 := [some (.ref 130), some (.int x1), some (.int x2), some (.int x3)]) (st1 := []) hc rfl ?_
      obtain ⟨_, hN, hz⟩ := s_in_of hB
      subst hz
      have hB := hN
      refine s_Fin.sg 5 (y := (71, [some (.ref 130), some (.int x1), some (.int x2), some (.int x3)], [.int x3, .int (g.1 130 28), .ref 144], s_hg g)) rfl ?_
      obtain ⟨k8, hk8, hB⟩ := s_bd hB
      refine s_Fin.ix (n := 7) (i := g.1 130 28) (pc1 := 72) (L1 := [some (.ref 130), some (.int x1), some (.int x2), some (.int x3)]) (fun j7 => []) (fun j7 => s_hg (s_si g 144 j7 x3)) hk8 rfl rfl ?_
      refine s_Fin.sg 13 (y := (22, [some (.ref 130), some (.int x1), some (.int (x2 ||| ((1 : Int32) <<< (x3 &&& 31)))), some (.int x3)], [], s_hg (s_si (s_si g 144 k8 x3) 130 28 ((g.1 130 28) + (1 : Int32))))) rfl ?_
      have hB := Option.some.inj hB
      subst hB
      exact s_Fin.more (L := [some (.ref 130), some (.int x1), some (.int (x2 ||| ((1 : Int32) <<< (x3 &&& 31)))), none]) ⟨Or.inr rfl, Or.inr rfl, Or.inr rfl, Or.inl rfl, trivial⟩ hr
    · rw [if_neg hc] at hB
      refine s_Fin.bf (c := v4 = (g.1 143 k6)) (tg := 62) (p2 := 53) (L1 := [some (.ref 130), some (.int x1), some (.int x2), some (.int x3)]) (st1 := []) hc rfl ?_
      refine s_Fin.sg 2 (y := (29, [some (.ref 130), some (.int x1), some (.int x2), some (.int (x3 + (1 : Int32)))], [], s_hg g)) rfl ?_
      have hB := Option.some.inj hB
      subst hB
      exact s_Fin.more (L := [some (.ref 130), some (.int x1), some (.int x2), some (.int (x3 + (1 : Int32)))]) ⟨Or.inr rfl, Or.inr rfl, Or.inr rfl, Or.inr rfl, trivial⟩ hr
noncomputable def fM_best_130_22 (x1 : Int32) (x2 : Int32) (g : s_G) : Option ((Int32 × s_G) ⊕ (Int32 × s_G)) :=
  if x2 = x1 then (s_in (some (g.1 143 0, g)))
  else s_lp (fun x => fM_best_130_29 x1 x2 x g) (0 : Int32)
theorem fM_best_130_22_s {x1 : Int32} {x2 : Int32} {g : s_G} {z : (Int32 × s_G) ⊕ (Int32 × s_G)} (hB : fM_best_130_22 x1 x2 g = some z) {v : Option Value} {h' : s_H} (hr : (s_sm (fun (x : Int32 × s_G) (v : Option Value) (h' : s_H) => s_Fin 5 s_m227 (22, [some (.ref 130), some (.int x1), some (.int x.1), none], [], s_hg x.2) v h') (fun (z : Int32 × s_G) (v : Option Value) (h' : s_H) => v = some (.int z.1) ∧ h' = s_hg z.2)) z v h') : s_Fin 5 s_m227 (22, [some (.ref 130), some (.int x1), some (.int x2), none], [], s_hg g) v h' := by
  unfold fM_best_130_22 at hB
  refine s_Fin.sg 2 (y := (24, [some (.ref 130), some (.int x1), some (.int x2), none], [.int x1, .int x2], s_hg g)) rfl ?_
  by_cases hc : x2 = x1
  · rw [if_pos hc] at hB
    refine s_Fin.bt (c := x2 = x1) (tg := 91) (p2 := 24) (L1 := [some (.ref 130), some (.int x1), some (.int x2), none]) (st1 := []) hc rfl ?_
    obtain ⟨_, hN, hz⟩ := s_in_of hB
    subst hz
    have hB := hN
    refine s_Fin.sg 4 (y := (97, [some (.ref 130), some (.int x1), some (.int x2), none], [.int (g.1 143 0)], s_hg g)) rfl ?_
    have hB := Option.some.inj hB
    subst hB
    obtain ⟨rfl, rfl⟩ := hr
    exact s_Fin.rt rfl rfl
  · rw [if_neg hc] at hB
    refine s_Fin.bf (c := x2 = x1) (tg := 91) (p2 := 24) (L1 := [some (.ref 130), some (.int x1), some (.int x2), none]) (st1 := []) hc rfl ?_
    refine s_Fin.sg 2 (y := (29, [some (.ref 130), some (.int x1), some (.int x2), some (.int (0 : Int32))], [], s_hg g)) rfl ?_
    exact s_Fin.more (L := [some (.ref 130), some (.int x1), some (.int x2), some (.int (0 : Int32))]) ⟨Or.inr rfl, Or.inr rfl, Or.inr rfl, Or.inr rfl, trivial⟩ (s_lp_s (P := (fun (x : Int32) (v : Option Value) (h' : s_H) => s_Fin 5 s_m227 (29, [some (.ref 130), some (.int x1), some (.int x2), some (.int x)], [], s_hg g) v h')) (Q := (s_sm (fun (x : Int32 × s_G) (v : Option Value) (h' : s_H) => s_Fin 5 s_m227 (22, [some (.ref 130), some (.int x1), some (.int x.1), none], [], s_hg x.2) v h') (fun (z : Int32 × s_G) (v : Option Value) (h' : s_H) => v = some (.int z.1) ∧ h' = s_hg z.2))) (fun x z hB v h' hr => fM_best_130_29_s hB hr) hB _ _ hr)
noncomputable def fM_best_130 (g : s_G) : Option (Int32 × s_G) :=
  s_b1 (fM_tellers_130 (s_si g 130 0 (0 : Int32))) fun v1 => s_b1 (fM_layMore_130 v1 (s_si g 130 0 (0 : Int32))) fun g2 => s_lp (fun x => fM_best_130_22 v1 x.1 x.2) ((0 : Int32), (s_si g2 130 28 (0 : Int32)))
theorem fM_best_130_s {g : s_G} {z : Int32 × s_G} (hB : fM_best_130 g = some z) : s_Ev 5 s_m227 [.ref 130] (s_hg g) (some (.int z.1)) (s_hg z.2) := by
  unfold fM_best_130 at hB
  refine s_Ev.fin ((?_ : ∀ (v : Option Value) (h' : s_H), (fun (z : Int32 × s_G) (v : Option Value) (h' : s_H) => v = some (.int z.1) ∧ h' = s_hg z.2) z v h' → s_Fin 5 s_m227 (0, s_ent [.ref 130] (s_m227).2.2.1, [], s_hg g) v h') _ _ ⟨rfl, rfl⟩)
  intro v h' hr
  refine (show s_Fin 5 s_m227 (0, [some (.ref 130), none, none, none], [], s_hg g) v h' from ?_)
  refine s_Fin.sg 4 (y := (6, [some (.ref 130), none, none, none], [.ref 130], s_hg (s_si g 130 0 (0 : Int32)))) rfl ?_
  obtain ⟨v1, hp, hB⟩ := s_bd hB
  refine s_Fin.cl (d := 4) (q1 := s_m228) (md := 228) (vs := [.ref 130]) (rest := []) (h1 := s_hg (s_si g 130 0 (0 : Int32))) (u := some (.int v1)) (s_Ev.up (by omega) (fM_tellers_130_s hp)) rfl rfl rfl rfl ?_
  refine s_Fin.sg 3 (y := (12, [some (.ref 130), some (.int v1), none, none], [.int v1, .ref 130], s_hg (s_si g 130 0 (0 : Int32)))) rfl ?_
  obtain ⟨g2, hp, hB⟩ := s_bd hB
  refine s_Fin.cl (d := 4) (q1 := s_m230) (md := 230) (vs := [.ref 130, .int v1]) (rest := []) (h1 := s_hg g2) (u := none) (s_Ev.up (by omega) (fM_layMore_130_s hp)) rfl rfl rfl rfl ?_
  refine s_Fin.sg 5 (y := (22, [some (.ref 130), some (.int v1), some (.int (0 : Int32)), none], [], s_hg (s_si g2 130 28 (0 : Int32)))) rfl ?_
  exact s_Fin.more (L := [some (.ref 130), some (.int v1), some (.int (0 : Int32)), none]) ⟨Or.inr rfl, Or.inr rfl, Or.inr rfl, Or.inl rfl, trivial⟩ (s_lp_s (P := (fun (x : Int32 × s_G) (v : Option Value) (h' : s_H) => s_Fin 5 s_m227 (22, [some (.ref 130), some (.int v1), some (.int x.1), none], [], s_hg x.2) v h')) (Q := (fun (z : Int32 × s_G) (v : Option Value) (h' : s_H) => v = some (.int z.1) ∧ h' = s_hg z.2)) (fun x z hB v h' hr => fM_best_130_22_s hB hr) hB _ _ hr)
-- CampAshes$State.heaviest
noncomputable def fT_heaviest_17_7 (x1 : Int32) (x2 : Int32) (x3 : Int32) (x4 : Int32) (g : s_G) : Option ((Int32 × Int32 × Int32) ⊕ (Int32)) :=
  if x4 < (g.1 3 1) then (s_b1 (fT_onBoy_17 x4 x1 g) fun v1 => if x3 < v1 then (s_b1 (fT_onBoy_17 x4 x1 g) fun v2 => some (.inl (x4, v2, x4 + (1 : Int32))))
  else some (.inl (x2, x3, x4 + (1 : Int32))))
  else s_in (some x2)
theorem fT_heaviest_17_7_s {x1 : Int32} {x2 : Int32} {x3 : Int32} {x4 : Int32} {g : s_G} {z : (Int32 × Int32 × Int32) ⊕ (Int32)} (hB : fT_heaviest_17_7 x1 x2 x3 x4 g = some z) {v : Option Value} {h' : s_H} (hr : (s_sm (fun (x : Int32 × Int32 × Int32) (v : Option Value) (h' : s_H) => s_Fin 1 s_m87 (7, [some (.ref 17), some (.int x1), some (.int x.1), some (.int x.2.1), some (.int x.2.2)], [], s_hg g) v h') (fun (z : Int32) (v : Option Value) (h' : s_H) => v = some (.int z) ∧ h' = s_hg g)) z v h') : s_Fin 1 s_m87 (7, [some (.ref 17), some (.int x1), some (.int x2), some (.int x3), some (.int x4)], [], s_hg g) v h' := by
  unfold fT_heaviest_17_7 at hB
  refine s_Fin.sg 4 (y := (16, [some (.ref 17), some (.int x1), some (.int x2), some (.int x3), some (.int x4)], [.int (g.1 3 1), .int x4], s_hg g)) rfl ?_
  by_cases hc : x4 < (g.1 3 1)
  · rw [if_pos hc] at hB
    refine s_Fin.bf (c := (g.1 3 1) ≤ x4) (tg := 47) (p2 := 16) (L1 := [some (.ref 17), some (.int x1), some (.int x2), some (.int x3), some (.int x4)]) (st1 := []) (Int32.not_le.mpr hc) rfl ?_
    refine s_Fin.sg 3 (y := (23, [some (.ref 17), some (.int x1), some (.int x2), some (.int x3), some (.int x4)], [.int x1, .int x4, .ref 17], s_hg g)) rfl ?_
    obtain ⟨v1, hp, hB⟩ := s_bd hB
    refine s_Fin.cl (d := 0) (q1 := s_m50) (md := 50) (vs := [.ref 17, .int x4, .int x1]) (rest := []) (h1 := s_hg g) (u := some (.int v1)) (s_Ev.up (by omega) (fT_onBoy_17_s hp)) rfl rfl rfl rfl ?_
    refine s_Fin.sg 1 (y := (27, [some (.ref 17), some (.int x1), some (.int x2), some (.int x3), some (.int x4)], [.int x3, .int v1], s_hg g)) rfl ?_
    by_cases hc : x3 < v1
    · rw [if_pos hc] at hB
      refine s_Fin.bf (c := v1 ≤ x3) (tg := 41) (p2 := 27) (L1 := [some (.ref 17), some (.int x1), some (.int x2), some (.int x3), some (.int x4)]) (st1 := []) (Int32.not_le.mpr hc) rfl ?_
      refine s_Fin.sg 3 (y := (34, [some (.ref 17), some (.int x1), some (.int x2), some (.int x3), some (.int x4)], [.int x1, .int x4, .ref 17], s_hg g)) rfl ?_
      obtain ⟨v2, hp, hB⟩ := s_bd hB
      refine s_Fin.cl (d := 0) (q1 := s_m50) (md := 50) (vs := [.ref 17, .int x4, .int x1]) (rest := []) (h1 := s_hg g) (u := some (.int v2)) (s_Ev.up (by omega) (fT_onBoy_17_s hp)) rfl rfl rfl rfl ?_
      refine s_Fin.sg 5 (y := (7, [some (.ref 17), some (.int x1), some (.int x4), some (.int v2), some (.int (x4 + (1 : Int32)))], [], s_hg g)) rfl ?_
      have hB := Option.some.inj hB
      subst hB
      exact s_Fin.more (L := [some (.ref 17), some (.int x1), some (.int x4), some (.int v2), some (.int (x4 + (1 : Int32)))]) ⟨Or.inr rfl, Or.inr rfl, Or.inr rfl, Or.inr rfl, Or.inr rfl, trivial⟩ hr
    · rw [if_neg hc] at hB
      refine s_Fin.bt (c := v1 ≤ x3) (tg := 41) (p2 := 27) (L1 := [some (.ref 17), some (.int x1), some (.int x2), some (.int x3), some (.int x4)]) (st1 := []) (Int32.not_lt.mp hc) rfl ?_
      refine s_Fin.sg 2 (y := (7, [some (.ref 17), some (.int x1), some (.int x2), some (.int x3), some (.int (x4 + (1 : Int32)))], [], s_hg g)) rfl ?_
      have hB := Option.some.inj hB
      subst hB
      exact s_Fin.more (L := [some (.ref 17), some (.int x1), some (.int x2), some (.int x3), some (.int (x4 + (1 : Int32)))]) ⟨Or.inr rfl, Or.inr rfl, Or.inr rfl, Or.inr rfl, Or.inr rfl, trivial⟩ hr
  · rw [if_neg hc] at hB
    refine s_Fin.bt (c := (g.1 3 1) ≤ x4) (tg := 47) (p2 := 16) (L1 := [some (.ref 17), some (.int x1), some (.int x2), some (.int x3), some (.int x4)]) (st1 := []) (Int32.not_lt.mp hc) rfl ?_
    obtain ⟨_, hN, hz⟩ := s_in_of hB
    subst hz
    have hB := hN
    refine s_Fin.sg 1 (y := (48, [some (.ref 17), some (.int x1), some (.int x2), some (.int x3), some (.int x4)], [.int x2], s_hg g)) rfl ?_
    have hB := Option.some.inj hB
    subst hB
    obtain ⟨rfl, rfl⟩ := hr
    exact s_Fin.rt rfl rfl
noncomputable def fT_heaviest_17 (x1 : Int32) (g : s_G) : Option (Int32) :=
  s_lp (fun x => fT_heaviest_17_7 x1 x.1 x.2.1 x.2.2 g) ((-1 : Int32), (0 : Int32), (0 : Int32))
theorem fT_heaviest_17_s {x1 : Int32} {g : s_G} {z : Int32} (hB : fT_heaviest_17 x1 g = some z) : s_Ev 1 s_m87 [.ref 17, .int x1] (s_hg g) (some (.int z)) (s_hg g) := by
  unfold fT_heaviest_17 at hB
  refine s_Ev.fin ((?_ : ∀ (v : Option Value) (h' : s_H), (fun (z : Int32) (v : Option Value) (h' : s_H) => v = some (.int z) ∧ h' = s_hg g) z v h' → s_Fin 1 s_m87 (0, s_ent [.ref 17, .int x1] (s_m87).2.2.1, [], s_hg g) v h') _ _ ⟨rfl, rfl⟩)
  intro v h' hr
  refine (show s_Fin 1 s_m87 (0, [some (.ref 17), some (.int x1), none, none, none], [], s_hg g) v h' from ?_)
  refine s_Fin.sg 6 (y := (7, [some (.ref 17), some (.int x1), some (.int (-1 : Int32)), some (.int (0 : Int32)), some (.int (0 : Int32))], [], s_hg g)) rfl ?_
  exact s_Fin.more (L := [some (.ref 17), some (.int x1), some (.int (-1 : Int32)), some (.int (0 : Int32)), some (.int (0 : Int32))]) ⟨Or.inr rfl, Or.inr rfl, Or.inr rfl, Or.inr rfl, Or.inr rfl, trivial⟩ (s_lp_s (P := (fun (x : Int32 × Int32 × Int32) (v : Option Value) (h' : s_H) => s_Fin 1 s_m87 (7, [some (.ref 17), some (.int x1), some (.int x.1), some (.int x.2.1), some (.int x.2.2)], [], s_hg g) v h')) (Q := (fun (z : Int32) (v : Option Value) (h' : s_H) => v = some (.int z) ∧ h' = s_hg g)) (fun x z hB v h' hr => fT_heaviest_17_7_s hB hr) hB _ _ hr)
-- CampAshes$State.isHushed
noncomputable def fT_isHushed_17 (x1 : Int32) (g : s_G) : Option (Int32) :=
  if (((g.1 17 5) >>> (x1 &&& 31)) &&& (1 : Int32)) = (1 : Int32) then (some (1 : Int32))
  else some (0 : Int32)
theorem fT_isHushed_17_s {x1 : Int32} {g : s_G} {z : Int32} (hB : fT_isHushed_17 x1 g = some z) : s_Ev 0 s_m65 [.ref 17, .int x1] (s_hg g) (some (.int z)) (s_hg g) := by
  unfold fT_isHushed_17 at hB
  refine s_Ev.fin ((?_ : ∀ (v : Option Value) (h' : s_H), (fun (z : Int32) (v : Option Value) (h' : s_H) => v = some (.int z) ∧ h' = s_hg g) z v h' → s_Fin 0 s_m65 (0, s_ent [.ref 17, .int x1] (s_m65).2.2.1, [], s_hg g) v h') _ _ ⟨rfl, rfl⟩)
  intro v h' hr
  refine (show s_Fin 0 s_m65 (0, [some (.ref 17), some (.int x1)], [], s_hg g) v h' from ?_)
  refine s_Fin.sg 7 (y := (9, [some (.ref 17), some (.int x1)], [.int (1 : Int32), .int (((g.1 17 5) >>> (x1 &&& 31)) &&& (1 : Int32))], s_hg g)) rfl ?_
  by_cases hc : (((g.1 17 5) >>> (x1 &&& 31)) &&& (1 : Int32)) = (1 : Int32)
  · rw [if_pos hc] at hB
    refine s_Fin.bf (c := ¬ (((g.1 17 5) >>> (x1 &&& 31)) &&& (1 : Int32)) = (1 : Int32)) (tg := 16) (p2 := 9) (L1 := [some (.ref 17), some (.int x1)]) (st1 := []) (fun h => h hc) rfl ?_
    refine s_Fin.sg 2 (y := (17, [some (.ref 17), some (.int x1)], [.int (1 : Int32)], s_hg g)) rfl ?_
    have hB := Option.some.inj hB
    subst hB
    obtain ⟨rfl, rfl⟩ := hr
    exact s_Fin.rt rfl rfl
  · rw [if_neg hc] at hB
    refine s_Fin.bt (c := ¬ (((g.1 17 5) >>> (x1 &&& 31)) &&& (1 : Int32)) = (1 : Int32)) (tg := 16) (p2 := 9) (L1 := [some (.ref 17), some (.int x1)]) (st1 := []) hc rfl ?_
    refine s_Fin.sg 1 (y := (17, [some (.ref 17), some (.int x1)], [.int (0 : Int32)], s_hg g)) rfl ?_
    have hB := Option.some.inj hB
    subst hB
    obtain ⟨rfl, rfl⟩ := hr
    exact s_Fin.rt rfl rfl
-- CampAshes$State.whyNotSpeak
noncomputable def fT_whyNotSpeak_17 (x1 : Int32) (x2 : Int32) (g : s_G) : Option (Int32) :=
  s_b1 (fT_onBoy_17 x2 x1 g) fun v1 => if v1 = 0 then (some (1 : Int32))
  else s_b1 (fT_isWet_17 g) fun v2 => if v2 = 0 then (if (g.1 17 6) = 0 then (some (3 : Int32))
  else s_b1 (fT_isHushed_17 x1 g) fun v3 => if v3 = 0 then (some (0 : Int32))
  else some (4 : Int32))
  else some (2 : Int32)
theorem fT_whyNotSpeak_17_s {x1 : Int32} {x2 : Int32} {g : s_G} {z : Int32} (hB : fT_whyNotSpeak_17 x1 x2 g = some z) : s_Ev 1 s_m64 [.ref 17, .int x1, .int x2] (s_hg g) (some (.int z)) (s_hg g) := by
  unfold fT_whyNotSpeak_17 at hB
  refine s_Ev.fin ((?_ : ∀ (v : Option Value) (h' : s_H), (fun (z : Int32) (v : Option Value) (h' : s_H) => v = some (.int z) ∧ h' = s_hg g) z v h' → s_Fin 1 s_m64 (0, s_ent [.ref 17, .int x1, .int x2] (s_m64).2.2.1, [], s_hg g) v h') _ _ ⟨rfl, rfl⟩)
  intro v h' hr
  refine (show s_Fin 1 s_m64 (0, [some (.ref 17), some (.int x1), some (.int x2)], [], s_hg g) v h' from ?_)
  refine s_Fin.sg 3 (y := (3, [some (.ref 17), some (.int x1), some (.int x2)], [.int x1, .int x2, .ref 17], s_hg g)) rfl ?_
  obtain ⟨v1, hp, hB⟩ := s_bd hB
  refine s_Fin.cl (d := 0) (q1 := s_m50) (md := 50) (vs := [.ref 17, .int x2, .int x1]) (rest := []) (h1 := s_hg g) (u := some (.int v1)) (s_Ev.up (by omega) (fT_onBoy_17_s hp)) rfl rfl rfl rfl ?_
  by_cases hc : v1 = 0
  · rw [if_pos hc] at hB
    refine s_Fin.bf (c := ¬ v1 = 0) (tg := 11) (p2 := 6) (L1 := [some (.ref 17), some (.int x1), some (.int x2)]) (st1 := []) (fun h => h hc) rfl ?_
    refine s_Fin.sg 1 (y := (10, [some (.ref 17), some (.int x1), some (.int x2)], [.int (1 : Int32)], s_hg g)) rfl ?_
    have hB := Option.some.inj hB
    subst hB
    obtain ⟨rfl, rfl⟩ := hr
    exact s_Fin.rt rfl rfl
  · rw [if_neg hc] at hB
    refine s_Fin.bt (c := ¬ v1 = 0) (tg := 11) (p2 := 6) (L1 := [some (.ref 17), some (.int x1), some (.int x2)]) (st1 := []) hc rfl ?_
    refine s_Fin.sg 1 (y := (12, [some (.ref 17), some (.int x1), some (.int x2)], [.ref 17], s_hg g)) rfl ?_
    obtain ⟨v2, hp, hB⟩ := s_bd hB
    refine s_Fin.cl (d := 0) (q1 := s_m57) (md := 57) (vs := [.ref 17]) (rest := []) (h1 := s_hg g) (u := some (.int v2)) (s_Ev.up (by omega) (fT_isWet_17_s hp)) rfl rfl rfl rfl ?_
    by_cases hc : v2 = 0
    · rw [if_pos hc] at hB
      refine s_Fin.bt (c := v2 = 0) (tg := 20) (p2 := 15) (L1 := [some (.ref 17), some (.int x1), some (.int x2)]) (st1 := []) hc rfl ?_
      refine s_Fin.sg 2 (y := (24, [some (.ref 17), some (.int x1), some (.int x2)], [.int (g.1 17 6)], s_hg g)) rfl ?_
      by_cases hc : (g.1 17 6) = 0
      · rw [if_pos hc] at hB
        refine s_Fin.bf (c := ¬ (g.1 17 6) = 0) (tg := 29) (p2 := 24) (L1 := [some (.ref 17), some (.int x1), some (.int x2)]) (st1 := []) (fun h => h hc) rfl ?_
        refine s_Fin.sg 1 (y := (28, [some (.ref 17), some (.int x1), some (.int x2)], [.int (3 : Int32)], s_hg g)) rfl ?_
        have hB := Option.some.inj hB
        subst hB
        obtain ⟨rfl, rfl⟩ := hr
        exact s_Fin.rt rfl rfl
      · rw [if_neg hc] at hB
        refine s_Fin.bt (c := ¬ (g.1 17 6) = 0) (tg := 29) (p2 := 24) (L1 := [some (.ref 17), some (.int x1), some (.int x2)]) (st1 := []) hc rfl ?_
        refine s_Fin.sg 2 (y := (31, [some (.ref 17), some (.int x1), some (.int x2)], [.int x1, .ref 17], s_hg g)) rfl ?_
        obtain ⟨v3, hp, hB⟩ := s_bd hB
        refine s_Fin.cl (d := 0) (q1 := s_m65) (md := 65) (vs := [.ref 17, .int x1]) (rest := []) (h1 := s_hg g) (u := some (.int v3)) (s_Ev.up (by omega) (fT_isHushed_17_s hp)) rfl rfl rfl rfl ?_
        by_cases hc : v3 = 0
        · rw [if_pos hc] at hB
          refine s_Fin.bt (c := v3 = 0) (tg := 41) (p2 := 34) (L1 := [some (.ref 17), some (.int x1), some (.int x2)]) (st1 := []) hc rfl ?_
          refine s_Fin.sg 1 (y := (42, [some (.ref 17), some (.int x1), some (.int x2)], [.int (0 : Int32)], s_hg g)) rfl ?_
          have hB := Option.some.inj hB
          subst hB
          obtain ⟨rfl, rfl⟩ := hr
          exact s_Fin.rt rfl rfl
        · rw [if_neg hc] at hB
          refine s_Fin.bf (c := v3 = 0) (tg := 41) (p2 := 34) (L1 := [some (.ref 17), some (.int x1), some (.int x2)]) (st1 := []) hc rfl ?_
          refine s_Fin.sg 2 (y := (42, [some (.ref 17), some (.int x1), some (.int x2)], [.int (4 : Int32)], s_hg g)) rfl ?_
          have hB := Option.some.inj hB
          subst hB
          obtain ⟨rfl, rfl⟩ := hr
          exact s_Fin.rt rfl rfl
    · rw [if_neg hc] at hB
      refine s_Fin.bf (c := v2 = 0) (tg := 20) (p2 := 15) (L1 := [some (.ref 17), some (.int x1), some (.int x2)]) (st1 := []) hc rfl ?_
      refine s_Fin.sg 1 (y := (19, [some (.ref 17), some (.int x1), some (.int x2)], [.int (2 : Int32)], s_hg g)) rfl ?_
      have hB := Option.some.inj hB
      subst hB
      obtain ⟨rfl, rfl⟩ := hr
      exact s_Fin.rt rfl rfl
-- CampAshes$Advice.findTellers
noncomputable def fA_findTellers_122_3_17_5 (x3 : Int32) (x4 : Int32) (g : s_G) : Option ((Int32 × Int32 × s_G) ⊕ (Int32 × s_G)) :=
  if x4 < (g.1 3 0) then (s_b1 (fT_heaviest_17 x4 g) fun v1 => s_b1 (s_ix 7 x4) fun k3 => if v1 = (-1 : Int32) then (some (.inl (x3, x4 + (1 : Int32), (s_si g 125 k3 v1))))
  else s_b1 (fT_whyNotSpeak_17 x4 v1 (s_si g 125 k3 v1)) fun v4 => if v4 = 0 then (some (.inl (x3 ||| ((1 : Int32) <<< (x4 &&& 31)), x4 + (1 : Int32), (s_si g 125 k3 v1))))
  else some (.inl (x3, x4 + (1 : Int32), (s_si g 125 k3 v1))))
  else s_in (some (x3, g))
theorem fA_findTellers_122_3_17_5_s {x3 : Int32} {x4 : Int32} {g : s_G} {z : (Int32 × Int32 × s_G) ⊕ (Int32 × s_G)} (hB : fA_findTellers_122_3_17_5 x3 x4 g = some z) {v : Option Value} {h' : s_H} (hr : (s_sm (fun (x : Int32 × Int32 × s_G) (v : Option Value) (h' : s_H) => s_Fin 2 s_m86 (5, [some (.ref 122), some (.ref 3), some (.ref 17), some (.int x.1), some (.int x.2.1), none], [], s_hg x.2.2) v h') (fun (z : Int32 × s_G) (v : Option Value) (h' : s_H) => v = some (.int z.1) ∧ h' = s_hg z.2)) z v h') : s_Fin 2 s_m86 (5, [some (.ref 122), some (.ref 3), some (.ref 17), some (.int x3), some (.int x4), none], [], s_hg g) v h' := by
  unfold fA_findTellers_122_3_17_5 at hB
  refine s_Fin.sg 3 (y := (11, [some (.ref 122), some (.ref 3), some (.ref 17), some (.int x3), some (.int x4), none], [.int (g.1 3 0), .int x4], s_hg g)) rfl ?_
  by_cases hc : x4 < (g.1 3 0)
  · rw [if_pos hc] at hB
    refine s_Fin.bf (c := (g.1 3 0) ≤ x4) (tg := 61) (p2 := 11) (L1 := [some (.ref 122), some (.ref 3), some (.ref 17), some (.int x3), some (.int x4), none]) (st1 := []) (Int32.not_le.mpr hc) rfl ?_
    refine s_Fin.sg 2 (y := (17, [some (.ref 122), some (.ref 3), some (.ref 17), some (.int x3), some (.int x4), none], [.int x4, .ref 17], s_hg g)) rfl ?_
    obtain ⟨v1, hp, hB⟩ := s_bd hB
    refine s_Fin.cl (d := 1) (q1 := s_m87) (md := 87) (vs := [.ref 17, .int x4]) (rest := []) (h1 := s_hg g) (u := some (.int v1)) (s_Ev.up (by omega) (fT_heaviest_17_s hp)) rfl rfl rfl rfl ?_
    refine s_Fin.sg 5 (y := (30, [some (.ref 122), some (.ref 3), some (.ref 17), some (.int x3), some (.int x4), some (.int v1)], [.int v1, .int x4, .ref 125], s_hg g)) rfl ?_
    obtain ⟨k3, hk3, hB⟩ := s_bd hB
    refine s_Fin.ix (n := 7) (i := x4) (pc1 := 31) (L1 := [some (.ref 122), some (.ref 3), some (.ref 17), some (.int x3), some (.int x4), some (.int v1)]) (fun j2 => []) (fun j2 => s_hg (s_si g 125 j2 v1)) hk3 rfl rfl ?_
    refine s_Fin.sg 2 (y := (34, [some (.ref 122), some (.ref 3), some (.ref 17), some (.int x3), some (.int x4), some (.int v1)], [.int (-1 : Int32), .int v1], s_hg (s_si g 125 k3 v1))) rfl ?_
    by_cases hc : v1 = (-1 : Int32)
    · rw [if_pos hc] at hB
      refine s_Fin.bt (c := v1 = (-1 : Int32)) (tg := 55) (p2 := 34) (L1 := [some (.ref 122), some (.ref 3), some (.ref 17), some (.int x3), some (.int x4), some (.int v1)]) (st1 := []) hc rfl ?_
      refine s_Fin.sg 2 (y := (5, [some (.ref 122), some (.ref 3), some (.ref 17), some (.int x3), some (.int (x4 + (1 : Int32))), some (.int v1)], [], s_hg (s_si g 125 k3 v1))) rfl ?_
      have hB := Option.some.inj hB
      subst hB
      exact s_Fin.more (L := [some (.ref 122), some (.ref 3), some (.ref 17), some (.int x3), some (.int (x4 + (1 : Int32))), none]) ⟨Or.inr rfl, Or.inr rfl, Or.inr rfl, Or.inr rfl, Or.inr rfl, Or.inl rfl, trivial⟩ hr
    · rw [if_neg hc] at hB
      refine s_Fin.bf (c := v1 = (-1 : Int32)) (tg := 55) (p2 := 34) (L1 := [some (.ref 122), some (.ref 3), some (.ref 17), some (.int x3), some (.int x4), some (.int v1)]) (st1 := []) hc rfl ?_
      refine s_Fin.sg 3 (y := (42, [some (.ref 122), some (.ref 3), some (.ref 17), some (.int x3), some (.int x4), some (.int v1)], [.int v1, .int x4, .ref 17], s_hg (s_si g 125 k3 v1))) rfl ?_
      obtain ⟨v4, hp, hB⟩ := s_bd hB
      refine s_Fin.cl (d := 1) (q1 := s_m64) (md := 64) (vs := [.ref 17, .int x4, .int v1]) (rest := []) (h1 := s_hg (s_si g 125 k3 v1)) (u := some (.int v4)) (s_Ev.up (by omega) (fT_whyNotSpeak_17_s hp)) rfl rfl rfl rfl ?_
      by_cases hc : v4 = 0
      · rw [if_pos hc] at hB
        refine s_Fin.bf (c := ¬ v4 = 0) (tg := 55) (p2 := 45) (L1 := [some (.ref 122), some (.ref 3), some (.ref 17), some (.int x3), some (.int x4), some (.int v1)]) (st1 := []) (fun h => h hc) rfl ?_
        refine s_Fin.sg 8 (y := (5, [some (.ref 122), some (.ref 3), some (.ref 17), some (.int (x3 ||| ((1 : Int32) <<< (x4 &&& 31)))), some (.int (x4 + (1 : Int32))), some (.int v1)], [], s_hg (s_si g 125 k3 v1))) rfl ?_
        have hB := Option.some.inj hB
        subst hB
        exact s_Fin.more (L := [some (.ref 122), some (.ref 3), some (.ref 17), some (.int (x3 ||| ((1 : Int32) <<< (x4 &&& 31)))), some (.int (x4 + (1 : Int32))), none]) ⟨Or.inr rfl, Or.inr rfl, Or.inr rfl, Or.inr rfl, Or.inr rfl, Or.inl rfl, trivial⟩ hr
      · rw [if_neg hc] at hB
        refine s_Fin.bt (c := ¬ v4 = 0) (tg := 55) (p2 := 45) (L1 := [some (.ref 122), some (.ref 3), some (.ref 17), some (.int x3), some (.int x4), some (.int v1)]) (st1 := []) hc rfl ?_
        refine s_Fin.sg 2 (y := (5, [some (.ref 122), some (.ref 3), some (.ref 17), some (.int x3), some (.int (x4 + (1 : Int32))), some (.int v1)], [], s_hg (s_si g 125 k3 v1))) rfl ?_
        have hB := Option.some.inj hB
        subst hB
        exact s_Fin.more (L := [some (.ref 122), some (.ref 3), some (.ref 17), some (.int x3), some (.int (x4 + (1 : Int32))), none]) ⟨Or.inr rfl, Or.inr rfl, Or.inr rfl, Or.inr rfl, Or.inr rfl, Or.inl rfl, trivial⟩ hr
  · rw [if_neg hc] at hB
    refine s_Fin.bt (c := (g.1 3 0) ≤ x4) (tg := 61) (p2 := 11) (L1 := [some (.ref 122), some (.ref 3), some (.ref 17), some (.int x3), some (.int x4), none]) (st1 := []) (Int32.not_lt.mp hc) rfl ?_
    obtain ⟨_, hN, hz⟩ := s_in_of hB
    subst hz
    have hB := hN
    refine s_Fin.sg 1 (y := (62, [some (.ref 122), some (.ref 3), some (.ref 17), some (.int x3), some (.int x4), none], [.int x3], s_hg g)) rfl ?_
    have hB := Option.some.inj hB
    subst hB
    obtain ⟨rfl, rfl⟩ := hr
    exact s_Fin.rt rfl rfl
noncomputable def fA_findTellers_122_3_17 (g : s_G) : Option (Int32 × s_G) :=
  s_lp (fun x => fA_findTellers_122_3_17_5 x.1 x.2.1 x.2.2) ((0 : Int32), (0 : Int32), g)
theorem fA_findTellers_122_3_17_s {g : s_G} {z : Int32 × s_G} (hB : fA_findTellers_122_3_17 g = some z) : s_Ev 2 s_m86 [.ref 122, .ref 3, .ref 17] (s_hg g) (some (.int z.1)) (s_hg z.2) := by
  unfold fA_findTellers_122_3_17 at hB
  refine s_Ev.fin ((?_ : ∀ (v : Option Value) (h' : s_H), (fun (z : Int32 × s_G) (v : Option Value) (h' : s_H) => v = some (.int z.1) ∧ h' = s_hg z.2) z v h' → s_Fin 2 s_m86 (0, s_ent [.ref 122, .ref 3, .ref 17] (s_m86).2.2.1, [], s_hg g) v h') _ _ ⟨rfl, rfl⟩)
  intro v h' hr
  refine (show s_Fin 2 s_m86 (0, [some (.ref 122), some (.ref 3), some (.ref 17), none, none, none], [], s_hg g) v h' from ?_)
  refine s_Fin.sg 4 (y := (5, [some (.ref 122), some (.ref 3), some (.ref 17), some (.int (0 : Int32)), some (.int (0 : Int32)), none], [], s_hg g)) rfl ?_
  exact s_Fin.more (L := [some (.ref 122), some (.ref 3), some (.ref 17), some (.int (0 : Int32)), some (.int (0 : Int32)), none]) ⟨Or.inr rfl, Or.inr rfl, Or.inr rfl, Or.inr rfl, Or.inr rfl, Or.inl rfl, trivial⟩ (s_lp_s (P := (fun (x : Int32 × Int32 × s_G) (v : Option Value) (h' : s_H) => s_Fin 2 s_m86 (5, [some (.ref 122), some (.ref 3), some (.ref 17), some (.int x.1), some (.int x.2.1), none], [], s_hg x.2.2) v h')) (Q := (fun (z : Int32 × s_G) (v : Option Value) (h' : s_H) => v = some (.int z.1) ∧ h' = s_hg z.2)) (fun x z hB v h' hr => fA_findTellers_122_3_17_5_s hB hr) hB _ _ hr)
-- java/lang/Integer.bitCount
noncomputable def fJ_bitCount_s (x0 : Int32) (g : s_G) : Option (Int32) :=
  s_b1 (some (x0 - (((x0.toUInt32 >>> ((1 : Int32).toUInt32 &&& Int32.toUInt32 31)).toInt32) &&& (1431655765 : Int32)))) fun v1 => s_b1 (some ((v1 &&& (858993459 : Int32)) + (((v1.toUInt32 >>> ((2 : Int32).toUInt32 &&& Int32.toUInt32 31)).toInt32) &&& (858993459 : Int32)))) fun v2 => s_b1 (some ((v2 + ((v2.toUInt32 >>> ((4 : Int32).toUInt32 &&& Int32.toUInt32 31)).toInt32)) &&& (252645135 : Int32))) fun v3 => s_b1 (some (v3 + ((v3.toUInt32 >>> ((8 : Int32).toUInt32 &&& Int32.toUInt32 31)).toInt32))) fun v4 => s_b1 (some (v4 + ((v4.toUInt32 >>> ((16 : Int32).toUInt32 &&& Int32.toUInt32 31)).toInt32))) fun v5 => some (v5 &&& (63 : Int32))
theorem fJ_bitCount_s_s {x0 : Int32} {g : s_G} {z : Int32} (hB : fJ_bitCount_s x0 g = some z) : s_Ev 0 s_m89 [.int x0] (s_hg g) (some (.int z)) (s_hg g) := by
  unfold fJ_bitCount_s at hB
  refine s_Ev.fin ((?_ : ∀ (v : Option Value) (h' : s_H), (fun (z : Int32) (v : Option Value) (h' : s_H) => v = some (.int z) ∧ h' = s_hg g) z v h' → s_Fin 0 s_m89 (0, s_ent [.int x0] (s_m89).2.2.1, [], s_hg g) v h') _ _ ⟨rfl, rfl⟩)
  intro v h' hr
  refine (show s_Fin 0 s_m89 (0, [some (.int x0)], [], s_hg g) v h' from ?_)
  refine s_Fin.sg 7 (y := (9, [some (.int x0)], [.int (x0 - (((x0.toUInt32 >>> ((1 : Int32).toUInt32 &&& Int32.toUInt32 31)).toInt32) &&& (1431655765 : Int32)))], s_hg g)) rfl ?_
  obtain ⟨v1, hx, hB⟩ := s_bd hB
  have hx := Option.some.inj hx
  rw [hx]
  refine s_Fin.sg 10 (y := (23, [some (.int v1)], [.int ((v1 &&& (858993459 : Int32)) + (((v1.toUInt32 >>> ((2 : Int32).toUInt32 &&& Int32.toUInt32 31)).toInt32) &&& (858993459 : Int32)))], s_hg g)) rfl ?_
  obtain ⟨v2, hx, hB⟩ := s_bd hB
  have hx := Option.some.inj hx
  rw [hx]
  refine s_Fin.sg 8 (y := (33, [some (.int v2)], [.int ((v2 + ((v2.toUInt32 >>> ((4 : Int32).toUInt32 &&& Int32.toUInt32 31)).toInt32)) &&& (252645135 : Int32))], s_hg g)) rfl ?_
  obtain ⟨v3, hx, hB⟩ := s_bd hB
  have hx := Option.some.inj hx
  rw [hx]
  refine s_Fin.sg 6 (y := (40, [some (.int v3)], [.int (v3 + ((v3.toUInt32 >>> ((8 : Int32).toUInt32 &&& Int32.toUInt32 31)).toInt32))], s_hg g)) rfl ?_
  obtain ⟨v4, hx, hB⟩ := s_bd hB
  have hx := Option.some.inj hx
  rw [hx]
  refine s_Fin.sg 6 (y := (47, [some (.int v4)], [.int (v4 + ((v4.toUInt32 >>> ((16 : Int32).toUInt32 &&& Int32.toUInt32 31)).toInt32))], s_hg g)) rfl ?_
  obtain ⟨v5, hx, hB⟩ := s_bd hB
  have hx := Option.some.inj hx
  rw [hx]
  refine s_Fin.sg 4 (y := (52, [some (.int v5)], [.int (v5 &&& (63 : Int32))], s_hg g)) rfl ?_
  have hB := Option.some.inj hB
  subst hB
  obtain ⟨rfl, rfl⟩ := hr
  exact s_Fin.rt rfl rfl
-- CampAshes$Advice.takenBy
noncomputable def fA_takenBy_122_3_17 (x3 : Int32) (x4 : Int32) (g : s_G) : Option (Int32) :=
  s_b1 (s_ix 7 x3) fun k2 => s_b1 (fJ_bitCount_s x4 g) fun v3 => if (g.1 125 k2) = (-1 : Int32) then (some (0 : Int32))
  else if 0 < ((g.1 17 6) - v3) then (s_b1 (fT_onBoy_17 (g.1 125 k2) x3 g) fun v4 => s_b1 (s_ix 10 (g.1 125 k2)) fun k6 => s_b1 (s_ix 4 (g.1 7 k6)) fun k8 => some (if ((g.1 9 k8) + (((g.1 17 6) - v3) / (5 : Int32))) < v4 then ((g.1 9 k8) + (((g.1 17 6) - v3) / (5 : Int32))) else v4))
  else some (0 : Int32)
theorem fA_takenBy_122_3_17_s {x3 : Int32} {x4 : Int32} {g : s_G} {z : Int32} (hB : fA_takenBy_122_3_17 x3 x4 g = some z) : s_Ev 1 s_m88 [.ref 122, .ref 3, .ref 17, .int x3, .int x4] (s_hg g) (some (.int z)) (s_hg g) := by
  unfold fA_takenBy_122_3_17 at hB
  refine s_Ev.fin ((?_ : ∀ (v : Option Value) (h' : s_H), (fun (z : Int32) (v : Option Value) (h' : s_H) => v = some (.int z) ∧ h' = s_hg g) z v h' → s_Fin 1 s_m88 (0, s_ent [.ref 122, .ref 3, .ref 17, .int x3, .int x4] (s_m88).2.2.1, [], s_hg g) v h') _ _ ⟨rfl, rfl⟩)
  intro v h' hr
  refine (show s_Fin 1 s_m88 (0, [some (.ref 122), some (.ref 3), some (.ref 17), some (.int x3), some (.int x4), none, none], [], s_hg g) v h' from ?_)
  refine s_Fin.sg 3 (y := (5, [some (.ref 122), some (.ref 3), some (.ref 17), some (.int x3), some (.int x4), none, none], [.int x3, .ref 125], s_hg g)) rfl ?_
  obtain ⟨k2, hk2, hB⟩ := s_bd hB
  refine s_Fin.ix (n := 7) (i := x3) (pc1 := 6) (L1 := [some (.ref 122), some (.ref 3), some (.ref 17), some (.int x3), some (.int x4), none, none]) (fun j1 => [.int (g.1 125 j1)]) (fun j1 => s_hg g) hk2 rfl rfl ?_
  refine s_Fin.sg 4 (y := (14, [some (.ref 122), some (.ref 3), some (.ref 17), some (.int x3), some (.int x4), some (.int (g.1 125 k2)), none], [.int x4, .int (g.1 17 6)], s_hg g)) rfl ?_
  obtain ⟨v3, hp, hB⟩ := s_bd hB
  refine s_Fin.cl (d := 0) (q1 := s_m89) (md := 89) (vs := [.int x4]) (rest := [.int (g.1 17 6)]) (h1 := s_hg g) (u := some (.int v3)) (s_Ev.up (by omega) (fJ_bitCount_s_s hp)) rfl rfl rfl rfl ?_
  refine s_Fin.sg 4 (y := (23, [some (.ref 122), some (.ref 3), some (.ref 17), some (.int x3), some (.int x4), some (.int (g.1 125 k2)), some (.int ((g.1 17 6) - v3))], [.int (-1 : Int32), .int (g.1 125 k2)], s_hg g)) rfl ?_
  by_cases hc : (g.1 125 k2) = (-1 : Int32)
  · rw [if_pos hc] at hB
    refine s_Fin.bt (c := (g.1 125 k2) = (-1 : Int32)) (tg := 31) (p2 := 23) (L1 := [some (.ref 122), some (.ref 3), some (.ref 17), some (.int x3), some (.int x4), some (.int (g.1 125 k2)), some (.int ((g.1 17 6) - v3))]) (st1 := []) hc rfl ?_
    refine s_Fin.sg 1 (y := (32, [some (.ref 122), some (.ref 3), some (.ref 17), some (.int x3), some (.int x4), some (.int (g.1 125 k2)), some (.int ((g.1 17 6) - v3))], [.int (0 : Int32)], s_hg g)) rfl ?_
    have hB := Option.some.inj hB
    subst hB
    obtain ⟨rfl, rfl⟩ := hr
    exact s_Fin.rt rfl rfl
  · rw [if_neg hc] at hB
    refine s_Fin.bf (c := (g.1 125 k2) = (-1 : Int32)) (tg := 31) (p2 := 23) (L1 := [some (.ref 122), some (.ref 3), some (.ref 17), some (.int x3), some (.int x4), some (.int (g.1 125 k2)), some (.int ((g.1 17 6) - v3))]) (st1 := []) hc rfl ?_
    refine s_Fin.sg 1 (y := (28, [some (.ref 122), some (.ref 3), some (.ref 17), some (.int x3), some (.int x4), some (.int (g.1 125 k2)), some (.int ((g.1 17 6) - v3))], [.int ((g.1 17 6) - v3)], s_hg g)) rfl ?_
    by_cases hc : 0 < ((g.1 17 6) - v3)
    · rw [if_pos hc] at hB
      refine s_Fin.bt (c := 0 < ((g.1 17 6) - v3)) (tg := 33) (p2 := 28) (L1 := [some (.ref 122), some (.ref 3), some (.ref 17), some (.int x3), some (.int x4), some (.int (g.1 125 k2)), some (.int ((g.1 17 6) - v3))]) (st1 := []) hc rfl ?_
      refine s_Fin.sg 3 (y := (37, [some (.ref 122), some (.ref 3), some (.ref 17), some (.int x3), some (.int x4), some (.int (g.1 125 k2)), some (.int ((g.1 17 6) - v3))], [.int x3, .int (g.1 125 k2), .ref 17], s_hg g)) rfl ?_
      obtain ⟨v4, hp, hB⟩ := s_bd hB
      refine s_Fin.cl (d := 0) (q1 := s_m50) (md := 50) (vs := [.ref 17, .int (g.1 125 k2), .int x3]) (rest := []) (h1 := s_hg g) (u := some (.int v4)) (s_Ev.up (by omega) (fT_onBoy_17_s hp)) rfl rfl rfl rfl ?_
      refine s_Fin.sg 5 (y := (50, [some (.ref 122), some (.ref 3), some (.ref 17), some (.int x3), some (.int x4), some (.int (g.1 125 k2)), some (.int ((g.1 17 6) - v3))], [.int (g.1 125 k2), .ref 7, .ref 9, .int v4], s_hg g)) rfl ?_
      obtain ⟨k6, hk6, hB⟩ := s_bd hB
      refine s_Fin.ix (n := 10) (i := g.1 125 k2) (pc1 := 51) (L1 := [some (.ref 122), some (.ref 3), some (.ref 17), some (.int x3), some (.int x4), some (.int (g.1 125 k2)), some (.int ((g.1 17 6) - v3))]) (fun j5 => [.int (g.1 7 j5), .ref 9, .int v4]) (fun j5 => s_hg g) hk6 rfl rfl ?_
      obtain ⟨k8, hk8, hB⟩ := s_bd hB
      refine s_Fin.ix (n := 4) (i := g.1 7 k6) (pc1 := 52) (L1 := [some (.ref 122), some (.ref 3), some (.ref 17), some (.int x3), some (.int x4), some (.int (g.1 125 k2)), some (.int ((g.1 17 6) - v3))]) (fun j7 => [.int (g.1 9 j7), .int v4]) (fun j7 => s_hg g) hk8 rfl rfl ?_
      refine s_Fin.sg 5 (y := (60, [some (.ref 122), some (.ref 3), some (.ref 17), some (.int x3), some (.int x4), some (.int (g.1 125 k2)), some (.int ((g.1 17 6) - v3))], [.int (if ((g.1 9 k8) + (((g.1 17 6) - v3) / (5 : Int32))) < v4 then ((g.1 9 k8) + (((g.1 17 6) - v3) / (5 : Int32))) else v4)], s_hg g)) rfl ?_
      have hB := Option.some.inj hB
      subst hB
      obtain ⟨rfl, rfl⟩ := hr
      exact s_Fin.rt rfl rfl
    · rw [if_neg hc] at hB
      refine s_Fin.bf (c := 0 < ((g.1 17 6) - v3)) (tg := 33) (p2 := 28) (L1 := [some (.ref 122), some (.ref 3), some (.ref 17), some (.int x3), some (.int x4), some (.int (g.1 125 k2)), some (.int ((g.1 17 6) - v3))]) (st1 := []) hc rfl ?_
      refine s_Fin.sg 1 (y := (32, [some (.ref 122), some (.ref 3), some (.ref 17), some (.int x3), some (.int x4), some (.int (g.1 125 k2)), some (.int ((g.1 17 6) - v3))], [.int (0 : Int32)], s_hg g)) rfl ?_
      have hB := Option.some.inj hB
      subst hB
      obtain ⟨rfl, rfl⟩ := hr
      exact s_Fin.rt rfl rfl
