-- CampAshes$Book.readDeed
noncomputable def fB_readDeed_37_1_3_98 (g : s_G) : Option (Int32 × s_G) :=
  s_b1 (fQ_next_1 g) fun g13 => s_b1 (fP_eventNamed_3 (g13.2.1 1 8) g13) fun v14 => s_b2 (fQ_passNamed_1 v14 g13) fun v16 g15 => s_b1 (s_ix 40 (g13.1 37 5)) fun k18 => s_b1 (s_ix 40 (g15.1 37 5)) fun k20 => if ((s_si g15 40 k18 v16).1 40 k20) = (-1 : Int32) then (some ((0 : Int32), (s_si g15 40 k18 v16)))
  else if (g15.1 38 k20) = (20 : Int32) then (s_b2 (fB_readGift_37_1_3 (s_si g15 40 k18 v16)) fun v23 g22 => if v23 = 0 then (some ((0 : Int32), g22))
  else some ((1 : Int32), g22))
  else some ((1 : Int32), (s_si g15 40 k18 v16))
theorem fB_readDeed_37_1_3_98_s {g : s_G} {z : Int32 × s_G} (hB : fB_readDeed_37_1_3_98 g = some z) {v : Option Value} {h' : s_H} (hr : (fun (z : Int32 × s_G) (v : Option Value) (h' : s_H) => v = some (.int z.1) ∧ h' = s_hg z.2) z v h') : s_Fin 4 s_m129 (98, [some (.ref 37), some (.ref 1), some (.ref 3)], [], s_hg g) v h' := by
  unfold fB_readDeed_37_1_3_98 at hB
  refine s_Fin.sg 1 (y := (99, [some (.ref 37), some (.ref 1), some (.ref 3)], [.ref 1], s_hg g)) rfl ?_
  obtain ⟨g13, hp, hB⟩ := s_bd hB
  refine s_Fin.cl (d := 3) (q1 := s_m20) (md := 20) (vs := [.ref 1]) (rest := []) (h1 := s_hg g13) (u := none) (s_Ev.up (by omega) (fQ_next_1_s hp)) rfl rfl rfl rfl ?_
  refine s_Fin.sg 8 (y := (116, [some (.ref 37), some (.ref 1), some (.ref 3)], [.long (g13.2.1 1 8), .ref 3, .ref 1, .int (g13.1 37 5), .ref 40], s_hg g13)) rfl ?_
  obtain ⟨v14, hp, hB⟩ := s_bd hB
  refine s_Fin.cl (d := 3) (q1 := s_m33) (md := 33) (vs := [.ref 3, .long (g13.2.1 1 8)]) (rest := [.ref 1, .int (g13.1 37 5), .ref 40]) (h1 := s_hg g13) (u := some (.int v14)) (s_Ev.up (by omega) (fP_eventNamed_3_s hp)) rfl rfl rfl rfl ?_
  obtain ⟨v16, g15, hp, hB⟩ := s_bd2 hB
  refine s_Fin.cl (d := 3) (q1 := s_m36) (md := 36) (vs := [.ref 1, .int v14]) (rest := [.int (g13.1 37 5), .ref 40]) (h1 := s_hg g15) (u := some (.int v16)) (s_Ev.up (by omega) (fQ_passNamed_1_s hp)) rfl rfl rfl rfl ?_
  obtain ⟨k18, hk18, hB⟩ := s_bd hB
  refine s_Fin.ix (n := 40) (i := g13.1 37 5) (pc1 := 123) (L1 := [some (.ref 37), some (.ref 1), some (.ref 3)]) (fun j17 => []) (fun j17 => s_hg (s_si g15 40 j17 v16)) hk18 rfl rfl ?_
  refine s_Fin.sg 4 (y := (131, [some (.ref 37), some (.ref 1), some (.ref 3)], [.int (g15.1 37 5), .ref 40], s_hg (s_si g15 40 k18 v16))) rfl ?_
  obtain ⟨k20, hk20, hB⟩ := s_bd hB
  refine s_Fin.ix (n := 40) (i := g15.1 37 5) (pc1 := 132) (L1 := [some (.ref 37), some (.ref 1), some (.ref 3)]) (fun j19 => [.int ((s_si g15 40 k18 v16).1 40 j19)]) (fun j19 => s_hg (s_si g15 40 k18 v16)) hk20 rfl rfl ?_
  refine s_Fin.sg 1 (y := (133, [some (.ref 37), some (.ref 1), some (.ref 3)], [.int (-1 : Int32), .int ((s_si g15 40 k18 v16).1 40 k20)], s_hg (s_si g15 40 k18 v16))) rfl ?_
  by_cases hc : ((s_si g15 40 k18 v16).1 40 k20) = (-1 : Int32)
  · rw [if_pos hc] at hB
    refine s_Fin.bf (c := ¬ ((s_si g15 40 k18 v16).1 40 k20) = (-1 : Int32)) (tg := 138) (p2 := 133) (L1 := [some (.ref 37), some (.ref 1), some (.ref 3)]) (st1 := []) (fun h => h hc) rfl ?_
    refine s_Fin.sg 1 (y := (137, [some (.ref 37), some (.ref 1), some (.ref 3)], [.int (0 : Int32)], s_hg (s_si g15 40 k18 v16))) rfl ?_
    have hB := Option.some.inj hB
    subst hB
    obtain ⟨rfl, rfl⟩ := hr
    exact s_Fin.rt rfl rfl
  · rw [if_neg hc] at hB
    refine s_Fin.bt (c := ¬ ((s_si g15 40 k18 v16).1 40 k20) = (-1 : Int32)) (tg := 138) (p2 := 133) (L1 := [some (.ref 37), some (.ref 1), some (.ref 3)]) (st1 := []) hc rfl ?_
    refine s_Fin.sg 4 (y := (146, [some (.ref 37), some (.ref 1), some (.ref 3)], [.int (g15.1 37 5), .ref 38], s_hg (s_si g15 40 k18 v16))) rfl ?_
    refine s_Fin.ix (n := 40) (i := g15.1 37 5) (pc1 := 147) (L1 := [some (.ref 37), some (.ref 1), some (.ref 3)]) (fun j21 => [.int (g15.1 38 j21)]) (fun j21 => s_hg (s_si g15 40 k18 v16)) hk20 rfl rfl ?_
    refine s_Fin.sg 1 (y := (149, [some (.ref 37), some (.ref 1), some (.ref 3)], [.int (20 : Int32), .int (g15.1 38 k20)], s_hg (s_si g15 40 k18 v16))) rfl ?_
    by_cases hc : (g15.1 38 k20) = (20 : Int32)
    · rw [if_pos hc] at hB
      refine s_Fin.bf (c := ¬ (g15.1 38 k20) = (20 : Int32)) (tg := 161) (p2 := 149) (L1 := [some (.ref 37), some (.ref 1), some (.ref 3)]) (st1 := []) (fun h => h hc) rfl ?_
      refine s_Fin.sg 3 (y := (155, [some (.ref 37), some (.ref 1), some (.ref 3)], [.ref 3, .ref 1, .ref 37], s_hg (s_si g15 40 k18 v16))) rfl ?_
      obtain ⟨v23, g22, hp, hB⟩ := s_bd2 hB
      refine s_Fin.cl (d := 3) (q1 := s_m130) (md := 130) (vs := [.ref 37, .ref 1, .ref 3]) (rest := []) (h1 := s_hg g22) (u := some (.int v23)) (s_Ev.up (by omega) (fB_readGift_37_1_3_s hp)) rfl rfl rfl rfl ?_
      by_cases hc : v23 = 0
      · rw [if_pos hc] at hB
        refine s_Fin.bt (c := v23 = 0) (tg := 165) (p2 := 158) (L1 := [some (.ref 37), some (.ref 1), some (.ref 3)]) (st1 := []) hc rfl ?_
        refine s_Fin.sg 1 (y := (166, [some (.ref 37), some (.ref 1), some (.ref 3)], [.int (0 : Int32)], s_hg g22)) rfl ?_
        have hB := Option.some.inj hB
        subst hB
        obtain ⟨rfl, rfl⟩ := hr
        exact s_Fin.rt rfl rfl
      · rw [if_neg hc] at hB
        refine s_Fin.bf (c := v23 = 0) (tg := 165) (p2 := 158) (L1 := [some (.ref 37), some (.ref 1), some (.ref 3)]) (st1 := []) hc rfl ?_
        refine s_Fin.sg 2 (y := (166, [some (.ref 37), some (.ref 1), some (.ref 3)], [.int (1 : Int32)], s_hg g22)) rfl ?_
        have hB := Option.some.inj hB
        subst hB
        obtain ⟨rfl, rfl⟩ := hr
        exact s_Fin.rt rfl rfl
    · rw [if_neg hc] at hB
      refine s_Fin.bt (c := ¬ (g15.1 38 k20) = (20 : Int32)) (tg := 161) (p2 := 149) (L1 := [some (.ref 37), some (.ref 1), some (.ref 3)]) (st1 := []) hc rfl ?_
      refine s_Fin.sg 2 (y := (166, [some (.ref 37), some (.ref 1), some (.ref 3)], [.int (1 : Int32)], s_hg (s_si g15 40 k18 v16))) rfl ?_
      have hB := Option.some.inj hB
      subst hB
      obtain ⟨rfl, rfl⟩ := hr
      exact s_Fin.rt rfl rfl
noncomputable def fB_readDeed_37_1_3 (g : s_G) : Option (Int32 × s_G) :=
  s_b1 (fP_boyNamed_3 (g.2.1 1 8) g) fun v1 => s_b2 (fQ_passNamed_1 v1 g) fun v3 g2 => s_b1 (s_ix 40 (g.1 37 5)) fun k5 => s_b1 (fQ_isWord_1_1011 (s_si g2 39 k5 v3)) fun v6 => if v6 = 0 then (s_b1 (fQ_isWord_1_1012 (s_si g2 39 k5 v3)) fun v7 => if v7 = 0 then (s_b1 (fQ_isWord_1_1013 (s_si g2 39 k5 v3)) fun v8 => if v8 = 0 then (s_b2 (fQ_fail_1 (1 : Int32) (s_si g2 39 k5 v3)) fun v10 g9 => if v10 = 0 ∨ v10 = 1 then some (v10, g9)
  else none)
  else s_b1 (s_ix 40 (g2.1 37 5)) fun k12 => fB_readDeed_37_1_3_98 (s_si (s_si g2 39 k5 v3) 38 k12 (20 : Int32)))
  else s_b1 (s_ix 40 (g2.1 37 5)) fun k25 => fB_readDeed_37_1_3_98 (s_si (s_si g2 39 k5 v3) 38 k25 (10 : Int32)))
  else s_b1 (s_ix 40 (g2.1 37 5)) fun k27 => fB_readDeed_37_1_3_98 (s_si (s_si g2 39 k5 v3) 38 k27 (0 : Int32))
theorem fB_readDeed_37_1_3_s {g : s_G} {z : Int32 × s_G} (hB : fB_readDeed_37_1_3 g = some z) : s_Ev 4 s_m129 [.ref 37, .ref 1, .ref 3] (s_hg g) (some (.int z.1)) (s_hg z.2) := by
  unfold fB_readDeed_37_1_3 at hB
  refine s_Ev.fin ((?_ : ∀ (v : Option Value) (h' : s_H), (fun (z : Int32 × s_G) (v : Option Value) (h' : s_H) => v = some (.int z.1) ∧ h' = s_hg z.2) z v h' → s_Fin 4 s_m129 (0, s_ent [.ref 37, .ref 1, .ref 3] (s_m129).2.2.1, [], s_hg g) v h') _ _ ⟨rfl, rfl⟩)
  intro v h' hr
  refine (show s_Fin 4 s_m129 (0, [some (.ref 37), some (.ref 1), some (.ref 3)], [], s_hg g) v h' from ?_)
  refine s_Fin.sg 8 (y := (14, [some (.ref 37), some (.ref 1), some (.ref 3)], [.long (g.2.1 1 8), .ref 3, .ref 1, .int (g.1 37 5), .ref 39], s_hg g)) rfl ?_
  obtain ⟨v1, hp, hB⟩ := s_bd hB
  refine s_Fin.cl (d := 3) (q1 := s_m32) (md := 32) (vs := [.ref 3, .long (g.2.1 1 8)]) (rest := [.ref 1, .int (g.1 37 5), .ref 39]) (h1 := s_hg g) (u := some (.int v1)) (s_Ev.up (by omega) (fP_boyNamed_3_s hp)) rfl rfl rfl rfl ?_
  obtain ⟨v3, g2, hp, hB⟩ := s_bd2 hB
  refine s_Fin.cl (d := 3) (q1 := s_m36) (md := 36) (vs := [.ref 1, .int v1]) (rest := [.int (g.1 37 5), .ref 39]) (h1 := s_hg g2) (u := some (.int v3)) (s_Ev.up (by omega) (fQ_passNamed_1_s hp)) rfl rfl rfl rfl ?_
  obtain ⟨k5, hk5, hB⟩ := s_bd hB
  refine s_Fin.ix (n := 40) (i := g.1 37 5) (pc1 := 21) (L1 := [some (.ref 37), some (.ref 1), some (.ref 3)]) (fun j4 => []) (fun j4 => s_hg (s_si g2 39 j4 v3)) hk5 rfl rfl ?_
  refine s_Fin.sg 2 (y := (25, [some (.ref 37), some (.ref 1), some (.ref 3)], [.ref 1011, .ref 1], s_hg (s_si g2 39 k5 v3))) rfl ?_
  obtain ⟨v6, hp, hB⟩ := s_bd hB
  refine s_Fin.cl (d := 3) (q1 := s_m28) (md := 28) (vs := [.ref 1, .ref 1011]) (rest := []) (h1 := s_hg (s_si g2 39 k5 v3)) (u := some (.int v6)) (s_Ev.up (by omega) (fQ_isWord_1_1011_s hp)) rfl rfl rfl rfl ?_
  by_cases hc : v6 = 0
  · rw [if_pos hc] at hB
    refine s_Fin.bt (c := v6 = 0) (tg := 44) (p2 := 28) (L1 := [some (.ref 37), some (.ref 1), some (.ref 3)]) (st1 := []) hc rfl ?_
    refine s_Fin.sg 2 (y := (48, [some (.ref 37), some (.ref 1), some (.ref 3)], [.ref 1012, .ref 1], s_hg (s_si g2 39 k5 v3))) rfl ?_
    obtain ⟨v7, hp, hB⟩ := s_bd hB
    refine s_Fin.cl (d := 3) (q1 := s_m28) (md := 28) (vs := [.ref 1, .ref 1012]) (rest := []) (h1 := s_hg (s_si g2 39 k5 v3)) (u := some (.int v7)) (s_Ev.up (by omega) (fQ_isWord_1_1012_s hp)) rfl rfl rfl rfl ?_
    by_cases hc : v7 = 0
    · rw [if_pos hc] at hB
      refine s_Fin.bt (c := v7 = 0) (tg := 68) (p2 := 51) (L1 := [some (.ref 37), some (.ref 1), some (.ref 3)]) (st1 := []) hc rfl ?_
      refine s_Fin.sg 2 (y := (72, [some (.ref 37), some (.ref 1), some (.ref 3)], [.ref 1013, .ref 1], s_hg (s_si g2 39 k5 v3))) rfl ?_
      obtain ⟨v8, hp, hB⟩ := s_bd hB
      refine s_Fin.cl (d := 3) (q1 := s_m28) (md := 28) (vs := [.ref 1, .ref 1013]) (rest := []) (h1 := s_hg (s_si g2 39 k5 v3)) (u := some (.int v8)) (s_Ev.up (by omega) (fQ_isWord_1_1013_s hp)) rfl rfl rfl rfl ?_
      by_cases hc : v8 = 0
      · rw [if_pos hc] at hB
        refine s_Fin.bt (c := v8 = 0) (tg := 92) (p2 := 75) (L1 := [some (.ref 37), some (.ref 1), some (.ref 3)]) (st1 := []) hc rfl ?_
        refine s_Fin.sg 2 (y := (94, [some (.ref 37), some (.ref 1), some (.ref 3)], [.int (1 : Int32), .ref 1], s_hg (s_si g2 39 k5 v3))) rfl ?_
        obtain ⟨v10, g9, hp, hB⟩ := s_bd2 hB
        refine s_Fin.cl (d := 3) (q1 := s_m30) (md := 30) (vs := [.ref 1, .int (1 : Int32)]) (rest := []) (h1 := s_hg g9) (u := some (.int v10)) (s_Ev.up (by omega) (fQ_fail_1_s hp)) rfl rfl rfl rfl ?_
        have hc : v10 = 0 ∨ v10 = 1 := Classical.byContradiction fun h => (by rw [if_neg h] at hB; cases hB)
        rw [if_pos hc] at hB
        have hB := Option.some.inj hB
        subst hB
        obtain ⟨rfl, rfl⟩ := hr
        exact s_Fin.rt (by rcases hc with hc | hc <;> rw [hc] <;> exact rfl) rfl
      · rw [if_neg hc] at hB
        refine s_Fin.bf (c := v8 = 0) (tg := 92) (p2 := 75) (L1 := [some (.ref 37), some (.ref 1), some (.ref 3)]) (st1 := []) hc rfl ?_
        refine s_Fin.sg 5 (y := (88, [some (.ref 37), some (.ref 1), some (.ref 3)], [.int (20 : Int32), .int (g2.1 37 5), .ref 38], s_hg (s_si g2 39 k5 v3))) rfl ?_
        obtain ⟨k12, hk12, hB⟩ := s_bd hB
        refine s_Fin.ix (n := 40) (i := g2.1 37 5) (pc1 := 89) (L1 := [some (.ref 37), some (.ref 1), some (.ref 3)]) (fun j11 => []) (fun j11 => s_hg (s_si (s_si g2 39 k5 v3) 38 j11 (20 : Int32))) hk12 rfl rfl ?_
        refine s_Fin.sg 1 (y := (98, [some (.ref 37), some (.ref 1), some (.ref 3)], [], s_hg (s_si (s_si g2 39 k5 v3) 38 k12 (20 : Int32)))) rfl ?_
        exact s_Fin.more (L := [some (.ref 37), some (.ref 1), some (.ref 3)]) ⟨Or.inr rfl, Or.inr rfl, Or.inr rfl, trivial⟩ (fB_readDeed_37_1_3_98_s hB hr)
    · rw [if_neg hc] at hB
      refine s_Fin.bf (c := v7 = 0) (tg := 68) (p2 := 51) (L1 := [some (.ref 37), some (.ref 1), some (.ref 3)]) (st1 := []) hc rfl ?_
      refine s_Fin.sg 5 (y := (64, [some (.ref 37), some (.ref 1), some (.ref 3)], [.int (10 : Int32), .int (g2.1 37 5), .ref 38], s_hg (s_si g2 39 k5 v3))) rfl ?_
      obtain ⟨k25, hk25, hB⟩ := s_bd hB
      refine s_Fin.ix (n := 40) (i := g2.1 37 5) (pc1 := 65) (L1 := [some (.ref 37), some (.ref 1), some (.ref 3)]) (fun j24 => []) (fun j24 => s_hg (s_si (s_si g2 39 k5 v3) 38 j24 (10 : Int32))) hk25 rfl rfl ?_
      refine s_Fin.sg 1 (y := (98, [some (.ref 37), some (.ref 1), some (.ref 3)], [], s_hg (s_si (s_si g2 39 k5 v3) 38 k25 (10 : Int32)))) rfl ?_
      exact s_Fin.more (L := [some (.ref 37), some (.ref 1), some (.ref 3)]) ⟨Or.inr rfl, Or.inr rfl, Or.inr rfl, trivial⟩ (fB_readDeed_37_1_3_98_s hB hr)
  · rw [if_neg hc] at hB
    refine s_Fin.bf (c := v6 = 0) (tg := 44) (p2 := 28) (L1 := [some (.ref 37), some (.ref 1), some (.ref 3)]) (st1 := []) hc rfl ?_
    refine s_Fin.sg 5 (y := (40, [some (.ref 37), some (.ref 1), some (.ref 3)], [.int (0 : Int32), .int (g2.1 37 5), .ref 38], s_hg (s_si g2 39 k5 v3))) rfl ?_
    obtain ⟨k27, hk27, hB⟩ := s_bd hB
    refine s_Fin.ix (n := 40) (i := g2.1 37 5) (pc1 := 41) (L1 := [some (.ref 37), some (.ref 1), some (.ref 3)]) (fun j26 => []) (fun j26 => s_hg (s_si (s_si g2 39 k5 v3) 38 j26 (0 : Int32))) hk27 rfl rfl ?_
    refine s_Fin.sg 1 (y := (98, [some (.ref 37), some (.ref 1), some (.ref 3)], [], s_hg (s_si (s_si g2 39 k5 v3) 38 k27 (0 : Int32)))) rfl ?_
    exact s_Fin.more (L := [some (.ref 37), some (.ref 1), some (.ref 3)]) ⟨Or.inr rfl, Or.inr rfl, Or.inr rfl, trivial⟩ (fB_readDeed_37_1_3_98_s hB hr)
-- CampAshes$Book.readPlain
noncomputable def fB_readPlain_37_1 (g : s_G) : Option (Int32 × s_G) :=
  s_b1 (fQ_next_1 g) fun g1 => if s_okw (g.2.2 1 9) = true then (if (g.2.2 1 9) = some 1016 then (s_b1 (s_ix 40 (g1.1 37 5)) fun k3 => s_b2 (fQ_passNumber_1 (1 : Int32) (60 : Int32) (s_si g1 38 k3 (50 : Int32))) fun v5 g4 => s_b1 (s_ix 40 (g4.1 37 5)) fun k8 => if ((s_si g4 42 k3 v5).1 42 k8) = (-1 : Int32) then (some ((0 : Int32), (s_si g4 42 k3 v5)))
  else some ((1 : Int32), (s_si g4 42 k3 v5)))
  else if s_okw (g.2.2 1 9) = true then (if (g.2.2 1 9) = some 1014 then (s_b1 (s_ix 40 (g1.1 37 5)) fun k10 => some ((1 : Int32), (s_si g1 38 k10 (30 : Int32))))
  else s_b1 (s_ix 40 (g1.1 37 5)) fun k12 => some ((1 : Int32), (s_si g1 38 k12 (40 : Int32)))) else none) else none
theorem fB_readPlain_37_1_s {g : s_G} {z : Int32 × s_G} (hB : fB_readPlain_37_1 g = some z) : s_Ev 3 s_m128 [.ref 37, .ref 1] (s_hg g) (some (.int z.1)) (s_hg z.2) := by
  unfold fB_readPlain_37_1 at hB
  refine s_Ev.fin ((?_ : ∀ (v : Option Value) (h' : s_H), (fun (z : Int32 × s_G) (v : Option Value) (h' : s_H) => v = some (.int z.1) ∧ h' = s_hg z.2) z v h' → s_Fin 3 s_m128 (0, s_ent [.ref 37, .ref 1] (s_m128).2.2.1, [], s_hg g) v h') _ _ ⟨rfl, rfl⟩)
  intro v h' hr
  refine (show s_Fin 3 s_m128 (0, [some (.ref 37), some (.ref 1), none], [], s_hg g) v h' from ?_)
  refine s_Fin.sg 2 (y := (4, [some (.ref 37), some (.ref 1), none], [va_rf (g.2.2 1 9)], s_hg g)) rfl ?_
  refine s_Fin.nx (pc1 := 5) (L1 := [some (.ref 37), some (.ref 1), some (va_rf (g.2.2 1 9))]) (st1 := []) (h1 := s_hg g) (by generalize (g.2.2 1 9) = w; cases w <;> exact rfl) rfl ?_
  refine s_Fin.sg 1 (y := (6, [some (.ref 37), some (.ref 1), some (va_rf (g.2.2 1 9))], [.ref 1], s_hg g)) rfl ?_
  obtain ⟨g1, hp, hB⟩ := s_bd hB
  refine s_Fin.cl (d := 2) (q1 := s_m20) (md := 20) (vs := [.ref 1]) (rest := []) (h1 := s_hg g1) (u := none) (s_Ev.up (by omega) (fQ_next_1_s hp)) rfl rfl rfl rfl ?_
  refine s_Fin.nx (pc1 := 10) (L1 := [some (.ref 37), some (.ref 1), some (va_rf (g.2.2 1 9))]) (st1 := [va_rf (g.2.2 1 9)]) (h1 := s_hg g1) (by generalize (g.2.2 1 9) = w; cases w <;> exact rfl) rfl ?_
  refine s_Fin.sg 1 (y := (13, [some (.ref 37), some (.ref 1), some (va_rf (g.2.2 1 9))], [.ref 1016, va_rf (g.2.2 1 9)], s_hg g1)) rfl ?_
  have hw : s_okw (g.2.2 1 9) = true := Classical.byContradiction fun h => (by rw [if_neg h] at hB; cases hB)
  rw [if_pos hw] at hB
  by_cases hc : (g.2.2 1 9) = some 1016
  · rw [if_pos hc] at hB
    refine s_Fin.nx (pc1 := 16) (L1 := [some (.ref 37), some (.ref 1), some (va_rf (g.2.2 1 9))]) (st1 := []) (h1 := s_hg g1) ((show _ = s_acN 62 13 [some (.ref 37), some (.ref 1), some (va_rf (g.2.2 1 9))] [] (s_hg g1) (.ref 1016) (va_rf (g.2.2 1 9)) from rfl).trans (s_acN_t hw rfl hc)) rfl ?_
    refine s_Fin.sg 5 (y := (26, [some (.ref 37), some (.ref 1), some (va_rf (g.2.2 1 9))], [.int (50 : Int32), .int (g1.1 37 5), .ref 38], s_hg g1)) rfl ?_
    obtain ⟨k3, hk3, hB⟩ := s_bd hB
    refine s_Fin.ix (n := 40) (i := g1.1 37 5) (pc1 := 27) (L1 := [some (.ref 37), some (.ref 1), some (va_rf (g.2.2 1 9))]) (fun j2 => []) (fun j2 => s_hg (s_si g1 38 j2 (50 : Int32))) hk3 rfl rfl ?_
    refine s_Fin.sg 7 (y := (39, [some (.ref 37), some (.ref 1), some (va_rf (g.2.2 1 9))], [.int (60 : Int32), .int (1 : Int32), .ref 1, .int (g1.1 37 5), .ref 42], s_hg (s_si g1 38 k3 (50 : Int32)))) rfl ?_
    obtain ⟨v5, g4, hp, hB⟩ := s_bd2 hB
    refine s_Fin.cl (d := 2) (q1 := s_m34) (md := 34) (vs := [.ref 1, .int (1 : Int32), .int (60 : Int32)]) (rest := [.int (g1.1 37 5), .ref 42]) (h1 := s_hg g4) (u := some (.int v5)) (s_Ev.up (by omega) (fQ_passNumber_1_s hp)) rfl rfl rfl rfl ?_
    refine s_Fin.ix (n := 40) (i := g1.1 37 5) (pc1 := 43) (L1 := [some (.ref 37), some (.ref 1), some (va_rf (g.2.2 1 9))]) (fun j6 => []) (fun j6 => s_hg (s_si g4 42 j6 v5)) hk3 rfl rfl ?_
    refine s_Fin.sg 4 (y := (51, [some (.ref 37), some (.ref 1), some (va_rf (g.2.2 1 9))], [.int (g4.1 37 5), .ref 42], s_hg (s_si g4 42 k3 v5))) rfl ?_
    obtain ⟨k8, hk8, hB⟩ := s_bd hB
    refine s_Fin.ix (n := 40) (i := g4.1 37 5) (pc1 := 52) (L1 := [some (.ref 37), some (.ref 1), some (va_rf (g.2.2 1 9))]) (fun j7 => [.int ((s_si g4 42 k3 v5).1 42 j7)]) (fun j7 => s_hg (s_si g4 42 k3 v5)) hk8 rfl rfl ?_
    refine s_Fin.sg 1 (y := (53, [some (.ref 37), some (.ref 1), some (va_rf (g.2.2 1 9))], [.int (-1 : Int32), .int ((s_si g4 42 k3 v5).1 42 k8)], s_hg (s_si g4 42 k3 v5))) rfl ?_
    by_cases hc : ((s_si g4 42 k3 v5).1 42 k8) = (-1 : Int32)
    · rw [if_pos hc] at hB
      refine s_Fin.bt (c := ((s_si g4 42 k3 v5).1 42 k8) = (-1 : Int32)) (tg := 60) (p2 := 53) (L1 := [some (.ref 37), some (.ref 1), some (va_rf (g.2.2 1 9))]) (st1 := []) hc rfl ?_
      refine s_Fin.sg 1 (y := (61, [some (.ref 37), some (.ref 1), some (va_rf (g.2.2 1 9))], [.int (0 : Int32)], s_hg (s_si g4 42 k3 v5))) rfl ?_
      have hB := Option.some.inj hB
      subst hB
      obtain ⟨rfl, rfl⟩ := hr
      exact s_Fin.rt rfl rfl
    · rw [if_neg hc] at hB
      refine s_Fin.bf (c := ((s_si g4 42 k3 v5).1 42 k8) = (-1 : Int32)) (tg := 60) (p2 := 53) (L1 := [some (.ref 37), some (.ref 1), some (va_rf (g.2.2 1 9))]) (st1 := []) hc rfl ?_
      refine s_Fin.sg 2 (y := (61, [some (.ref 37), some (.ref 1), some (va_rf (g.2.2 1 9))], [.int (1 : Int32)], s_hg (s_si g4 42 k3 v5))) rfl ?_
      have hB := Option.some.inj hB
      subst hB
      obtain ⟨rfl, rfl⟩ := hr
      exact s_Fin.rt rfl rfl
  · rw [if_neg hc] at hB
    refine s_Fin.nx (pc1 := 62) (L1 := [some (.ref 37), some (.ref 1), some (va_rf (g.2.2 1 9))]) (st1 := []) (h1 := s_hg g1) ((show _ = s_acN 62 13 [some (.ref 37), some (.ref 1), some (va_rf (g.2.2 1 9))] [] (s_hg g1) (.ref 1016) (va_rf (g.2.2 1 9)) from rfl).trans (s_acN_f hw rfl hc)) rfl ?_
    refine s_Fin.sg 4 (y := (70, [some (.ref 37), some (.ref 1), some (va_rf (g.2.2 1 9))], [.int (g1.1 37 5), .ref 38], s_hg g1)) rfl ?_
    refine s_Fin.nx (pc1 := 71) (L1 := [some (.ref 37), some (.ref 1), some (va_rf (g.2.2 1 9))]) (st1 := [va_rf (g.2.2 1 9), .int (g1.1 37 5), .ref 38]) (h1 := s_hg g1) (by generalize (g.2.2 1 9) = w; cases w <;> exact rfl) rfl ?_
    refine s_Fin.sg 1 (y := (74, [some (.ref 37), some (.ref 1), some (va_rf (g.2.2 1 9))], [.ref 1014, va_rf (g.2.2 1 9), .int (g1.1 37 5), .ref 38], s_hg g1)) rfl ?_
    have hw : s_okw (g.2.2 1 9) = true := Classical.byContradiction fun h => (by rw [if_neg h] at hB; cases hB)
    rw [if_pos hw] at hB
    by_cases hc : (g.2.2 1 9) = some 1014
    · rw [if_pos hc] at hB
      refine s_Fin.nx (pc1 := 77) (L1 := [some (.ref 37), some (.ref 1), some (va_rf (g.2.2 1 9))]) (st1 := [.int (g1.1 37 5), .ref 38]) (h1 := s_hg g1) ((show _ = s_acN 82 74 [some (.ref 37), some (.ref 1), some (va_rf (g.2.2 1 9))] [.int (g1.1 37 5), .ref 38] (s_hg g1) (.ref 1014) (va_rf (g.2.2 1 9)) from rfl).trans (s_acN_t hw rfl hc)) rfl ?_
      refine s_Fin.sg 2 (y := (84, [some (.ref 37), some (.ref 1), some (va_rf (g.2.2 1 9))], [.int (30 : Int32), .int (g1.1 37 5), .ref 38], s_hg g1)) rfl ?_
      obtain ⟨k10, hk10, hB⟩ := s_bd hB
      refine s_Fin.ix (n := 40) (i := g1.1 37 5) (pc1 := 85) (L1 := [some (.ref 37), some (.ref 1), some (va_rf (g.2.2 1 9))]) (fun j9 => []) (fun j9 => s_hg (s_si g1 38 j9 (30 : Int32))) hk10 rfl rfl ?_
      refine s_Fin.sg 1 (y := (86, [some (.ref 37), some (.ref 1), some (va_rf (g.2.2 1 9))], [.int (1 : Int32)], s_hg (s_si g1 38 k10 (30 : Int32)))) rfl ?_
      have hB := Option.some.inj hB
      subst hB
      obtain ⟨rfl, rfl⟩ := hr
      exact s_Fin.rt rfl rfl
    · rw [if_neg hc] at hB
      refine s_Fin.nx (pc1 := 82) (L1 := [some (.ref 37), some (.ref 1), some (va_rf (g.2.2 1 9))]) (st1 := [.int (g1.1 37 5), .ref 38]) (h1 := s_hg g1) ((show _ = s_acN 82 74 [some (.ref 37), some (.ref 1), some (va_rf (g.2.2 1 9))] [.int (g1.1 37 5), .ref 38] (s_hg g1) (.ref 1014) (va_rf (g.2.2 1 9)) from rfl).trans (s_acN_f hw rfl hc)) rfl ?_
      refine s_Fin.sg 1 (y := (84, [some (.ref 37), some (.ref 1), some (va_rf (g.2.2 1 9))], [.int (40 : Int32), .int (g1.1 37 5), .ref 38], s_hg g1)) rfl ?_
      obtain ⟨k12, hk12, hB⟩ := s_bd hB
      refine s_Fin.ix (n := 40) (i := g1.1 37 5) (pc1 := 85) (L1 := [some (.ref 37), some (.ref 1), some (va_rf (g.2.2 1 9))]) (fun j11 => []) (fun j11 => s_hg (s_si g1 38 j11 (40 : Int32))) hk12 rfl rfl ?_
      refine s_Fin.sg 1 (y := (86, [some (.ref 37), some (.ref 1), some (va_rf (g.2.2 1 9))], [.int (1 : Int32)], s_hg (s_si g1 38 k12 (40 : Int32)))) rfl ?_
      have hB := Option.some.inj hB
      subst hB
      obtain ⟨rfl, rfl⟩ := hr
      exact s_Fin.rt rfl rfl
-- CampAshes$Book.readLine
noncomputable def fB_readLine_37_1_3_76 (x3 : Int32) (g : s_G) : Option (Int32 × s_G) :=
  if (g.1 37 5) < (40 : Int32) then (if x3 = 0 then (s_b2 (fB_readDeed_37_1_3 g) fun v8 g7 => if v8 = 0 ∨ v8 = 1 then some (v8, g7)
  else none)
  else s_b2 (fB_readPlain_37_1 g) fun v10 g9 => if v10 = 0 ∨ v10 = 1 then some (v10, g9)
  else none)
  else s_b2 (fQ_fail_1 (4 : Int32) g) fun v12 g11 => if v12 = 0 ∨ v12 = 1 then some (v12, g11)
  else none
theorem fB_readLine_37_1_3_76_s {x3 : Int32} {g : s_G} {z : Int32 × s_G} (hB : fB_readLine_37_1_3_76 x3 g = some z) {v : Option Value} {h' : s_H} (hr : (fun (z : Int32 × s_G) (v : Option Value) (h' : s_H) => v = some (.int z.1) ∧ h' = s_hg z.2) z v h') : s_Fin 5 s_m127 (76, [some (.ref 37), some (.ref 1), some (.ref 3), some (.int x3)], [], s_hg g) v h' := by
  unfold fB_readLine_37_1_3_76 at hB
  refine s_Fin.sg 3 (y := (82, [some (.ref 37), some (.ref 1), some (.ref 3), some (.int x3)], [.int (40 : Int32), .int (g.1 37 5)], s_hg g)) rfl ?_
  by_cases hc : (g.1 37 5) < (40 : Int32)
  · rw [if_pos hc] at hB
    refine s_Fin.bt (c := (g.1 37 5) < (40 : Int32)) (tg := 91) (p2 := 82) (L1 := [some (.ref 37), some (.ref 1), some (.ref 3), some (.int x3)]) (st1 := []) hc rfl ?_
    refine s_Fin.sg 1 (y := (92, [some (.ref 37), some (.ref 1), some (.ref 3), some (.int x3)], [.int x3], s_hg g)) rfl ?_
    by_cases hc : x3 = 0
    · rw [if_pos hc] at hB
      refine s_Fin.bt (c := x3 = 0) (tg := 103) (p2 := 92) (L1 := [some (.ref 37), some (.ref 1), some (.ref 3), some (.int x3)]) (st1 := []) hc rfl ?_
      refine s_Fin.sg 3 (y := (106, [some (.ref 37), some (.ref 1), some (.ref 3), some (.int x3)], [.ref 3, .ref 1, .ref 37], s_hg g)) rfl ?_
      obtain ⟨v8, g7, hp, hB⟩ := s_bd2 hB
      refine s_Fin.cl (d := 4) (q1 := s_m129) (md := 129) (vs := [.ref 37, .ref 1, .ref 3]) (rest := []) (h1 := s_hg g7) (u := some (.int v8)) (s_Ev.up (by omega) (fB_readDeed_37_1_3_s hp)) rfl rfl rfl rfl ?_
      have hc : v8 = 0 ∨ v8 = 1 := Classical.byContradiction fun h => (by rw [if_neg h] at hB; cases hB)
      rw [if_pos hc] at hB
      have hB := Option.some.inj hB
      subst hB
      obtain ⟨rfl, rfl⟩ := hr
      exact s_Fin.rt (by rcases hc with hc | hc <;> rw [hc] <;> exact rfl) rfl
    · rw [if_neg hc] at hB
      refine s_Fin.bf (c := x3 = 0) (tg := 103) (p2 := 92) (L1 := [some (.ref 37), some (.ref 1), some (.ref 3), some (.int x3)]) (st1 := []) hc rfl ?_
      refine s_Fin.sg 2 (y := (97, [some (.ref 37), some (.ref 1), some (.ref 3), some (.int x3)], [.ref 1, .ref 37], s_hg g)) rfl ?_
      obtain ⟨v10, g9, hp, hB⟩ := s_bd2 hB
      refine s_Fin.cl (d := 4) (q1 := s_m128) (md := 128) (vs := [.ref 37, .ref 1]) (rest := []) (h1 := s_hg g9) (u := some (.int v10)) (s_Ev.up (by omega) (fB_readPlain_37_1_s hp)) rfl rfl rfl rfl ?_
      refine s_Fin.sg 1 (y := (109, [some (.ref 37), some (.ref 1), some (.ref 3), some (.int x3)], [.int v10], s_hg g9)) rfl ?_
      have hc : v10 = 0 ∨ v10 = 1 := Classical.byContradiction fun h => (by rw [if_neg h] at hB; cases hB)
      rw [if_pos hc] at hB
      have hB := Option.some.inj hB
      subst hB
      obtain ⟨rfl, rfl⟩ := hr
      exact s_Fin.rt (by rcases hc with hc | hc <;> rw [hc] <;> exact rfl) rfl
  · rw [if_neg hc] at hB
    refine s_Fin.bf (c := (g.1 37 5) < (40 : Int32)) (tg := 91) (p2 := 82) (L1 := [some (.ref 37), some (.ref 1), some (.ref 3), some (.int x3)]) (st1 := []) hc rfl ?_
    refine s_Fin.sg 2 (y := (87, [some (.ref 37), some (.ref 1), some (.ref 3), some (.int x3)], [.int (4 : Int32), .ref 1], s_hg g)) rfl ?_
    obtain ⟨v12, g11, hp, hB⟩ := s_bd2 hB
    refine s_Fin.cl (d := 4) (q1 := s_m30) (md := 30) (vs := [.ref 1, .int (4 : Int32)]) (rest := []) (h1 := s_hg g11) (u := some (.int v12)) (s_Ev.up (by omega) (fQ_fail_1_s hp)) rfl rfl rfl rfl ?_
    have hc : v12 = 0 ∨ v12 = 1 := Classical.byContradiction fun h => (by rw [if_neg h] at hB; cases hB)
    rw [if_pos hc] at hB
    have hB := Option.some.inj hB
    subst hB
    obtain ⟨rfl, rfl⟩ := hr
    exact s_Fin.rt (by rcases hc with hc | hc <;> rw [hc] <;> exact rfl) rfl
noncomputable def fB_readLine_37_1_3_54 (x3 : Int32) (g : s_G) : Option (Int32 × s_G) :=
  if x3 = 0 then (s_b1 (fP_boyNamed_3 (g.2.1 1 8) g) fun v4 => if v4 = (-1 : Int32) then (s_b2 (fQ_fail_1 (3 : Int32) g) fun v6 g5 => if v6 = 0 ∨ v6 = 1 then some (v6, g5)
  else none)
  else fB_readLine_37_1_3_76 x3 g)
  else fB_readLine_37_1_3_76 x3 g
theorem fB_readLine_37_1_3_54_s {x3 : Int32} {g : s_G} {z : Int32 × s_G} (hB : fB_readLine_37_1_3_54 x3 g = some z) {v : Option Value} {h' : s_H} (hr : (fun (z : Int32 × s_G) (v : Option Value) (h' : s_H) => v = some (.int z.1) ∧ h' = s_hg z.2) z v h') : s_Fin 5 s_m127 (54, [some (.ref 37), some (.ref 1), some (.ref 3), some (.int x3)], [], s_hg g) v h' := by
  unfold fB_readLine_37_1_3_54 at hB
  refine s_Fin.sg 1 (y := (55, [some (.ref 37), some (.ref 1), some (.ref 3), some (.int x3)], [.int x3], s_hg g)) rfl ?_
  by_cases hc : x3 = 0
  · rw [if_pos hc] at hB
    refine s_Fin.bf (c := ¬ x3 = 0) (tg := 76) (p2 := 55) (L1 := [some (.ref 37), some (.ref 1), some (.ref 3), some (.int x3)]) (st1 := []) (fun h => h hc) rfl ?_
    refine s_Fin.sg 3 (y := (63, [some (.ref 37), some (.ref 1), some (.ref 3), some (.int x3)], [.long (g.2.1 1 8), .ref 3], s_hg g)) rfl ?_
    obtain ⟨v4, hp, hB⟩ := s_bd hB
    refine s_Fin.cl (d := 4) (q1 := s_m32) (md := 32) (vs := [.ref 3, .long (g.2.1 1 8)]) (rest := []) (h1 := s_hg g) (u := some (.int v4)) (s_Ev.up (by omega) (fP_boyNamed_3_s hp)) rfl rfl rfl rfl ?_
    refine s_Fin.sg 1 (y := (67, [some (.ref 37), some (.ref 1), some (.ref 3), some (.int x3)], [.int (-1 : Int32), .int v4], s_hg g)) rfl ?_
    by_cases hc : v4 = (-1 : Int32)
    · rw [if_pos hc] at hB
      refine s_Fin.bf (c := ¬ v4 = (-1 : Int32)) (tg := 76) (p2 := 67) (L1 := [some (.ref 37), some (.ref 1), some (.ref 3), some (.int x3)]) (st1 := []) (fun h => h hc) rfl ?_
      refine s_Fin.sg 2 (y := (72, [some (.ref 37), some (.ref 1), some (.ref 3), some (.int x3)], [.int (3 : Int32), .ref 1], s_hg g)) rfl ?_
      obtain ⟨v6, g5, hp, hB⟩ := s_bd2 hB
      refine s_Fin.cl (d := 4) (q1 := s_m30) (md := 30) (vs := [.ref 1, .int (3 : Int32)]) (rest := []) (h1 := s_hg g5) (u := some (.int v6)) (s_Ev.up (by omega) (fQ_fail_1_s hp)) rfl rfl rfl rfl ?_
      have hc : v6 = 0 ∨ v6 = 1 := Classical.byContradiction fun h => (by rw [if_neg h] at hB; cases hB)
      rw [if_pos hc] at hB
      have hB := Option.some.inj hB
      subst hB
      obtain ⟨rfl, rfl⟩ := hr
      exact s_Fin.rt (by rcases hc with hc | hc <;> rw [hc] <;> exact rfl) rfl
    · rw [if_neg hc] at hB
      refine s_Fin.bt (c := ¬ v4 = (-1 : Int32)) (tg := 76) (p2 := 67) (L1 := [some (.ref 37), some (.ref 1), some (.ref 3), some (.int x3)]) (st1 := []) hc rfl ?_
      exact s_Fin.more (L := [some (.ref 37), some (.ref 1), some (.ref 3), some (.int x3)]) ⟨Or.inr rfl, Or.inr rfl, Or.inr rfl, Or.inr rfl, trivial⟩ (fB_readLine_37_1_3_76_s hB hr)
  · rw [if_neg hc] at hB
    refine s_Fin.bt (c := ¬ x3 = 0) (tg := 76) (p2 := 55) (L1 := [some (.ref 37), some (.ref 1), some (.ref 3), some (.int x3)]) (st1 := []) hc rfl ?_
    exact s_Fin.more (L := [some (.ref 37), some (.ref 1), some (.ref 3), some (.int x3)]) ⟨Or.inr rfl, Or.inr rfl, Or.inr rfl, Or.inr rfl, trivial⟩ (fB_readLine_37_1_3_76_s hB hr)
noncomputable def fB_readLine_37_1_3_35 (t0 : Int32) (g : s_G) : Option (Int32 × s_G) :=
  if t0 = 0 then (if (g.1 1 5) = (3 : Int32) then (fB_readLine_37_1_3_54 t0 g)
  else s_b2 (fQ_fail_1 (1 : Int32) g) fun v14 g13 => if v14 = 0 ∨ v14 = 1 then some (v14, g13)
  else none)
  else fB_readLine_37_1_3_54 t0 g
theorem fB_readLine_37_1_3_35_s {t0 : Int32} {g : s_G} {z : Int32 × s_G} (hB : fB_readLine_37_1_3_35 t0 g = some z) {v : Option Value} {h' : s_H} (hr : (fun (z : Int32 × s_G) (v : Option Value) (h' : s_H) => v = some (.int z.1) ∧ h' = s_hg z.2) z v h') : s_Fin 5 s_m127 (35, [some (.ref 37), some (.ref 1), some (.ref 3), none], [.int t0], s_hg g) v h' := by
  unfold fB_readLine_37_1_3_35 at hB
  refine s_Fin.sg 2 (y := (37, [some (.ref 37), some (.ref 1), some (.ref 3), some (.int t0)], [.int t0], s_hg g)) rfl ?_
  by_cases hc : t0 = 0
  · rw [if_pos hc] at hB
    refine s_Fin.bf (c := ¬ t0 = 0) (tg := 54) (p2 := 37) (L1 := [some (.ref 37), some (.ref 1), some (.ref 3), some (.int t0)]) (st1 := []) (fun h => h hc) rfl ?_
    refine s_Fin.sg 3 (y := (45, [some (.ref 37), some (.ref 1), some (.ref 3), some (.int t0)], [.int (3 : Int32), .int (g.1 1 5)], s_hg g)) rfl ?_
    by_cases hc : (g.1 1 5) = (3 : Int32)
    · rw [if_pos hc] at hB
      refine s_Fin.bt (c := (g.1 1 5) = (3 : Int32)) (tg := 54) (p2 := 45) (L1 := [some (.ref 37), some (.ref 1), some (.ref 3), some (.int t0)]) (st1 := []) hc rfl ?_
      exact s_Fin.more (L := [some (.ref 37), some (.ref 1), some (.ref 3), some (.int t0)]) ⟨Or.inr rfl, Or.inr rfl, Or.inr rfl, Or.inr rfl, trivial⟩ (fB_readLine_37_1_3_54_s hB hr)
    · rw [if_neg hc] at hB
      refine s_Fin.bf (c := (g.1 1 5) = (3 : Int32)) (tg := 54) (p2 := 45) (L1 := [some (.ref 37), some (.ref 1), some (.ref 3), some (.int t0)]) (st1 := []) hc rfl ?_
      refine s_Fin.sg 2 (y := (50, [some (.ref 37), some (.ref 1), some (.ref 3), some (.int t0)], [.int (1 : Int32), .ref 1], s_hg g)) rfl ?_
      obtain ⟨v14, g13, hp, hB⟩ := s_bd2 hB
      refine s_Fin.cl (d := 4) (q1 := s_m30) (md := 30) (vs := [.ref 1, .int (1 : Int32)]) (rest := []) (h1 := s_hg g13) (u := some (.int v14)) (s_Ev.up (by omega) (fQ_fail_1_s hp)) rfl rfl rfl rfl ?_
      have hc : v14 = 0 ∨ v14 = 1 := Classical.byContradiction fun h => (by rw [if_neg h] at hB; cases hB)
      rw [if_pos hc] at hB
      have hB := Option.some.inj hB
      subst hB
      obtain ⟨rfl, rfl⟩ := hr
      exact s_Fin.rt (by rcases hc with hc | hc <;> rw [hc] <;> exact rfl) rfl
  · rw [if_neg hc] at hB
    refine s_Fin.bt (c := ¬ t0 = 0) (tg := 54) (p2 := 37) (L1 := [some (.ref 37), some (.ref 1), some (.ref 3), some (.int t0)]) (st1 := []) hc rfl ?_
    exact s_Fin.more (L := [some (.ref 37), some (.ref 1), some (.ref 3), some (.int t0)]) ⟨Or.inr rfl, Or.inr rfl, Or.inr rfl, Or.inr rfl, trivial⟩ (fB_readLine_37_1_3_54_s hB hr)
noncomputable def fB_readLine_37_1_3_30 (g : s_G) : Option (Int32 × s_G) :=
  fB_readLine_37_1_3_35 (1 : Int32) g
theorem fB_readLine_37_1_3_30_s {g : s_G} {z : Int32 × s_G} (hB : fB_readLine_37_1_3_30 g = some z) {v : Option Value} {h' : s_H} (hr : (fun (z : Int32 × s_G) (v : Option Value) (h' : s_H) => v = some (.int z.1) ∧ h' = s_hg z.2) z v h') : s_Fin 5 s_m127 (30, [some (.ref 37), some (.ref 1), some (.ref 3), none], [], s_hg g) v h' := by
  unfold fB_readLine_37_1_3_30 at hB
  refine s_Fin.sg 2 (y := (35, [some (.ref 37), some (.ref 1), some (.ref 3), none], [.int (1 : Int32)], s_hg g)) rfl ?_
  exact s_Fin.more (L := [some (.ref 37), some (.ref 1), some (.ref 3), none]) ⟨Or.inr rfl, Or.inr rfl, Or.inr rfl, Or.inl rfl, trivial⟩ (fB_readLine_37_1_3_35_s hB hr)
noncomputable def fB_readLine_37_1_3 (g : s_G) : Option (Int32 × s_G) :=
  s_b1 (fQ_isWord_1_1014 g) fun v1 => if v1 = 0 then (s_b1 (fQ_isWord_1_1015 g) fun v2 => if v2 = 0 then (s_b1 (fQ_isWord_1_1016 g) fun v3 => if v3 = 0 then (fB_readLine_37_1_3_35 (0 : Int32) g)
  else fB_readLine_37_1_3_30 g)
  else fB_readLine_37_1_3_30 g)
  else fB_readLine_37_1_3_30 g
theorem fB_readLine_37_1_3_s {g : s_G} {z : Int32 × s_G} (hB : fB_readLine_37_1_3 g = some z) : s_Ev 5 s_m127 [.ref 37, .ref 1, .ref 3] (s_hg g) (some (.int z.1)) (s_hg z.2) := by
  unfold fB_readLine_37_1_3 at hB
  refine s_Ev.fin ((?_ : ∀ (v : Option Value) (h' : s_H), (fun (z : Int32 × s_G) (v : Option Value) (h' : s_H) => v = some (.int z.1) ∧ h' = s_hg z.2) z v h' → s_Fin 5 s_m127 (0, s_ent [.ref 37, .ref 1, .ref 3] (s_m127).2.2.1, [], s_hg g) v h') _ _ ⟨rfl, rfl⟩)
  intro v h' hr
  refine (show s_Fin 5 s_m127 (0, [some (.ref 37), some (.ref 1), some (.ref 3), none], [], s_hg g) v h' from ?_)
  refine s_Fin.sg 2 (y := (4, [some (.ref 37), some (.ref 1), some (.ref 3), none], [.ref 1014, .ref 1], s_hg g)) rfl ?_
  obtain ⟨v1, hp, hB⟩ := s_bd hB
  refine s_Fin.cl (d := 4) (q1 := s_m28) (md := 28) (vs := [.ref 1, .ref 1014]) (rest := []) (h1 := s_hg g) (u := some (.int v1)) (s_Ev.up (by omega) (fQ_isWord_1_1014_s hp)) rfl rfl rfl rfl ?_
  by_cases hc : v1 = 0
  · rw [if_pos hc] at hB
    refine s_Fin.bf (c := ¬ v1 = 0) (tg := 30) (p2 := 7) (L1 := [some (.ref 37), some (.ref 1), some (.ref 3), none]) (st1 := []) (fun h => h hc) rfl ?_
    refine s_Fin.sg 2 (y := (14, [some (.ref 37), some (.ref 1), some (.ref 3), none], [.ref 1015, .ref 1], s_hg g)) rfl ?_
    obtain ⟨v2, hp, hB⟩ := s_bd hB
    refine s_Fin.cl (d := 4) (q1 := s_m28) (md := 28) (vs := [.ref 1, .ref 1015]) (rest := []) (h1 := s_hg g) (u := some (.int v2)) (s_Ev.up (by omega) (fQ_isWord_1_1015_s hp)) rfl rfl rfl rfl ?_
    by_cases hc : v2 = 0
    · rw [if_pos hc] at hB
      refine s_Fin.bf (c := ¬ v2 = 0) (tg := 30) (p2 := 17) (L1 := [some (.ref 37), some (.ref 1), some (.ref 3), none]) (st1 := []) (fun h => h hc) rfl ?_
      refine s_Fin.sg 2 (y := (24, [some (.ref 37), some (.ref 1), some (.ref 3), none], [.ref 1016, .ref 1], s_hg g)) rfl ?_
      obtain ⟨v3, hp, hB⟩ := s_bd hB
      refine s_Fin.cl (d := 4) (q1 := s_m28) (md := 28) (vs := [.ref 1, .ref 1016]) (rest := []) (h1 := s_hg g) (u := some (.int v3)) (s_Ev.up (by omega) (fQ_isWord_1_1016_s hp)) rfl rfl rfl rfl ?_
      by_cases hc : v3 = 0
      · rw [if_pos hc] at hB
        refine s_Fin.bt (c := v3 = 0) (tg := 34) (p2 := 27) (L1 := [some (.ref 37), some (.ref 1), some (.ref 3), none]) (st1 := []) hc rfl ?_
        refine s_Fin.sg 1 (y := (35, [some (.ref 37), some (.ref 1), some (.ref 3), none], [.int (0 : Int32)], s_hg g)) rfl ?_
        exact s_Fin.more (L := [some (.ref 37), some (.ref 1), some (.ref 3), none]) ⟨Or.inr rfl, Or.inr rfl, Or.inr rfl, Or.inl rfl, trivial⟩ (fB_readLine_37_1_3_35_s hB hr)
      · rw [if_neg hc] at hB
        refine s_Fin.bf (c := v3 = 0) (tg := 34) (p2 := 27) (L1 := [some (.ref 37), some (.ref 1), some (.ref 3), none]) (st1 := []) hc rfl ?_
        exact s_Fin.more (L := [some (.ref 37), some (.ref 1), some (.ref 3), none]) ⟨Or.inr rfl, Or.inr rfl, Or.inr rfl, Or.inl rfl, trivial⟩ (fB_readLine_37_1_3_30_s hB hr)
    · rw [if_neg hc] at hB
      refine s_Fin.bt (c := ¬ v2 = 0) (tg := 30) (p2 := 17) (L1 := [some (.ref 37), some (.ref 1), some (.ref 3), none]) (st1 := []) hc rfl ?_
      exact s_Fin.more (L := [some (.ref 37), some (.ref 1), some (.ref 3), none]) ⟨Or.inr rfl, Or.inr rfl, Or.inr rfl, Or.inl rfl, trivial⟩ (fB_readLine_37_1_3_30_s hB hr)
  · rw [if_neg hc] at hB
    refine s_Fin.bt (c := ¬ v1 = 0) (tg := 30) (p2 := 7) (L1 := [some (.ref 37), some (.ref 1), some (.ref 3), none]) (st1 := []) hc rfl ?_
    exact s_Fin.more (L := [some (.ref 37), some (.ref 1), some (.ref 3), none]) ⟨Or.inr rfl, Or.inr rfl, Or.inr rfl, Or.inl rfl, trivial⟩ (fB_readLine_37_1_3_30_s hB hr)
-- CampAshes$Book.readText
noncomputable def fB_readText_37_1_3_7 (x3 : Int32) (g : s_G) : Option ((Int32 × s_G) ⊕ (Int32 × s_G)) :=
  if (40 : Int32) < x3 then (s_in (s_b2 (fQ_fail_1 (4 : Int32) g) fun v2 g1 => if v2 = 0 ∨ v2 = 1 then some (v2, g1)
  else none))
  else s_b1 (fQ_hasEnded_1 g) fun v3 => if v3 = 0 then (s_b2 (fB_readLine_37_1_3 g) fun v5 g4 => if v5 = 0 then (s_in (some ((0 : Int32), g4)))
  else s_b2 (fQ_passSign_1 (59 : Int32) g4) fun v7 g6 => if v7 = 0 then (s_in (some ((0 : Int32), g6)))
  else some (.inl (x3 + (1 : Int32), (s_si g6 37 5 ((g6.1 37 5) + (1 : Int32))))))
  else s_in (some ((1 : Int32), g))
theorem fB_readText_37_1_3_7_s {x3 : Int32} {g : s_G} {z : (Int32 × s_G) ⊕ (Int32 × s_G)} (hB : fB_readText_37_1_3_7 x3 g = some z) {v : Option Value} {h' : s_H} (hr : (s_sm (fun (x : Int32 × s_G) (v : Option Value) (h' : s_H) => s_Fin 6 s_m126 (7, [some (.ref 37), some (.ref 1), some (.ref 3), some (.int x.1)], [], s_hg x.2) v h') (fun (z : Int32 × s_G) (v : Option Value) (h' : s_H) => v = some (.int z.1) ∧ h' = s_hg z.2)) z v h') : s_Fin 6 s_m126 (7, [some (.ref 37), some (.ref 1), some (.ref 3), some (.int x3)], [], s_hg g) v h' := by
  unfold fB_readText_37_1_3_7 at hB
  refine s_Fin.sg 2 (y := (10, [some (.ref 37), some (.ref 1), some (.ref 3), some (.int x3)], [.int (40 : Int32), .int x3], s_hg g)) rfl ?_
  by_cases hc : (40 : Int32) < x3
  · rw [if_pos hc] at hB
    refine s_Fin.bt (c := (40 : Int32) < x3) (tg := 58) (p2 := 10) (L1 := [some (.ref 37), some (.ref 1), some (.ref 3), some (.int x3)]) (st1 := []) hc rfl ?_
    obtain ⟨_, hN, hz⟩ := s_in_of hB
    subst hz
    have hB := hN
    refine s_Fin.sg 2 (y := (60, [some (.ref 37), some (.ref 1), some (.ref 3), some (.int x3)], [.int (4 : Int32), .ref 1], s_hg g)) rfl ?_
    obtain ⟨v2, g1, hp, hB⟩ := s_bd2 hB
    refine s_Fin.cl (d := 5) (q1 := s_m30) (md := 30) (vs := [.ref 1, .int (4 : Int32)]) (rest := []) (h1 := s_hg g1) (u := some (.int v2)) (s_Ev.up (by omega) (fQ_fail_1_s hp)) rfl rfl rfl rfl ?_
    have hc : v2 = 0 ∨ v2 = 1 := Classical.byContradiction fun h => (by rw [if_neg h] at hB; cases hB)
    rw [if_pos hc] at hB
    have hB := Option.some.inj hB
    subst hB
    obtain ⟨rfl, rfl⟩ := hr
    exact s_Fin.rt (by rcases hc with hc | hc <;> rw [hc] <;> exact rfl) rfl
  · rw [if_neg hc] at hB
    refine s_Fin.bf (c := (40 : Int32) < x3) (tg := 58) (p2 := 10) (L1 := [some (.ref 37), some (.ref 1), some (.ref 3), some (.int x3)]) (st1 := []) hc rfl ?_
    refine s_Fin.sg 1 (y := (14, [some (.ref 37), some (.ref 1), some (.ref 3), some (.int x3)], [.ref 1], s_hg g)) rfl ?_
    obtain ⟨v3, hp, hB⟩ := s_bd hB
    refine s_Fin.cl (d := 5) (q1 := s_m26) (md := 26) (vs := [.ref 1]) (rest := []) (h1 := s_hg g) (u := some (.int v3)) (s_Ev.up (by omega) (fQ_hasEnded_1_s hp)) rfl rfl rfl rfl ?_
    by_cases hc : v3 = 0
    · rw [if_pos hc] at hB
      refine s_Fin.bt (c := v3 = 0) (tg := 22) (p2 := 17) (L1 := [some (.ref 37), some (.ref 1), some (.ref 3), some (.int x3)]) (st1 := []) hc rfl ?_
      refine s_Fin.sg 3 (y := (25, [some (.ref 37), some (.ref 1), some (.ref 3), some (.int x3)], [.ref 3, .ref 1, .ref 37], s_hg g)) rfl ?_
      obtain ⟨v5, g4, hp, hB⟩ := s_bd2 hB
      refine s_Fin.cl (d := 5) (q1 := s_m127) (md := 127) (vs := [.ref 37, .ref 1, .ref 3]) (rest := []) (h1 := s_hg g4) (u := some (.int v5)) (s_Ev.up (by omega) (fB_readLine_37_1_3_s hp)) rfl rfl rfl rfl ?_
      by_cases hc : v5 = 0
      · rw [if_pos hc] at hB
        refine s_Fin.bt (c := v5 = 0) (tg := 40) (p2 := 28) (L1 := [some (.ref 37), some (.ref 1), some (.ref 3), some (.int x3)]) (st1 := []) hc rfl ?_
        obtain ⟨_, hN, hz⟩ := s_in_of hB
        subst hz
        have hB := hN
        refine s_Fin.sg 1 (y := (41, [some (.ref 37), some (.ref 1), some (.ref 3), some (.int x3)], [.int (0 : Int32)], s_hg g4)) rfl ?_
        have hB := Option.some.inj hB
        subst hB
        obtain ⟨rfl, rfl⟩ := hr
        exact s_Fin.rt rfl rfl
      · rw [if_neg hc] at hB
        refine s_Fin.bf (c := v5 = 0) (tg := 40) (p2 := 28) (L1 := [some (.ref 37), some (.ref 1), some (.ref 3), some (.int x3)]) (st1 := []) hc rfl ?_
        refine s_Fin.sg 2 (y := (34, [some (.ref 37), some (.ref 1), some (.ref 3), some (.int x3)], [.int (59 : Int32), .ref 1], s_hg g4)) rfl ?_
        obtain ⟨v7, g6, hp, hB⟩ := s_bd2 hB
        refine s_Fin.cl (d := 5) (q1 := s_m41) (md := 41) (vs := [.ref 1, .int (59 : Int32)]) (rest := []) (h1 := s_hg g6) (u := some (.int v7)) (s_Ev.up (by omega) (fQ_passSign_1_s hp)) rfl rfl rfl rfl ?_
        by_cases hc : v7 = 0
        · rw [if_pos hc] at hB
          refine s_Fin.bf (c := ¬ v7 = 0) (tg := 42) (p2 := 37) (L1 := [some (.ref 37), some (.ref 1), some (.ref 3), some (.int x3)]) (st1 := []) (fun h => h hc) rfl ?_
          obtain ⟨_, hN, hz⟩ := s_in_of hB
          subst hz
          have hB := hN
          refine s_Fin.sg 1 (y := (41, [some (.ref 37), some (.ref 1), some (.ref 3), some (.int x3)], [.int (0 : Int32)], s_hg g6)) rfl ?_
          have hB := Option.some.inj hB
          subst hB
          obtain ⟨rfl, rfl⟩ := hr
          exact s_Fin.rt rfl rfl
        · rw [if_neg hc] at hB
          refine s_Fin.bt (c := ¬ v7 = 0) (tg := 42) (p2 := 37) (L1 := [some (.ref 37), some (.ref 1), some (.ref 3), some (.int x3)]) (st1 := []) hc rfl ?_
          refine s_Fin.sg 8 (y := (7, [some (.ref 37), some (.ref 1), some (.ref 3), some (.int (x3 + (1 : Int32)))], [], s_hg (s_si g6 37 5 ((g6.1 37 5) + (1 : Int32))))) rfl ?_
          have hB := Option.some.inj hB
          subst hB
          exact s_Fin.more (L := [some (.ref 37), some (.ref 1), some (.ref 3), some (.int (x3 + (1 : Int32)))]) ⟨Or.inr rfl, Or.inr rfl, Or.inr rfl, Or.inr rfl, trivial⟩ hr
    · rw [if_neg hc] at hB
      refine s_Fin.bf (c := v3 = 0) (tg := 22) (p2 := 17) (L1 := [some (.ref 37), some (.ref 1), some (.ref 3), some (.int x3)]) (st1 := []) hc rfl ?_
      obtain ⟨_, hN, hz⟩ := s_in_of hB
      subst hz
      have hB := hN
      refine s_Fin.sg 1 (y := (21, [some (.ref 37), some (.ref 1), some (.ref 3), some (.int x3)], [.int (1 : Int32)], s_hg g)) rfl ?_
      have hB := Option.some.inj hB
      subst hB
      obtain ⟨rfl, rfl⟩ := hr
      exact s_Fin.rt rfl rfl
noncomputable def fB_readText_37_1_3 (g : s_G) : Option (Int32 × s_G) :=
  s_lp (fun x => fB_readText_37_1_3_7 x.1 x.2) ((0 : Int32), (s_si g 37 5 (0 : Int32)))
theorem fB_readText_37_1_3_s {g : s_G} {z : Int32 × s_G} (hB : fB_readText_37_1_3 g = some z) : s_Ev 6 s_m126 [.ref 37, .ref 1, .ref 3] (s_hg g) (some (.int z.1)) (s_hg z.2) := by
  unfold fB_readText_37_1_3 at hB
  refine s_Ev.fin ((?_ : ∀ (v : Option Value) (h' : s_H), (fun (z : Int32 × s_G) (v : Option Value) (h' : s_H) => v = some (.int z.1) ∧ h' = s_hg z.2) z v h' → s_Fin 6 s_m126 (0, s_ent [.ref 37, .ref 1, .ref 3] (s_m126).2.2.1, [], s_hg g) v h') _ _ ⟨rfl, rfl⟩)
  intro v h' hr
  refine (show s_Fin 6 s_m126 (0, [some (.ref 37), some (.ref 1), some (.ref 3), none], [], s_hg g) v h' from ?_)
  refine s_Fin.sg 5 (y := (7, [some (.ref 37), some (.ref 1), some (.ref 3), some (.int (0 : Int32))], [], s_hg (s_si g 37 5 (0 : Int32)))) rfl ?_
  exact s_Fin.more (L := [some (.ref 37), some (.ref 1), some (.ref 3), some (.int (0 : Int32))]) ⟨Or.inr rfl, Or.inr rfl, Or.inr rfl, Or.inr rfl, trivial⟩ (s_lp_s (P := (fun (x : Int32 × s_G) (v : Option Value) (h' : s_H) => s_Fin 6 s_m126 (7, [some (.ref 37), some (.ref 1), some (.ref 3), some (.int x.1)], [], s_hg x.2) v h')) (Q := (fun (z : Int32 × s_G) (v : Option Value) (h' : s_H) => v = some (.int z.1) ∧ h' = s_hg z.2)) (fun x z hB v h' hr => fB_readText_37_1_3_7_s hB hr) hB _ _ hr)
-- CampAshes$Book.liveDays
noncomputable def fB_liveDays_22 (x1 : Int32) (g : s_G) : Option (Int32 × s_G) :=
  s_b1 (fT_daysLeft_22 g) fun v1 => if v1 < x1 then (some ((1 : Int32), g))
  else s_b2 (fT_passDays_22 x1 g) fun v3 g2 => some ((0 : Int32), g2)
theorem fB_liveDays_22_s {x1 : Int32} {g : s_G} {z : Int32 × s_G} (hB : fB_liveDays_22 x1 g = some z) : s_Ev 3 s_m133 [.ref 22, .int x1] (s_hg g) (some (.int z.1)) (s_hg z.2) := by
  unfold fB_liveDays_22 at hB
  refine s_Ev.fin ((?_ : ∀ (v : Option Value) (h' : s_H), (fun (z : Int32 × s_G) (v : Option Value) (h' : s_H) => v = some (.int z.1) ∧ h' = s_hg z.2) z v h' → s_Fin 3 s_m133 (0, s_ent [.ref 22, .int x1] (s_m133).2.2.1, [], s_hg g) v h') _ _ ⟨rfl, rfl⟩)
  intro v h' hr
  refine (show s_Fin 3 s_m133 (0, [some (.ref 22), some (.int x1)], [], s_hg g) v h' from ?_)
  refine s_Fin.sg 2 (y := (2, [some (.ref 22), some (.int x1)], [.ref 22, .int x1], s_hg g)) rfl ?_
  obtain ⟨v1, hp, hB⟩ := s_bd hB
  refine s_Fin.cl (d := 2) (q1 := s_m80) (md := 80) (vs := [.ref 22]) (rest := [.int x1]) (h1 := s_hg g) (u := some (.int v1)) (s_Ev.up (by omega) (fT_daysLeft_22_s hp)) rfl rfl rfl rfl ?_
  by_cases hc : v1 < x1
  · rw [if_pos hc] at hB
    refine s_Fin.bf (c := x1 ≤ v1) (tg := 10) (p2 := 5) (L1 := [some (.ref 22), some (.int x1)]) (st1 := []) (Int32.not_le.mpr hc) rfl ?_
    refine s_Fin.sg 1 (y := (9, [some (.ref 22), some (.int x1)], [.int (1 : Int32)], s_hg g)) rfl ?_
    have hB := Option.some.inj hB
    subst hB
    obtain ⟨rfl, rfl⟩ := hr
    exact s_Fin.rt rfl rfl
  · rw [if_neg hc] at hB
    refine s_Fin.bt (c := x1 ≤ v1) (tg := 10) (p2 := 5) (L1 := [some (.ref 22), some (.int x1)]) (st1 := []) (Int32.not_lt.mp hc) rfl ?_
    refine s_Fin.sg 2 (y := (12, [some (.ref 22), some (.int x1)], [.int x1, .ref 22], s_hg g)) rfl ?_
    obtain ⟨v3, g2, hp, hB⟩ := s_bd2 hB
    refine s_Fin.cl (d := 2) (q1 := s_m79) (md := 79) (vs := [.ref 22, .int x1]) (rest := []) (h1 := s_hg g2) (u := some (.int v3)) (s_Ev.up (by omega) (fT_passDays_22_s hp)) rfl rfl rfl rfl ?_
    refine s_Fin.sg 2 (y := (17, [some (.ref 22), some (.int x1)], [.int (0 : Int32)], s_hg g2)) rfl ?_
    have hB := Option.some.inj hB
    subst hB
    obtain ⟨rfl, rfl⟩ := hr
    exact s_Fin.rt rfl rfl
-- CampAshes$Book.liveLine
noncomputable def fB_liveLine_37_22 (x2 : Int32) (g : s_G) : Option (Int32 × s_G) :=
  s_b1 (s_ix 40 x2) fun k2 => if (g.1 38 k2) = 0 then (s_b2 (fT_tellEvent_22 (g.1 39 k2) (g.1 40 k2) g) fun v6 g5 => some (v6, g5))
  else if (g.1 38 k2) = 10 then (s_b2 (fT_lieAbout_22 (g.1 39 k2) (g.1 40 k2) g) fun v10 g9 => some (v10, g9))
  else if (g.1 38 k2) = 20 then (s_b2 (fT_giveSome_22 (g.1 39 k2) (g.1 40 k2) (g.1 41 k2) (g.1 42 k2) g) fun v16 g15 => some (v16, g15))
  else if (g.1 38 k2) = 30 then (s_b2 (fT_putLogOn_22 g) fun v18 g17 => some (v18, g17))
  else if (g.1 38 k2) = 40 then (s_b2 (fT_rakeAshes_22 g) fun v20 g19 => some (v20, g19))
  else s_b2 (fB_liveDays_22 (g.1 42 k2) g) fun v23 g22 => some (v23, g22)
theorem fB_liveLine_37_22_s {x2 : Int32} {g : s_G} {z : Int32 × s_G} (hB : fB_liveLine_37_22 x2 g = some z) : s_Ev 4 s_m132 [.ref 37, .ref 22, .int x2] (s_hg g) (some (.int z.1)) (s_hg z.2) := by
  unfold fB_liveLine_37_22 at hB
  refine s_Ev.fin ((?_ : ∀ (v : Option Value) (h' : s_H), (fun (z : Int32 × s_G) (v : Option Value) (h' : s_H) => v = some (.int z.1) ∧ h' = s_hg z.2) z v h' → s_Fin 4 s_m132 (0, s_ent [.ref 37, .ref 22, .int x2] (s_m132).2.2.1, [], s_hg g) v h') _ _ ⟨rfl, rfl⟩)
  intro v h' hr
  refine (show s_Fin 4 s_m132 (0, [some (.ref 37), some (.ref 22), some (.int x2)], [], s_hg g) v h' from ?_)
  refine s_Fin.sg 3 (y := (5, [some (.ref 37), some (.ref 22), some (.int x2)], [.int x2, .ref 38], s_hg g)) rfl ?_
  obtain ⟨k2, hk2, hB⟩ := s_bd hB
  refine s_Fin.ix (n := 40) (i := x2) (pc1 := 6) (L1 := [some (.ref 37), some (.ref 22), some (.int x2)]) (fun j1 => [.int (g.1 38 j1)]) (fun j1 => s_hg g) hk2 rfl rfl ?_
  by_cases hc0 : (g.1 38 k2) = 0
  · rw [if_pos hc0] at hB
    refine s_Fin.nx (pc1 := 56) (L1 := [some (.ref 37), some (.ref 22), some (.int x2)]) (st1 := []) (h1 := s_hg g) (by rw [hc0]; exact rfl) rfl ?_
    refine s_Fin.sg 4 (y := (62, [some (.ref 37), some (.ref 22), some (.int x2)], [.int x2, .ref 39, .ref 22], s_hg g)) rfl ?_
    refine s_Fin.ix (n := 40) (i := x2) (pc1 := 63) (L1 := [some (.ref 37), some (.ref 22), some (.int x2)]) (fun j3 => [.int (g.1 39 j3), .ref 22]) (fun j3 => s_hg g) hk2 rfl rfl ?_
    refine s_Fin.sg 3 (y := (68, [some (.ref 37), some (.ref 22), some (.int x2)], [.int x2, .ref 40, .int (g.1 39 k2), .ref 22], s_hg g)) rfl ?_
    refine s_Fin.ix (n := 40) (i := x2) (pc1 := 69) (L1 := [some (.ref 37), some (.ref 22), some (.int x2)]) (fun j4 => [.int (g.1 40 j4), .int (g.1 39 k2), .ref 22]) (fun j4 => s_hg g) hk2 rfl rfl ?_
    obtain ⟨v6, g5, hp, hB⟩ := s_bd2 hB
    refine s_Fin.cl (d := 3) (q1 := s_m63) (md := 63) (vs := [.ref 22, .int (g.1 39 k2), .int (g.1 40 k2)]) (rest := []) (h1 := s_hg g5) (u := some (.int v6)) (s_Ev.up (by omega) (fT_tellEvent_22_s hp)) rfl rfl rfl rfl ?_
    have hB := Option.some.inj hB
    subst hB
    obtain ⟨rfl, rfl⟩ := hr
    exact s_Fin.rt rfl rfl
  rw [if_neg hc0] at hB
  by_cases hc10 : (g.1 38 k2) = 10
  · rw [if_pos hc10] at hB
    refine s_Fin.nx (pc1 := 73) (L1 := [some (.ref 37), some (.ref 22), some (.int x2)]) (st1 := []) (h1 := s_hg g) (by rw [hc10]; exact rfl) rfl ?_
    refine s_Fin.sg 4 (y := (79, [some (.ref 37), some (.ref 22), some (.int x2)], [.int x2, .ref 39, .ref 22], s_hg g)) rfl ?_
    refine s_Fin.ix (n := 40) (i := x2) (pc1 := 80) (L1 := [some (.ref 37), some (.ref 22), some (.int x2)]) (fun j7 => [.int (g.1 39 j7), .ref 22]) (fun j7 => s_hg g) hk2 rfl rfl ?_
    refine s_Fin.sg 3 (y := (85, [some (.ref 37), some (.ref 22), some (.int x2)], [.int x2, .ref 40, .int (g.1 39 k2), .ref 22], s_hg g)) rfl ?_
    refine s_Fin.ix (n := 40) (i := x2) (pc1 := 86) (L1 := [some (.ref 37), some (.ref 22), some (.int x2)]) (fun j8 => [.int (g.1 40 j8), .int (g.1 39 k2), .ref 22]) (fun j8 => s_hg g) hk2 rfl rfl ?_
    obtain ⟨v10, g9, hp, hB⟩ := s_bd2 hB
    refine s_Fin.cl (d := 3) (q1 := s_m71) (md := 71) (vs := [.ref 22, .int (g.1 39 k2), .int (g.1 40 k2)]) (rest := []) (h1 := s_hg g9) (u := some (.int v10)) (s_Ev.up (by omega) (fT_lieAbout_22_s hp)) rfl rfl rfl rfl ?_
    have hB := Option.some.inj hB
    subst hB
    obtain ⟨rfl, rfl⟩ := hr
    exact s_Fin.rt rfl rfl
  rw [if_neg hc10] at hB
  by_cases hc20 : (g.1 38 k2) = 20
  · rw [if_pos hc20] at hB
    refine s_Fin.nx (pc1 := 90) (L1 := [some (.ref 37), some (.ref 22), some (.int x2)]) (st1 := []) (h1 := s_hg g) (by rw [hc20]; exact rfl) rfl ?_
    refine s_Fin.sg 4 (y := (96, [some (.ref 37), some (.ref 22), some (.int x2)], [.int x2, .ref 39, .ref 22], s_hg g)) rfl ?_
    refine s_Fin.ix (n := 40) (i := x2) (pc1 := 97) (L1 := [some (.ref 37), some (.ref 22), some (.int x2)]) (fun j11 => [.int (g.1 39 j11), .ref 22]) (fun j11 => s_hg g) hk2 rfl rfl ?_
    refine s_Fin.sg 3 (y := (102, [some (.ref 37), some (.ref 22), some (.int x2)], [.int x2, .ref 40, .int (g.1 39 k2), .ref 22], s_hg g)) rfl ?_
    refine s_Fin.ix (n := 40) (i := x2) (pc1 := 103) (L1 := [some (.ref 37), some (.ref 22), some (.int x2)]) (fun j12 => [.int (g.1 40 j12), .int (g.1 39 k2), .ref 22]) (fun j12 => s_hg g) hk2 rfl rfl ?_
    refine s_Fin.sg 3 (y := (108, [some (.ref 37), some (.ref 22), some (.int x2)], [.int x2, .ref 41, .int (g.1 40 k2), .int (g.1 39 k2), .ref 22], s_hg g)) rfl ?_
    refine s_Fin.ix (n := 40) (i := x2) (pc1 := 109) (L1 := [some (.ref 37), some (.ref 22), some (.int x2)]) (fun j13 => [.int (g.1 41 j13), .int (g.1 40 k2), .int (g.1 39 k2), .ref 22]) (fun j13 => s_hg g) hk2 rfl rfl ?_
    refine s_Fin.sg 3 (y := (114, [some (.ref 37), some (.ref 22), some (.int x2)], [.int x2, .ref 42, .int (g.1 41 k2), .int (g.1 40 k2), .int (g.1 39 k2), .ref 22], s_hg g)) rfl ?_
    refine s_Fin.ix (n := 40) (i := x2) (pc1 := 115) (L1 := [some (.ref 37), some (.ref 22), some (.int x2)]) (fun j14 => [.int (g.1 42 j14), .int (g.1 41 k2), .int (g.1 40 k2), .int (g.1 39 k2), .ref 22]) (fun j14 => s_hg g) hk2 rfl rfl ?_
    obtain ⟨v16, g15, hp, hB⟩ := s_bd2 hB
    refine s_Fin.cl (d := 3) (q1 := s_m73) (md := 73) (vs := [.ref 22, .int (g.1 39 k2), .int (g.1 40 k2), .int (g.1 41 k2), .int (g.1 42 k2)]) (rest := []) (h1 := s_hg g15) (u := some (.int v16)) (s_Ev.up (by omega) (fT_giveSome_22_s hp)) rfl rfl rfl rfl ?_
    have hB := Option.some.inj hB
    subst hB
    obtain ⟨rfl, rfl⟩ := hr
    exact s_Fin.rt rfl rfl
  rw [if_neg hc20] at hB
  by_cases hc30 : (g.1 38 k2) = 30
  · rw [if_pos hc30] at hB
    refine s_Fin.nx (pc1 := 119) (L1 := [some (.ref 37), some (.ref 22), some (.int x2)]) (st1 := []) (h1 := s_hg g) (by rw [hc30]; exact rfl) rfl ?_
    refine s_Fin.sg 1 (y := (120, [some (.ref 37), some (.ref 22), some (.int x2)], [.ref 22], s_hg g)) rfl ?_
    obtain ⟨v18, g17, hp, hB⟩ := s_bd2 hB
    refine s_Fin.cl (d := 3) (q1 := s_m75) (md := 75) (vs := [.ref 22]) (rest := []) (h1 := s_hg g17) (u := some (.int v18)) (s_Ev.up (by omega) (fT_putLogOn_22_s hp)) rfl rfl rfl rfl ?_
    have hB := Option.some.inj hB
    subst hB
    obtain ⟨rfl, rfl⟩ := hr
    exact s_Fin.rt rfl rfl
  rw [if_neg hc30] at hB
  by_cases hc40 : (g.1 38 k2) = 40
  · rw [if_pos hc40] at hB
    refine s_Fin.nx (pc1 := 124) (L1 := [some (.ref 37), some (.ref 22), some (.int x2)]) (st1 := []) (h1 := s_hg g) (by rw [hc40]; exact rfl) rfl ?_
    refine s_Fin.sg 1 (y := (125, [some (.ref 37), some (.ref 22), some (.int x2)], [.ref 22], s_hg g)) rfl ?_
    obtain ⟨v20, g19, hp, hB⟩ := s_bd2 hB
    refine s_Fin.cl (d := 3) (q1 := s_m77) (md := 77) (vs := [.ref 22]) (rest := []) (h1 := s_hg g19) (u := some (.int v20)) (s_Ev.up (by omega) (fT_rakeAshes_22_s hp)) rfl rfl rfl rfl ?_
    have hB := Option.some.inj hB
    subst hB
    obtain ⟨rfl, rfl⟩ := hr
    exact s_Fin.rt rfl rfl
  rw [if_neg hc40] at hB
  refine s_Fin.nx (pc1 := 129) (L1 := [some (.ref 37), some (.ref 22), some (.int x2)]) (st1 := []) (h1 := s_hg g) ((show _ = s_ls (g.1 38 k2).toInt 6 [some (.ref 37), some (.ref 22), some (.int x2)] [] (s_hg g) 123 [(0, 50), (10, 67), (20, 84), (30, 113), (40, 118)] from rfl).trans (s_ls_ms ⟨s_tne hc0 (by decide), s_tne hc10 (by decide), s_tne hc20 (by decide), s_tne hc30 (by decide), s_tne hc40 (by decide), trivial⟩ (t := 129) rfl)) rfl ?_
  refine s_Fin.sg 4 (y := (135, [some (.ref 37), some (.ref 22), some (.int x2)], [.int x2, .ref 42, .ref 22], s_hg g)) rfl ?_
  refine s_Fin.ix (n := 40) (i := x2) (pc1 := 136) (L1 := [some (.ref 37), some (.ref 22), some (.int x2)]) (fun j21 => [.int (g.1 42 j21), .ref 22]) (fun j21 => s_hg g) hk2 rfl rfl ?_
  obtain ⟨v23, g22, hp, hB⟩ := s_bd2 hB
  refine s_Fin.cl (d := 3) (q1 := s_m133) (md := 133) (vs := [.ref 22, .int (g.1 42 k2)]) (rest := []) (h1 := s_hg g22) (u := some (.int v23)) (s_Ev.up (by omega) (fB_liveDays_22_s hp)) rfl rfl rfl rfl ?_
  have hB := Option.some.inj hB
  subst hB
  obtain ⟨rfl, rfl⟩ := hr
  exact s_Fin.rt rfl rfl
-- CampAshes$State.overBits
noncomputable def fT_overBits_22_4 (x1 : Int32) (x2 : Int32) (g : s_G) : Option ((Int32 × Int32) ⊕ (Int32)) :=
  if x2 < (g.1 3 0) then (s_b1 (fT_isOver_22 x2 g) fun v1 => if v1 = 0 then (some (.inl (x1, x2 + (1 : Int32))))
  else some (.inl (x1 ||| ((1 : Int32) <<< (x2 &&& 31)), x2 + (1 : Int32))))
  else s_in (some x1)
theorem fT_overBits_22_4_s {x1 : Int32} {x2 : Int32} {g : s_G} {z : (Int32 × Int32) ⊕ (Int32)} (hB : fT_overBits_22_4 x1 x2 g = some z) {v : Option Value} {h' : s_H} (hr : (s_sm (fun (x : Int32 × Int32) (v : Option Value) (h' : s_H) => s_Fin 1 s_m58 (4, [some (.ref 22), some (.int x.1), some (.int x.2)], [], s_hg g) v h') (fun (z : Int32) (v : Option Value) (h' : s_H) => v = some (.int z) ∧ h' = s_hg g)) z v h') : s_Fin 1 s_m58 (4, [some (.ref 22), some (.int x1), some (.int x2)], [], s_hg g) v h' := by
  unfold fT_overBits_22_4 at hB
  refine s_Fin.sg 4 (y := (12, [some (.ref 22), some (.int x1), some (.int x2)], [.int (g.1 3 0), .int x2], s_hg g)) rfl ?_
  by_cases hc : x2 < (g.1 3 0)
  · rw [if_pos hc] at hB
    refine s_Fin.bf (c := (g.1 3 0) ≤ x2) (tg := 35) (p2 := 12) (L1 := [some (.ref 22), some (.int x1), some (.int x2)]) (st1 := []) (Int32.not_le.mpr hc) rfl ?_
    refine s_Fin.sg 2 (y := (17, [some (.ref 22), some (.int x1), some (.int x2)], [.int x2, .ref 22], s_hg g)) rfl ?_
    obtain ⟨v1, hp, hB⟩ := s_bd hB
    refine s_Fin.cl (d := 0) (q1 := s_m59) (md := 59) (vs := [.ref 22, .int x2]) (rest := []) (h1 := s_hg g) (u := some (.int v1)) (s_Ev.up (by omega) (fT_isOver_22_s hp)) rfl rfl rfl rfl ?_
    by_cases hc : v1 = 0
    · rw [if_pos hc] at hB
      refine s_Fin.bt (c := v1 = 0) (tg := 29) (p2 := 20) (L1 := [some (.ref 22), some (.int x1), some (.int x2)]) (st1 := []) hc rfl ?_
      refine s_Fin.sg 2 (y := (4, [some (.ref 22), some (.int x1), some (.int (x2 + (1 : Int32)))], [], s_hg g)) rfl ?_
      have hB := Option.some.inj hB
      subst hB
      exact s_Fin.more (L := [some (.ref 22), some (.int x1), some (.int (x2 + (1 : Int32)))]) ⟨Or.inr rfl, Or.inr rfl, Or.inr rfl, trivial⟩ hr
    · rw [if_neg hc] at hB
      refine s_Fin.bf (c := v1 = 0) (tg := 29) (p2 := 20) (L1 := [some (.ref 22), some (.int x1), some (.int x2)]) (st1 := []) hc rfl ?_
      refine s_Fin.sg 8 (y := (4, [some (.ref 22), some (.int (x1 ||| ((1 : Int32) <<< (x2 &&& 31)))), some (.int (x2 + (1 : Int32)))], [], s_hg g)) rfl ?_
      have hB := Option.some.inj hB
      subst hB
      exact s_Fin.more (L := [some (.ref 22), some (.int (x1 ||| ((1 : Int32) <<< (x2 &&& 31)))), some (.int (x2 + (1 : Int32)))]) ⟨Or.inr rfl, Or.inr rfl, Or.inr rfl, trivial⟩ hr
  · rw [if_neg hc] at hB
    refine s_Fin.bt (c := (g.1 3 0) ≤ x2) (tg := 35) (p2 := 12) (L1 := [some (.ref 22), some (.int x1), some (.int x2)]) (st1 := []) (Int32.not_lt.mp hc) rfl ?_
    obtain ⟨_, hN, hz⟩ := s_in_of hB
    subst hz
    have hB := hN
    refine s_Fin.sg 1 (y := (36, [some (.ref 22), some (.int x1), some (.int x2)], [.int x1], s_hg g)) rfl ?_
    have hB := Option.some.inj hB
    subst hB
    obtain ⟨rfl, rfl⟩ := hr
    exact s_Fin.rt rfl rfl
noncomputable def fT_overBits_22 (g : s_G) : Option (Int32) :=
  s_lp (fun x => fT_overBits_22_4 x.1 x.2 g) ((0 : Int32), (0 : Int32))
theorem fT_overBits_22_s {g : s_G} {z : Int32} (hB : fT_overBits_22 g = some z) : s_Ev 1 s_m58 [.ref 22] (s_hg g) (some (.int z)) (s_hg g) := by
  unfold fT_overBits_22 at hB
  refine s_Ev.fin ((?_ : ∀ (v : Option Value) (h' : s_H), (fun (z : Int32) (v : Option Value) (h' : s_H) => v = some (.int z) ∧ h' = s_hg g) z v h' → s_Fin 1 s_m58 (0, s_ent [.ref 22] (s_m58).2.2.1, [], s_hg g) v h') _ _ ⟨rfl, rfl⟩)
  intro v h' hr
  refine (show s_Fin 1 s_m58 (0, [some (.ref 22), none, none], [], s_hg g) v h' from ?_)
  refine s_Fin.sg 4 (y := (4, [some (.ref 22), some (.int (0 : Int32)), some (.int (0 : Int32))], [], s_hg g)) rfl ?_
  exact s_Fin.more (L := [some (.ref 22), some (.int (0 : Int32)), some (.int (0 : Int32))]) ⟨Or.inr rfl, Or.inr rfl, Or.inr rfl, trivial⟩ (s_lp_s (P := (fun (x : Int32 × Int32) (v : Option Value) (h' : s_H) => s_Fin 1 s_m58 (4, [some (.ref 22), some (.int x.1), some (.int x.2)], [], s_hg g) v h')) (Q := (fun (z : Int32) (v : Option Value) (h' : s_H) => v = some (.int z) ∧ h' = s_hg g)) (fun x z hB v h' hr => fT_overBits_22_4_s hB hr) hB _ _ hr)
