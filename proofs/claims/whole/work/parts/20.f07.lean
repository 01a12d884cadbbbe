-- CampAshes$Camp.readLine
noncomputable def fP_readLine_10_1 (g : s_G) : Option (Int32 × s_G) :=
  s_b1 (fQ_isWord_1_1000 g) fun v1 => if v1 = 0 then (s_b1 (fQ_isWord_1_1001 g) fun v2 => if v2 = 0 then (s_b1 (fQ_isWord_1_1002 g) fun v3 => if v3 = 0 then (s_b2 (fP_readOnce_10_1 g) fun v5 g4 => if v5 = 0 ∨ v5 = 1 then some (v5, g4)
  else none)
  else s_b2 (fP_readTakes_10_1 g) fun v7 g6 => if v7 = 0 ∨ v7 = 1 then some (v7, g6)
  else none)
  else s_b2 (fP_readEvent_10_1 g) fun v9 g8 => if v9 = 0 ∨ v9 = 1 then some (v9, g8)
  else none)
  else s_b2 (fP_readBoy_10_1 g) fun v11 g10 => if v11 = 0 ∨ v11 = 1 then some (v11, g10)
  else none
theorem fP_readLine_10_1_s {g : s_G} {z : Int32 × s_G} (hB : fP_readLine_10_1 g = some z) : s_Ev 5 s_m27 [.ref 10, .ref 1] (s_hg g) (some (.int z.1)) (s_hg z.2) := by
  unfold fP_readLine_10_1 at hB
  refine s_Ev.fin ((?_ : ∀ (v : Option Value) (h' : s_H), (fun (z : Int32 × s_G) (v : Option Value) (h' : s_H) => v = some (.int z.1) ∧ h' = s_hg z.2) z v h' → s_Fin 5 s_m27 (0, s_ent [.ref 10, .ref 1] (s_m27).2.2.1, [], s_hg g) v h') _ _ ⟨rfl, rfl⟩)
  intro v h' hr
  refine (show s_Fin 5 s_m27 (0, [some (.ref 10), some (.ref 1)], [], s_hg g) v h' from ?_)
  refine s_Fin.sg 2 (y := (4, [some (.ref 10), some (.ref 1)], [.ref 1000, .ref 1], s_hg g)) rfl ?_
  obtain ⟨v1, hp, hB⟩ := s_bd hB
  refine s_Fin.cl (d := 4) (q1 := s_m28) (md := 28) (vs := [.ref 1, .ref 1000]) (rest := []) (h1 := s_hg g) (u := some (.int v1)) (s_Ev.up (by omega) (fQ_isWord_1_1000_s hp)) rfl rfl rfl rfl ?_
  by_cases hc : v1 = 0
  · rw [if_pos hc] at hB
    refine s_Fin.bt (c := v1 = 0) (tg := 16) (p2 := 7) (L1 := [some (.ref 10), some (.ref 1)]) (st1 := []) hc rfl ?_
    refine s_Fin.sg 2 (y := (20, [some (.ref 10), some (.ref 1)], [.ref 1001, .ref 1], s_hg g)) rfl ?_
    obtain ⟨v2, hp, hB⟩ := s_bd hB
    refine s_Fin.cl (d := 4) (q1 := s_m28) (md := 28) (vs := [.ref 1, .ref 1001]) (rest := []) (h1 := s_hg g) (u := some (.int v2)) (s_Ev.up (by omega) (fQ_isWord_1_1001_s hp)) rfl rfl rfl rfl ?_
    by_cases hc : v2 = 0
    · rw [if_pos hc] at hB
      refine s_Fin.bt (c := v2 = 0) (tg := 32) (p2 := 23) (L1 := [some (.ref 10), some (.ref 1)]) (st1 := []) hc rfl ?_
      refine s_Fin.sg 2 (y := (36, [some (.ref 10), some (.ref 1)], [.ref 1002, .ref 1], s_hg g)) rfl ?_
      obtain ⟨v3, hp, hB⟩ := s_bd hB
      refine s_Fin.cl (d := 4) (q1 := s_m28) (md := 28) (vs := [.ref 1, .ref 1002]) (rest := []) (h1 := s_hg g) (u := some (.int v3)) (s_Ev.up (by omega) (fQ_isWord_1_1002_s hp)) rfl rfl rfl rfl ?_
      by_cases hc : v3 = 0
      · rw [if_pos hc] at hB
        refine s_Fin.bt (c := v3 = 0) (tg := 48) (p2 := 39) (L1 := [some (.ref 10), some (.ref 1)]) (st1 := []) hc rfl ?_
        refine s_Fin.sg 2 (y := (50, [some (.ref 10), some (.ref 1)], [.ref 1, .ref 10], s_hg g)) rfl ?_
        obtain ⟨v5, g4, hp, hB⟩ := s_bd2 hB
        refine s_Fin.cl (d := 4) (q1 := s_m39) (md := 39) (vs := [.ref 10, .ref 1]) (rest := []) (h1 := s_hg g4) (u := some (.int v5)) (s_Ev.up (by omega) (fP_readOnce_10_1_s hp)) rfl rfl rfl rfl ?_
        have hc : v5 = 0 ∨ v5 = 1 := Classical.byContradiction fun h => (by rw [if_neg h] at hB; cases hB)
        rw [if_pos hc] at hB
        have hB := Option.some.inj hB
        subst hB
        obtain ⟨rfl, rfl⟩ := hr
        exact s_Fin.rt (by rcases hc with hc | hc <;> rw [hc] <;> exact rfl) rfl
      · rw [if_neg hc] at hB
        refine s_Fin.bf (c := v3 = 0) (tg := 48) (p2 := 39) (L1 := [some (.ref 10), some (.ref 1)]) (st1 := []) hc rfl ?_
        refine s_Fin.sg 2 (y := (44, [some (.ref 10), some (.ref 1)], [.ref 1, .ref 10], s_hg g)) rfl ?_
        obtain ⟨v7, g6, hp, hB⟩ := s_bd2 hB
        refine s_Fin.cl (d := 4) (q1 := s_m38) (md := 38) (vs := [.ref 10, .ref 1]) (rest := []) (h1 := s_hg g6) (u := some (.int v7)) (s_Ev.up (by omega) (fP_readTakes_10_1_s hp)) rfl rfl rfl rfl ?_
        have hc : v7 = 0 ∨ v7 = 1 := Classical.byContradiction fun h => (by rw [if_neg h] at hB; cases hB)
        rw [if_pos hc] at hB
        have hB := Option.some.inj hB
        subst hB
        obtain ⟨rfl, rfl⟩ := hr
        exact s_Fin.rt (by rcases hc with hc | hc <;> rw [hc] <;> exact rfl) rfl
    · rw [if_neg hc] at hB
      refine s_Fin.bf (c := v2 = 0) (tg := 32) (p2 := 23) (L1 := [some (.ref 10), some (.ref 1)]) (st1 := []) hc rfl ?_
      refine s_Fin.sg 2 (y := (28, [some (.ref 10), some (.ref 1)], [.ref 1, .ref 10], s_hg g)) rfl ?_
      obtain ⟨v9, g8, hp, hB⟩ := s_bd2 hB
      refine s_Fin.cl (d := 4) (q1 := s_m35) (md := 35) (vs := [.ref 10, .ref 1]) (rest := []) (h1 := s_hg g8) (u := some (.int v9)) (s_Ev.up (by omega) (fP_readEvent_10_1_s hp)) rfl rfl rfl rfl ?_
      have hc : v9 = 0 ∨ v9 = 1 := Classical.byContradiction fun h => (by rw [if_neg h] at hB; cases hB)
      rw [if_pos hc] at hB
      have hB := Option.some.inj hB
      subst hB
      obtain ⟨rfl, rfl⟩ := hr
      exact s_Fin.rt (by rcases hc with hc | hc <;> rw [hc] <;> exact rfl) rfl
  · rw [if_neg hc] at hB
    refine s_Fin.bf (c := v1 = 0) (tg := 16) (p2 := 7) (L1 := [some (.ref 10), some (.ref 1)]) (st1 := []) hc rfl ?_
    refine s_Fin.sg 2 (y := (12, [some (.ref 10), some (.ref 1)], [.ref 1, .ref 10], s_hg g)) rfl ?_
    obtain ⟨v11, g10, hp, hB⟩ := s_bd2 hB
    refine s_Fin.cl (d := 4) (q1 := s_m29) (md := 29) (vs := [.ref 10, .ref 1]) (rest := []) (h1 := s_hg g10) (u := some (.int v11)) (s_Ev.up (by omega) (fP_readBoy_10_1_s hp)) rfl rfl rfl rfl ?_
    have hc : v11 = 0 ∨ v11 = 1 := Classical.byContradiction fun h => (by rw [if_neg h] at hB; cases hB)
    rw [if_pos hc] at hB
    have hB := Option.some.inj hB
    subst hB
    obtain ⟨rfl, rfl⟩ := hr
    exact s_Fin.rt (by rcases hc with hc | hc <;> rw [hc] <;> exact rfl) rfl
-- CampAshes$Tape.isSign
noncomputable def fQ_isSign_1 (x1 : Int32) (g : s_G) : Option (Int32) :=
  if (g.1 1 5) = (5 : Int32) then (if (g.1 1 7) = x1 then (some (1 : Int32))
  else some (0 : Int32))
  else some (0 : Int32)
theorem fQ_isSign_1_s {x1 : Int32} {g : s_G} {z : Int32} (hB : fQ_isSign_1 x1 g = some z) : s_Ev 0 s_m42 [.ref 1, .int x1] (s_hg g) (some (.int z)) (s_hg g) := by
  unfold fQ_isSign_1 at hB
  refine s_Ev.fin ((?_ : ∀ (v : Option Value) (h' : s_H), (fun (z : Int32) (v : Option Value) (h' : s_H) => v = some (.int z) ∧ h' = s_hg g) z v h' → s_Fin 0 s_m42 (0, s_ent [.ref 1, .int x1] (s_m42).2.2.1, [], s_hg g) v h') _ _ ⟨rfl, rfl⟩)
  intro v h' hr
  refine (show s_Fin 0 s_m42 (0, [some (.ref 1), some (.int x1)], [], s_hg g) v h' from ?_)
  refine s_Fin.sg 3 (y := (5, [some (.ref 1), some (.int x1)], [.int (5 : Int32), .int (g.1 1 5)], s_hg g)) rfl ?_
  by_cases hc : (g.1 1 5) = (5 : Int32)
  · rw [if_pos hc] at hB
    refine s_Fin.bf (c := ¬ (g.1 1 5) = (5 : Int32)) (tg := 20) (p2 := 5) (L1 := [some (.ref 1), some (.int x1)]) (st1 := []) (fun h => h hc) rfl ?_
    refine s_Fin.sg 3 (y := (13, [some (.ref 1), some (.int x1)], [.int x1, .int (g.1 1 7)], s_hg g)) rfl ?_
    by_cases hc : (g.1 1 7) = x1
    · rw [if_pos hc] at hB
      refine s_Fin.bf (c := ¬ (g.1 1 7) = x1) (tg := 20) (p2 := 13) (L1 := [some (.ref 1), some (.int x1)]) (st1 := []) (fun h => h hc) rfl ?_
      refine s_Fin.sg 2 (y := (21, [some (.ref 1), some (.int x1)], [.int (1 : Int32)], s_hg g)) rfl ?_
      have hB := Option.some.inj hB
      subst hB
      obtain ⟨rfl, rfl⟩ := hr
      exact s_Fin.rt rfl rfl
    · rw [if_neg hc] at hB
      refine s_Fin.bt (c := ¬ (g.1 1 7) = x1) (tg := 20) (p2 := 13) (L1 := [some (.ref 1), some (.int x1)]) (st1 := []) hc rfl ?_
      refine s_Fin.sg 1 (y := (21, [some (.ref 1), some (.int x1)], [.int (0 : Int32)], s_hg g)) rfl ?_
      have hB := Option.some.inj hB
      subst hB
      obtain ⟨rfl, rfl⟩ := hr
      exact s_Fin.rt rfl rfl
  · rw [if_neg hc] at hB
    refine s_Fin.bt (c := ¬ (g.1 1 5) = (5 : Int32)) (tg := 20) (p2 := 5) (L1 := [some (.ref 1), some (.int x1)]) (st1 := []) hc rfl ?_
    refine s_Fin.sg 1 (y := (21, [some (.ref 1), some (.int x1)], [.int (0 : Int32)], s_hg g)) rfl ?_
    have hB := Option.some.inj hB
    subst hB
    obtain ⟨rfl, rfl⟩ := hr
    exact s_Fin.rt rfl rfl
-- CampAshes$Tape.passSign
noncomputable def fQ_passSign_1 (x1 : Int32) (g : s_G) : Option (Int32 × s_G) :=
  s_b1 (fQ_isSign_1 x1 g) fun v1 => if v1 = 0 then (s_b2 (fQ_fail_1 (1 : Int32) g) fun v3 g2 => if v3 = 0 ∨ v3 = 1 then some (v3, g2)
  else none)
  else s_b1 (fQ_next_1 g) fun g4 => some ((1 : Int32), g4)
theorem fQ_passSign_1_s {x1 : Int32} {g : s_G} {z : Int32 × s_G} (hB : fQ_passSign_1 x1 g = some z) : s_Ev 2 s_m41 [.ref 1, .int x1] (s_hg g) (some (.int z.1)) (s_hg z.2) := by
  unfold fQ_passSign_1 at hB
  refine s_Ev.fin ((?_ : ∀ (v : Option Value) (h' : s_H), (fun (z : Int32 × s_G) (v : Option Value) (h' : s_H) => v = some (.int z.1) ∧ h' = s_hg z.2) z v h' → s_Fin 2 s_m41 (0, s_ent [.ref 1, .int x1] (s_m41).2.2.1, [], s_hg g) v h') _ _ ⟨rfl, rfl⟩)
  intro v h' hr
  refine (show s_Fin 2 s_m41 (0, [some (.ref 1), some (.int x1)], [], s_hg g) v h' from ?_)
  refine s_Fin.sg 2 (y := (2, [some (.ref 1), some (.int x1)], [.int x1, .ref 1], s_hg g)) rfl ?_
  obtain ⟨v1, hp, hB⟩ := s_bd hB
  refine s_Fin.cl (d := 1) (q1 := s_m42) (md := 42) (vs := [.ref 1, .int x1]) (rest := []) (h1 := s_hg g) (u := some (.int v1)) (s_Ev.up (by omega) (fQ_isSign_1_s hp)) rfl rfl rfl rfl ?_
  by_cases hc : v1 = 0
  · rw [if_pos hc] at hB
    refine s_Fin.bf (c := ¬ v1 = 0) (tg := 14) (p2 := 5) (L1 := [some (.ref 1), some (.int x1)]) (st1 := []) (fun h => h hc) rfl ?_
    refine s_Fin.sg 2 (y := (10, [some (.ref 1), some (.int x1)], [.int (1 : Int32), .ref 1], s_hg g)) rfl ?_
    obtain ⟨v3, g2, hp, hB⟩ := s_bd2 hB
    refine s_Fin.cl (d := 1) (q1 := s_m30) (md := 30) (vs := [.ref 1, .int (1 : Int32)]) (rest := []) (h1 := s_hg g2) (u := some (.int v3)) (s_Ev.up (by omega) (fQ_fail_1_s hp)) rfl rfl rfl rfl ?_
    have hc : v3 = 0 ∨ v3 = 1 := Classical.byContradiction fun h => (by rw [if_neg h] at hB; cases hB)
    rw [if_pos hc] at hB
    have hB := Option.some.inj hB
    subst hB
    obtain ⟨rfl, rfl⟩ := hr
    exact s_Fin.rt (by rcases hc with hc | hc <;> rw [hc] <;> exact rfl) rfl
  · rw [if_neg hc] at hB
    refine s_Fin.bt (c := ¬ v1 = 0) (tg := 14) (p2 := 5) (L1 := [some (.ref 1), some (.int x1)]) (st1 := []) hc rfl ?_
    refine s_Fin.sg 1 (y := (15, [some (.ref 1), some (.int x1)], [.ref 1], s_hg g)) rfl ?_
    obtain ⟨g4, hp, hB⟩ := s_bd hB
    refine s_Fin.cl (d := 1) (q1 := s_m20) (md := 20) (vs := [.ref 1]) (rest := []) (h1 := s_hg g4) (u := none) (s_Ev.up (by omega) (fQ_next_1_s hp)) rfl rfl rfl rfl ?_
    refine s_Fin.sg 1 (y := (19, [some (.ref 1), some (.int x1)], [.int (1 : Int32)], s_hg g4)) rfl ?_
    have hB := Option.some.inj hB
    subst hB
    obtain ⟨rfl, rfl⟩ := hr
    exact s_Fin.rt rfl rfl
-- CampAshes$Camp.readText
noncomputable def fP_readText_10_1_6 (x2 : Int32) (g : s_G) : Option ((Int32 × s_G) ⊕ (Int32 × s_G)) :=
  if x2 < (940 : Int32) then (s_b1 (fQ_hasEnded_1 g) fun v2 => if v2 = 0 then (s_b2 (fP_readLine_10_1 g) fun v4 g3 => if v4 = 0 then (s_in (some ((-1 : Int32), g3)))
  else s_b2 (fQ_passSign_1 (59 : Int32) g3) fun v6 g5 => if v6 = 0 then (s_in (some ((-1 : Int32), g5)))
  else some (.inl (x2 + (1 : Int32), g5)))
  else s_in (some (x2, g)))
  else s_in (s_b2 (fQ_fail_1 (1 : Int32) g) fun v8 g7 => some ((-1 : Int32), g7))
theorem fP_readText_10_1_6_s {x2 : Int32} {g : s_G} {z : (Int32 × s_G) ⊕ (Int32 × s_G)} (hB : fP_readText_10_1_6 x2 g = some z) {v : Option Value} {h' : s_H} (hr : (s_sm (fun (x : Int32 × s_G) (v : Option Value) (h' : s_H) => s_Fin 6 s_m25 (6, [some (.ref 10), some (.ref 1), some (.int x.1)], [], s_hg x.2) v h') (fun (z : Int32 × s_G) (v : Option Value) (h' : s_H) => v = some (.int z.1) ∧ h' = s_hg z.2)) z v h') : s_Fin 6 s_m25 (6, [some (.ref 10), some (.ref 1), some (.int x2)], [], s_hg g) v h' := by
  unfold fP_readText_10_1_6 at hB
  refine s_Fin.sg 2 (y := (10, [some (.ref 10), some (.ref 1), some (.int x2)], [.int (940 : Int32), .int x2], s_hg g)) rfl ?_
  by_cases hc : x2 < (940 : Int32)
  · rw [if_pos hc] at hB
    refine s_Fin.bf (c := (940 : Int32) ≤ x2) (tg := 47) (p2 := 10) (L1 := [some (.ref 10), some (.ref 1), some (.int x2)]) (st1 := []) (Int32.not_le.mpr hc) rfl ?_
    refine s_Fin.sg 1 (y := (14, [some (.ref 10), some (.ref 1), some (.int x2)], [.ref 1], s_hg g)) rfl ?_
    obtain ⟨v2, hp, hB⟩ := s_bd hB
    refine s_Fin.cl (d := 5) (q1 := s_m26) (md := 26) (vs := [.ref 1]) (rest := []) (h1 := s_hg g) (u := some (.int v2)) (s_Ev.up (by omega) (fQ_hasEnded_1_s hp)) rfl rfl rfl rfl ?_
    by_cases hc : v2 = 0
    · rw [if_pos hc] at hB
      refine s_Fin.bt (c := v2 = 0) (tg := 22) (p2 := 17) (L1 := [some (.ref 10), some (.ref 1), some (.int x2)]) (st1 := []) hc rfl ?_
      refine s_Fin.sg 2 (y := (24, [some (.ref 10), some (.ref 1), some (.int x2)], [.ref 1, .ref 10], s_hg g)) rfl ?_
      obtain ⟨v4, g3, hp, hB⟩ := s_bd2 hB
      refine s_Fin.cl (d := 5) (q1 := s_m27) (md := 27) (vs := [.ref 10, .ref 1]) (rest := []) (h1 := s_hg g3) (u := some (.int v4)) (s_Ev.up (by omega) (fP_readLine_10_1_s hp)) rfl rfl rfl rfl ?_
      by_cases hc : v4 = 0
      · rw [if_pos hc] at hB
        refine s_Fin.bt (c := v4 = 0) (tg := 39) (p2 := 27) (L1 := [some (.ref 10), some (.ref 1), some (.int x2)]) (st1 := []) hc rfl ?_
        obtain ⟨_, hN, hz⟩ := s_in_of hB
        subst hz
        have hB := hN
        refine s_Fin.sg 1 (y := (40, [some (.ref 10), some (.ref 1), some (.int x2)], [.int (-1 : Int32)], s_hg g3)) rfl ?_
        have hB := Option.some.inj hB
        subst hB
        obtain ⟨rfl, rfl⟩ := hr
        exact s_Fin.rt rfl rfl
      · rw [if_neg hc] at hB
        refine s_Fin.bf (c := v4 = 0) (tg := 39) (p2 := 27) (L1 := [some (.ref 10), some (.ref 1), some (.int x2)]) (st1 := []) hc rfl ?_
        refine s_Fin.sg 2 (y := (33, [some (.ref 10), some (.ref 1), some (.int x2)], [.int (59 : Int32), .ref 1], s_hg g3)) rfl ?_
        obtain ⟨v6, g5, hp, hB⟩ := s_bd2 hB
        refine s_Fin.cl (d := 5) (q1 := s_m41) (md := 41) (vs := [.ref 1, .int (59 : Int32)]) (rest := []) (h1 := s_hg g5) (u := some (.int v6)) (s_Ev.up (by omega) (fQ_passSign_1_s hp)) rfl rfl rfl rfl ?_
        by_cases hc : v6 = 0
        · rw [if_pos hc] at hB
          refine s_Fin.bf (c := ¬ v6 = 0) (tg := 41) (p2 := 36) (L1 := [some (.ref 10), some (.ref 1), some (.int x2)]) (st1 := []) (fun h => h hc) rfl ?_
          obtain ⟨_, hN, hz⟩ := s_in_of hB
          subst hz
          have hB := hN
          refine s_Fin.sg 1 (y := (40, [some (.ref 10), some (.ref 1), some (.int x2)], [.int (-1 : Int32)], s_hg g5)) rfl ?_
          have hB := Option.some.inj hB
          subst hB
          obtain ⟨rfl, rfl⟩ := hr
          exact s_Fin.rt rfl rfl
        · rw [if_neg hc] at hB
          refine s_Fin.bt (c := ¬ v6 = 0) (tg := 41) (p2 := 36) (L1 := [some (.ref 10), some (.ref 1), some (.int x2)]) (st1 := []) hc rfl ?_
          refine s_Fin.sg 2 (y := (6, [some (.ref 10), some (.ref 1), some (.int (x2 + (1 : Int32)))], [], s_hg g5)) rfl ?_
          have hB := Option.some.inj hB
          subst hB
          exact s_Fin.more (L := [some (.ref 10), some (.ref 1), some (.int (x2 + (1 : Int32)))]) ⟨Or.inr rfl, Or.inr rfl, Or.inr rfl, trivial⟩ hr
    · rw [if_neg hc] at hB
      refine s_Fin.bf (c := v2 = 0) (tg := 22) (p2 := 17) (L1 := [some (.ref 10), some (.ref 1), some (.int x2)]) (st1 := []) hc rfl ?_
      obtain ⟨_, hN, hz⟩ := s_in_of hB
      subst hz
      have hB := hN
      refine s_Fin.sg 1 (y := (21, [some (.ref 10), some (.ref 1), some (.int x2)], [.int x2], s_hg g)) rfl ?_
      have hB := Option.some.inj hB
      subst hB
      obtain ⟨rfl, rfl⟩ := hr
      exact s_Fin.rt rfl rfl
  · rw [if_neg hc] at hB
    refine s_Fin.bt (c := (940 : Int32) ≤ x2) (tg := 47) (p2 := 10) (L1 := [some (.ref 10), some (.ref 1), some (.int x2)]) (st1 := []) (Int32.not_lt.mp hc) rfl ?_
    obtain ⟨_, hN, hz⟩ := s_in_of hB
    subst hz
    have hB := hN
    refine s_Fin.sg 2 (y := (49, [some (.ref 10), some (.ref 1), some (.int x2)], [.int (1 : Int32), .ref 1], s_hg g)) rfl ?_
    obtain ⟨v8, g7, hp, hB⟩ := s_bd2 hB
    refine s_Fin.cl (d := 5) (q1 := s_m30) (md := 30) (vs := [.ref 1, .int (1 : Int32)]) (rest := []) (h1 := s_hg g7) (u := some (.int v8)) (s_Ev.up (by omega) (fQ_fail_1_s hp)) rfl rfl rfl rfl ?_
    refine s_Fin.sg 2 (y := (54, [some (.ref 10), some (.ref 1), some (.int x2)], [.int (-1 : Int32)], s_hg g7)) rfl ?_
    have hB := Option.some.inj hB
    subst hB
    obtain ⟨rfl, rfl⟩ := hr
    exact s_Fin.rt rfl rfl
noncomputable def fP_readText_10_1 (g : s_G) : Option (Int32 × s_G) :=
  s_b1 (fP_clear_10 g) fun g1 => s_lp (fun x => fP_readText_10_1_6 x.1 x.2) ((0 : Int32), g1)
theorem fP_readText_10_1_s {g : s_G} {z : Int32 × s_G} (hB : fP_readText_10_1 g = some z) : s_Ev 6 s_m25 [.ref 10, .ref 1] (s_hg g) (some (.int z.1)) (s_hg z.2) := by
  unfold fP_readText_10_1 at hB
  refine s_Ev.fin ((?_ : ∀ (v : Option Value) (h' : s_H), (fun (z : Int32 × s_G) (v : Option Value) (h' : s_H) => v = some (.int z.1) ∧ h' = s_hg z.2) z v h' → s_Fin 6 s_m25 (0, s_ent [.ref 10, .ref 1] (s_m25).2.2.1, [], s_hg g) v h') _ _ ⟨rfl, rfl⟩)
  intro v h' hr
  refine (show s_Fin 6 s_m25 (0, [some (.ref 10), some (.ref 1), none], [], s_hg g) v h' from ?_)
  refine s_Fin.sg 1 (y := (1, [some (.ref 10), some (.ref 1), none], [.ref 10], s_hg g)) rfl ?_
  obtain ⟨g1, hp, hB⟩ := s_bd hB
  refine s_Fin.cl (d := 5) (q1 := s_m3) (md := 3) (vs := [.ref 10]) (rest := []) (h1 := s_hg g1) (u := none) (s_Ev.up (by omega) (fP_clear_10_s hp)) rfl rfl rfl rfl ?_
  refine s_Fin.sg 2 (y := (6, [some (.ref 10), some (.ref 1), some (.int (0 : Int32))], [], s_hg g1)) rfl ?_
  exact s_Fin.more (L := [some (.ref 10), some (.ref 1), some (.int (0 : Int32))]) ⟨Or.inr rfl, Or.inr rfl, Or.inr rfl, trivial⟩ (s_lp_s (P := (fun (x : Int32 × s_G) (v : Option Value) (h' : s_H) => s_Fin 6 s_m25 (6, [some (.ref 10), some (.ref 1), some (.int x.1)], [], s_hg x.2) v h')) (Q := (fun (z : Int32 × s_G) (v : Option Value) (h' : s_H) => v = some (.int z.1) ∧ h' = s_hg z.2)) (fun x z hB v h' hr => fP_readText_10_1_6_s hB hr) hB _ _ hr)
-- CampAshes$Camp.copyFrom
noncomputable def fP_copyFrom_3_10 (g : s_G) : Option (s_G) :=
  some (s_si (s_si (s_si (s_si (s_ci (s_ci (s_ci (s_ci (s_ci (s_cL (s_si (s_si g 3 0 (g.1 10 0)) 3 1 (g.1 10 1)) 11 4 0 0 17) 12 5 0 0 7) 13 6 0 0 10) 14 7 0 0 10) 15 8 0 0 10) 16 9 0 0 4) 3 8 (g.1 10 8)) 3 9 (g.1 10 9)) 3 10 (g.1 10 10)) 3 11 (g.1 10 11))
theorem fP_copyFrom_3_10_s {g : s_G} {z : s_G} (hB : fP_copyFrom_3_10 g = some z) : s_Ev 0 s_m43 [.ref 3, .ref 10] (s_hg g) (none) (s_hg z) := by
  unfold fP_copyFrom_3_10 at hB
  refine s_Ev.fin ((?_ : ∀ (v : Option Value) (h' : s_H), (fun (z : s_G) (v : Option Value) (h' : s_H) => v = none ∧ h' = s_hg z) z v h' → s_Fin 0 s_m43 (0, s_ent [.ref 3, .ref 10] (s_m43).2.2.1, [], s_hg g) v h') _ _ ⟨rfl, rfl⟩)
  intro v h' hr
  refine (show s_Fin 0 s_m43 (0, [some (.ref 3), some (.ref 10)], [], s_hg g) v h' from ?_)
  refine s_Fin.sg 72 (y := (137, [some (.ref 3), some (.ref 10)], [], s_hg (s_si (s_si (s_si (s_si (s_ci (s_ci (s_ci (s_ci (s_ci (s_cL (s_si (s_si g 3 0 (g.1 10 0)) 3 1 (g.1 10 1)) 11 4 0 0 17) 12 5 0 0 7) 13 6 0 0 10) 14 7 0 0 10) 15 8 0 0 10) 16 9 0 0 4) 3 8 (g.1 10 8)) 3 9 (g.1 10 9)) 3 10 (g.1 10 10)) 3 11 (g.1 10 11)))) rfl ?_
  have hB := Option.some.inj hB
  subst hB
  obtain ⟨rfl, rfl⟩ := hr
  exact s_Fin.rt rfl rfl
-- java/util/Arrays.fill
noncomputable def fJ_fill_18_5 (x1 : Int32) (x2 : Int32) (x3 : Int32) (g : s_G) : Option ((Int32 × s_G) ⊕ (s_G)) :=
  if x2 < x3 then (s_b1 (s_ix 70 x2) fun k2 => some (.inl (x2 + (1 : Int32), (s_si g 18 k2 x1))))
  else s_in (some g)
theorem fJ_fill_18_5_s {x1 : Int32} {x2 : Int32} {x3 : Int32} {g : s_G} {z : (Int32 × s_G) ⊕ (s_G)} (hB : fJ_fill_18_5 x1 x2 x3 g = some z) {v : Option Value} {h' : s_H} (hr : (s_sm (fun (x : Int32 × s_G) (v : Option Value) (h' : s_H) => s_Fin 0 s_m4 (5, [some (.ref 18), some (.int x1), some (.int x.1), some (.int x3)], [], s_hg x.2) v h') (fun (z : s_G) (v : Option Value) (h' : s_H) => v = none ∧ h' = s_hg z)) z v h') : s_Fin 0 s_m4 (5, [some (.ref 18), some (.int x1), some (.int x2), some (.int x3)], [], s_hg g) v h' := by
  unfold fJ_fill_18_5 at hB
  refine s_Fin.sg 2 (y := (7, [some (.ref 18), some (.int x1), some (.int x2), some (.int x3)], [.int x3, .int x2], s_hg g)) rfl ?_
  by_cases hc : x2 < x3
  · rw [if_pos hc] at hB
    refine s_Fin.bf (c := x3 ≤ x2) (tg := 20) (p2 := 7) (L1 := [some (.ref 18), some (.int x1), some (.int x2), some (.int x3)]) (st1 := []) (Int32.not_le.mpr hc) rfl ?_
    refine s_Fin.sg 3 (y := (13, [some (.ref 18), some (.int x1), some (.int x2), some (.int x3)], [.int x1, .int x2, .ref 18], s_hg g)) rfl ?_
    obtain ⟨k2, hk2, hB⟩ := s_bd hB
    refine s_Fin.ix (n := 70) (i := x2) (pc1 := 14) (L1 := [some (.ref 18), some (.int x1), some (.int x2), some (.int x3)]) (fun j1 => []) (fun j1 => s_hg (s_si g 18 j1 x1)) hk2 rfl rfl ?_
    refine s_Fin.sg 2 (y := (5, [some (.ref 18), some (.int x1), some (.int (x2 + (1 : Int32))), some (.int x3)], [], s_hg (s_si g 18 k2 x1))) rfl ?_
    have hB := Option.some.inj hB
    subst hB
    exact s_Fin.more (L := [some (.ref 18), some (.int x1), some (.int (x2 + (1 : Int32))), some (.int x3)]) ⟨Or.inr rfl, Or.inr rfl, Or.inr rfl, Or.inr rfl, trivial⟩ hr
  · rw [if_neg hc] at hB
    refine s_Fin.bt (c := x3 ≤ x2) (tg := 20) (p2 := 7) (L1 := [some (.ref 18), some (.int x1), some (.int x2), some (.int x3)]) (st1 := []) (Int32.not_lt.mp hc) rfl ?_
    obtain ⟨_, hN, hz⟩ := s_in_of hB
    subst hz
    have hB := hN
    have hB := Option.some.inj hB
    subst hB
    obtain ⟨rfl, rfl⟩ := hr
    exact s_Fin.rt rfl rfl
noncomputable def fJ_fill_18 (x1 : Int32) (g : s_G) : Option (s_G) :=
  s_lp (fun x => fJ_fill_18_5 x1 x.1 (70 : Int32) x.2) ((0 : Int32), g)
theorem fJ_fill_18_s {x1 : Int32} {g : s_G} {z : s_G} (hB : fJ_fill_18 x1 g = some z) : s_Ev 0 s_m4 [.ref 18, .int x1] (s_hg g) (none) (s_hg z) := by
  unfold fJ_fill_18 at hB
  refine s_Ev.fin ((?_ : ∀ (v : Option Value) (h' : s_H), (fun (z : s_G) (v : Option Value) (h' : s_H) => v = none ∧ h' = s_hg z) z v h' → s_Fin 0 s_m4 (0, s_ent [.ref 18, .int x1] (s_m4).2.2.1, [], s_hg g) v h') _ _ ⟨rfl, rfl⟩)
  intro v h' hr
  refine (show s_Fin 0 s_m4 (0, [some (.ref 18), some (.int x1), none, none], [], s_hg g) v h' from ?_)
  refine s_Fin.sg 5 (y := (5, [some (.ref 18), some (.int x1), some (.int (0 : Int32)), some (.int (70 : Int32))], [], s_hg g)) rfl ?_
  exact s_Fin.more (L := [some (.ref 18), some (.int x1), some (.int (0 : Int32)), some (.int (70 : Int32))]) ⟨Or.inr rfl, Or.inr rfl, Or.inr rfl, Or.inr rfl, trivial⟩ (s_lp_s (P := (fun (x : Int32 × s_G) (v : Option Value) (h' : s_H) => s_Fin 0 s_m4 (5, [some (.ref 18), some (.int x1), some (.int x.1), some (.int (70 : Int32))], [], s_hg x.2) v h')) (Q := (fun (z : s_G) (v : Option Value) (h' : s_H) => v = none ∧ h' = s_hg z)) (fun x z hB v h' hr => fJ_fill_18_5_s hB hr) hB _ _ hr)
-- java/util/Arrays.fill
noncomputable def fJ_fill_19_5 (x1 : Int32) (x2 : Int32) (x3 : Int32) (g : s_G) : Option ((Int32 × s_G) ⊕ (s_G)) :=
  if x2 < x3 then (s_b1 (s_ix 7 x2) fun k2 => some (.inl (x2 + (1 : Int32), (s_si g 19 k2 x1))))
  else s_in (some g)
theorem fJ_fill_19_5_s {x1 : Int32} {x2 : Int32} {x3 : Int32} {g : s_G} {z : (Int32 × s_G) ⊕ (s_G)} (hB : fJ_fill_19_5 x1 x2 x3 g = some z) {v : Option Value} {h' : s_H} (hr : (s_sm (fun (x : Int32 × s_G) (v : Option Value) (h' : s_H) => s_Fin 0 s_m4 (5, [some (.ref 19), some (.int x1), some (.int x.1), some (.int x3)], [], s_hg x.2) v h') (fun (z : s_G) (v : Option Value) (h' : s_H) => v = none ∧ h' = s_hg z)) z v h') : s_Fin 0 s_m4 (5, [some (.ref 19), some (.int x1), some (.int x2), some (.int x3)], [], s_hg g) v h' := by
  unfold fJ_fill_19_5 at hB
  refine s_Fin.sg 2 (y := (7, [some (.ref 19), some (.int x1), some (.int x2), some (.int x3)], [.int x3, .int x2], s_hg g)) rfl ?_
  by_cases hc : x2 < x3
  · rw [if_pos hc] at hB
    refine s_Fin.bf (c := x3 ≤ x2) (tg := 20) (p2 := 7) (L1 := [some (.ref 19), some (.int x1), some (.int x2), some (.int x3)]) (st1 := []) (Int32.not_le.mpr hc) rfl ?_
    refine s_Fin.sg 3 (y := (13, [some (.ref 19), some (.int x1), some (.int x2), some (.int x3)], [.int x1, .int x2, .ref 19], s_hg g)) rfl ?_
    obtain ⟨k2, hk2, hB⟩ := s_bd hB
    refine s_Fin.ix (n := 7) (i := x2) (pc1 := 14) (L1 := [some (.ref 19), some (.int x1), some (.int x2), some (.int x3)]) (fun j1 => []) (fun j1 => s_hg (s_si g 19 j1 x1)) hk2 rfl rfl ?_
    refine s_Fin.sg 2 (y := (5, [some (.ref 19), some (.int x1), some (.int (x2 + (1 : Int32))), some (.int x3)], [], s_hg (s_si g 19 k2 x1))) rfl ?_
    have hB := Option.some.inj hB
    subst hB
    exact s_Fin.more (L := [some (.ref 19), some (.int x1), some (.int (x2 + (1 : Int32))), some (.int x3)]) ⟨Or.inr rfl, Or.inr rfl, Or.inr rfl, Or.inr rfl, trivial⟩ hr
  · rw [if_neg hc] at hB
    refine s_Fin.bt (c := x3 ≤ x2) (tg := 20) (p2 := 7) (L1 := [some (.ref 19), some (.int x1), some (.int x2), some (.int x3)]) (st1 := []) (Int32.not_lt.mp hc) rfl ?_
    obtain ⟨_, hN, hz⟩ := s_in_of hB
    subst hz
    have hB := hN
    have hB := Option.some.inj hB
    subst hB
    obtain ⟨rfl, rfl⟩ := hr
    exact s_Fin.rt rfl rfl
noncomputable def fJ_fill_19 (x1 : Int32) (g : s_G) : Option (s_G) :=
  s_lp (fun x => fJ_fill_19_5 x1 x.1 (7 : Int32) x.2) ((0 : Int32), g)
theorem fJ_fill_19_s {x1 : Int32} {g : s_G} {z : s_G} (hB : fJ_fill_19 x1 g = some z) : s_Ev 0 s_m4 [.ref 19, .int x1] (s_hg g) (none) (s_hg z) := by
  unfold fJ_fill_19 at hB
  refine s_Ev.fin ((?_ : ∀ (v : Option Value) (h' : s_H), (fun (z : s_G) (v : Option Value) (h' : s_H) => v = none ∧ h' = s_hg z) z v h' → s_Fin 0 s_m4 (0, s_ent [.ref 19, .int x1] (s_m4).2.2.1, [], s_hg g) v h') _ _ ⟨rfl, rfl⟩)
  intro v h' hr
  refine (show s_Fin 0 s_m4 (0, [some (.ref 19), some (.int x1), none, none], [], s_hg g) v h' from ?_)
  refine s_Fin.sg 5 (y := (5, [some (.ref 19), some (.int x1), some (.int (0 : Int32)), some (.int (7 : Int32))], [], s_hg g)) rfl ?_
  exact s_Fin.more (L := [some (.ref 19), some (.int x1), some (.int (0 : Int32)), some (.int (7 : Int32))]) ⟨Or.inr rfl, Or.inr rfl, Or.inr rfl, Or.inr rfl, trivial⟩ (s_lp_s (P := (fun (x : Int32 × s_G) (v : Option Value) (h' : s_H) => s_Fin 0 s_m4 (5, [some (.ref 19), some (.int x1), some (.int x.1), some (.int (7 : Int32))], [], s_hg x.2) v h')) (Q := (fun (z : s_G) (v : Option Value) (h' : s_H) => v = none ∧ h' = s_hg z)) (fun x z hB v h' hr => fJ_fill_19_5_s hB hr) hB _ _ hr)
-- java/util/Arrays.fill
noncomputable def fJ_fill_20_5 (x1 : Int32) (x2 : Int32) (x3 : Int32) (g : s_G) : Option ((Int32 × s_G) ⊕ (s_G)) :=
  if x2 < x3 then (s_b1 (s_ix 4 x2) fun k2 => some (.inl (x2 + (1 : Int32), (s_si g 20 k2 x1))))
  else s_in (some g)
theorem fJ_fill_20_5_s {x1 : Int32} {x2 : Int32} {x3 : Int32} {g : s_G} {z : (Int32 × s_G) ⊕ (s_G)} (hB : fJ_fill_20_5 x1 x2 x3 g = some z) {v : Option Value} {h' : s_H} (hr : (s_sm (fun (x : Int32 × s_G) (v : Option Value) (h' : s_H) => s_Fin 0 s_m4 (5, [some (.ref 20), some (.int x1), some (.int x.1), some (.int x3)], [], s_hg x.2) v h') (fun (z : s_G) (v : Option Value) (h' : s_H) => v = none ∧ h' = s_hg z)) z v h') : s_Fin 0 s_m4 (5, [some (.ref 20), some (.int x1), some (.int x2), some (.int x3)], [], s_hg g) v h' := by
  unfold fJ_fill_20_5 at hB
  refine s_Fin.sg 2 (y := (7, [some (.ref 20), some (.int x1), some (.int x2), some (.int x3)], [.int x3, .int x2], s_hg g)) rfl ?_
  by_cases hc : x2 < x3
  · rw [if_pos hc] at hB
    refine s_Fin.bf (c := x3 ≤ x2) (tg := 20) (p2 := 7) (L1 := [some (.ref 20), some (.int x1), some (.int x2), some (.int x3)]) (st1 := []) (Int32.not_le.mpr hc) rfl ?_
    refine s_Fin.sg 3 (y := (13, [some (.ref 20), some (.int x1), some (.int x2), some (.int x3)], [.int x1, .int x2, .ref 20], s_hg g)) rfl ?_
    obtain ⟨k2, hk2, hB⟩ := s_bd hB
    refine s_Fin.ix (n := 4) (i := x2) (pc1 := 14) (L1 := [some (.ref 20), some (.int x1), some (.int x2), some (.int x3)]) (fun j1 => []) (fun j1 => s_hg (s_si g 20 j1 x1)) hk2 rfl rfl ?_
    refine s_Fin.sg 2 (y := (5, [some (.ref 20), some (.int x1), some (.int (x2 + (1 : Int32))), some (.int x3)], [], s_hg (s_si g 20 k2 x1))) rfl ?_
    have hB := Option.some.inj hB
    subst hB
    exact s_Fin.more (L := [some (.ref 20), some (.int x1), some (.int (x2 + (1 : Int32))), some (.int x3)]) ⟨Or.inr rfl, Or.inr rfl, Or.inr rfl, Or.inr rfl, trivial⟩ hr
  · rw [if_neg hc] at hB
    refine s_Fin.bt (c := x3 ≤ x2) (tg := 20) (p2 := 7) (L1 := [some (.ref 20), some (.int x1), some (.int x2), some (.int x3)]) (st1 := []) (Int32.not_lt.mp hc) rfl ?_
    obtain ⟨_, hN, hz⟩ := s_in_of hB
    subst hz
    have hB := hN
    have hB := Option.some.inj hB
    subst hB
    obtain ⟨rfl, rfl⟩ := hr
    exact s_Fin.rt rfl rfl
noncomputable def fJ_fill_20 (x1 : Int32) (g : s_G) : Option (s_G) :=
  s_lp (fun x => fJ_fill_20_5 x1 x.1 (4 : Int32) x.2) ((0 : Int32), g)
theorem fJ_fill_20_s {x1 : Int32} {g : s_G} {z : s_G} (hB : fJ_fill_20 x1 g = some z) : s_Ev 0 s_m4 [.ref 20, .int x1] (s_hg g) (none) (s_hg z) := by
  unfold fJ_fill_20 at hB
  refine s_Ev.fin ((?_ : ∀ (v : Option Value) (h' : s_H), (fun (z : s_G) (v : Option Value) (h' : s_H) => v = none ∧ h' = s_hg z) z v h' → s_Fin 0 s_m4 (0, s_ent [.ref 20, .int x1] (s_m4).2.2.1, [], s_hg g) v h') _ _ ⟨rfl, rfl⟩)
  intro v h' hr
  refine (show s_Fin 0 s_m4 (0, [some (.ref 20), some (.int x1), none, none], [], s_hg g) v h' from ?_)
  refine s_Fin.sg 5 (y := (5, [some (.ref 20), some (.int x1), some (.int (0 : Int32)), some (.int (4 : Int32))], [], s_hg g)) rfl ?_
  exact s_Fin.more (L := [some (.ref 20), some (.int x1), some (.int (0 : Int32)), some (.int (4 : Int32))]) ⟨Or.inr rfl, Or.inr rfl, Or.inr rfl, Or.inr rfl, trivial⟩ (s_lp_s (P := (fun (x : Int32 × s_G) (v : Option Value) (h' : s_H) => s_Fin 0 s_m4 (5, [some (.ref 20), some (.int x1), some (.int x.1), some (.int (4 : Int32))], [], s_hg x.2) v h')) (Q := (fun (z : s_G) (v : Option Value) (h' : s_H) => v = none ∧ h' = s_hg z)) (fun x z hB v h' hr => fJ_fill_20_5_s hB hr) hB _ _ hr)
-- java/util/Arrays.fill
noncomputable def fJ_fill_21_5 (x1 : Int32) (x2 : Int32) (x3 : Int32) (g : s_G) : Option ((Int32 × s_G) ⊕ (s_G)) :=
  if x2 < x3 then (s_b1 (s_ix 7 x2) fun k2 => some (.inl (x2 + (1 : Int32), (s_si g 21 k2 x1))))
  else s_in (some g)
theorem fJ_fill_21_5_s {x1 : Int32} {x2 : Int32} {x3 : Int32} {g : s_G} {z : (Int32 × s_G) ⊕ (s_G)} (hB : fJ_fill_21_5 x1 x2 x3 g = some z) {v : Option Value} {h' : s_H} (hr : (s_sm (fun (x : Int32 × s_G) (v : Option Value) (h' : s_H) => s_Fin 0 s_m4 (5, [some (.ref 21), some (.int x1), some (.int x.1), some (.int x3)], [], s_hg x.2) v h') (fun (z : s_G) (v : Option Value) (h' : s_H) => v = none ∧ h' = s_hg z)) z v h') : s_Fin 0 s_m4 (5, [some (.ref 21), some (.int x1), some (.int x2), some (.int x3)], [], s_hg g) v h' := by
  unfold fJ_fill_21_5 at hB
  refine s_Fin.sg 2 (y := (7, [some (.ref 21), some (.int x1), some (.int x2), some (.int x3)], [.int x3, .int x2], s_hg g)) rfl ?_
  by_cases hc : x2 < x3
  · rw [if_pos hc] at hB
    refine s_Fin.bf (c := x3 ≤ x2) (tg := 20) (p2 := 7) (L1 := [some (.ref 21), some (.int x1), some (.int x2), some (.int x3)]) (st1 := []) (Int32.not_le.mpr hc) rfl ?_
    refine s_Fin.sg 3 (y := (13, [some (.ref 21), some (.int x1), some (.int x2), some (.int x3)], [.int x1, .int x2, .ref 21], s_hg g)) rfl ?_
    obtain ⟨k2, hk2, hB⟩ := s_bd hB
    refine s_Fin.ix (n := 7) (i := x2) (pc1 := 14) (L1 := [some (.ref 21), some (.int x1), some (.int x2), some (.int x3)]) (fun j1 => []) (fun j1 => s_hg (s_si g 21 j1 x1)) hk2 rfl rfl ?_
    refine s_Fin.sg 2 (y := (5, [some (.ref 21), some (.int x1), some (.int (x2 + (1 : Int32))), some (.int x3)], [], s_hg (s_si g 21 k2 x1))) rfl ?_
    have hB := Option.some.inj hB
    subst hB
    exact s_Fin.more (L := [some (.ref 21), some (.int x1), some (.int (x2 + (1 : Int32))), some (.int x3)]) ⟨Or.inr rfl, Or.inr rfl, Or.inr rfl, Or.inr rfl, trivial⟩ hr
  · rw [if_neg hc] at hB
    refine s_Fin.bt (c := x3 ≤ x2) (tg := 20) (p2 := 7) (L1 := [some (.ref 21), some (.int x1), some (.int x2), some (.int x3)]) (st1 := []) (Int32.not_lt.mp hc) rfl ?_
    obtain ⟨_, hN, hz⟩ := s_in_of hB
    subst hz
    have hB := hN
    have hB := Option.some.inj hB
    subst hB
    obtain ⟨rfl, rfl⟩ := hr
    exact s_Fin.rt rfl rfl
noncomputable def fJ_fill_21 (x1 : Int32) (g : s_G) : Option (s_G) :=
  s_lp (fun x => fJ_fill_21_5 x1 x.1 (7 : Int32) x.2) ((0 : Int32), g)
theorem fJ_fill_21_s {x1 : Int32} {g : s_G} {z : s_G} (hB : fJ_fill_21 x1 g = some z) : s_Ev 0 s_m4 [.ref 21, .int x1] (s_hg g) (none) (s_hg z) := by
  unfold fJ_fill_21 at hB
  refine s_Ev.fin ((?_ : ∀ (v : Option Value) (h' : s_H), (fun (z : s_G) (v : Option Value) (h' : s_H) => v = none ∧ h' = s_hg z) z v h' → s_Fin 0 s_m4 (0, s_ent [.ref 21, .int x1] (s_m4).2.2.1, [], s_hg g) v h') _ _ ⟨rfl, rfl⟩)
  intro v h' hr
  refine (show s_Fin 0 s_m4 (0, [some (.ref 21), some (.int x1), none, none], [], s_hg g) v h' from ?_)
  refine s_Fin.sg 5 (y := (5, [some (.ref 21), some (.int x1), some (.int (0 : Int32)), some (.int (7 : Int32))], [], s_hg g)) rfl ?_
  exact s_Fin.more (L := [some (.ref 21), some (.int x1), some (.int (0 : Int32)), some (.int (7 : Int32))]) ⟨Or.inr rfl, Or.inr rfl, Or.inr rfl, Or.inr rfl, trivial⟩ (s_lp_s (P := (fun (x : Int32 × s_G) (v : Option Value) (h' : s_H) => s_Fin 0 s_m4 (5, [some (.ref 21), some (.int x1), some (.int x.1), some (.int (7 : Int32))], [], s_hg x.2) v h')) (Q := (fun (z : s_G) (v : Option Value) (h' : s_H) => v = none ∧ h' = s_hg z)) (fun x z hB v h' hr => fJ_fill_21_5_s hB hr) hB _ _ hr)
-- CampAshes$State.putOn
noncomputable def fT_putOn_17 (x1 : Int32) (x2 : Int32) (x3 : Int32) (g : s_G) : Option (s_G) :=
  s_b1 (s_ix 70 ((x1 * (7 : Int32)) + x2)) fun k2 => s_b1 (s_ix 7 x2) fun k5 => some (s_si (s_si g 18 k2 ((g.1 18 k2) + x3)) 19 k5 ((g.1 19 k5) + x3))
theorem fT_putOn_17_s {x1 : Int32} {x2 : Int32} {x3 : Int32} {g : s_G} {z : s_G} (hB : fT_putOn_17 x1 x2 x3 g = some z) : s_Ev 0 s_m14 [.ref 17, .int x1, .int x2, .int x3] (s_hg g) (none) (s_hg z) := by
  unfold fT_putOn_17 at hB
  refine s_Ev.fin ((?_ : ∀ (v : Option Value) (h' : s_H), (fun (z : s_G) (v : Option Value) (h' : s_H) => v = none ∧ h' = s_hg z) z v h' → s_Fin 0 s_m14 (0, s_ent [.ref 17, .int x1, .int x2, .int x3] (s_m14).2.2.1, [], s_hg g) v h') _ _ ⟨rfl, rfl⟩)
  intro v h' hr
  refine (show s_Fin 0 s_m14 (0, [some (.ref 17), some (.int x1), some (.int x2), some (.int x3)], [], s_hg g) v h' from ?_)
  refine s_Fin.sg 8 (y := (11, [some (.ref 17), some (.int x1), some (.int x2), some (.int x3)], [.int ((x1 * (7 : Int32)) + x2), .ref 18, .int ((x1 * (7 : Int32)) + x2), .ref 18], s_hg g)) rfl ?_
  obtain ⟨k2, hk2, hB⟩ := s_bd hB
  refine s_Fin.ix (n := 70) (i := (x1 * (7 : Int32)) + x2) (pc1 := 12) (L1 := [some (.ref 17), some (.int x1), some (.int x2), some (.int x3)]) (fun j1 => [.int (g.1 18 j1), .int ((x1 * (7 : Int32)) + x2), .ref 18]) (fun j1 => s_hg g) hk2 rfl rfl ?_
  refine s_Fin.sg 2 (y := (14, [some (.ref 17), some (.int x1), some (.int x2), some (.int x3)], [.int ((g.1 18 k2) + x3), .int ((x1 * (7 : Int32)) + x2), .ref 18], s_hg g)) rfl ?_
  refine s_Fin.ix (n := 70) (i := (x1 * (7 : Int32)) + x2) (pc1 := 15) (L1 := [some (.ref 17), some (.int x1), some (.int x2), some (.int x3)]) (fun j3 => []) (fun j3 => s_hg (s_si g 18 j3 ((g.1 18 k2) + x3))) hk2 rfl rfl ?_
  refine s_Fin.sg 4 (y := (21, [some (.ref 17), some (.int x1), some (.int x2), some (.int x3)], [.int x2, .ref 19, .int x2, .ref 19], s_hg (s_si g 18 k2 ((g.1 18 k2) + x3)))) rfl ?_
  obtain ⟨k5, hk5, hB⟩ := s_bd hB
  refine s_Fin.ix (n := 7) (i := x2) (pc1 := 22) (L1 := [some (.ref 17), some (.int x1), some (.int x2), some (.int x3)]) (fun j4 => [.int (g.1 19 j4), .int x2, .ref 19]) (fun j4 => s_hg (s_si g 18 k2 ((g.1 18 k2) + x3))) hk5 rfl rfl ?_
  refine s_Fin.sg 2 (y := (24, [some (.ref 17), some (.int x1), some (.int x2), some (.int x3)], [.int ((g.1 19 k5) + x3), .int x2, .ref 19], s_hg (s_si g 18 k2 ((g.1 18 k2) + x3)))) rfl ?_
  refine s_Fin.ix (n := 7) (i := x2) (pc1 := 25) (L1 := [some (.ref 17), some (.int x1), some (.int x2), some (.int x3)]) (fun j6 => []) (fun j6 => s_hg (s_si (s_si g 18 k2 ((g.1 18 k2) + x3)) 19 j6 ((g.1 19 k5) + x3))) hk5 rfl rfl ?_
  have hB := Option.some.inj hB
  subst hB
  obtain ⟨rfl, rfl⟩ := hr
  exact s_Fin.rt rfl rfl
-- CampAshes$State.begin
noncomputable def fT_begin_17_71 (x1 : Int32) (g : s_G) : Option ((Int32 × s_G) ⊕ (s_G)) :=
  if x1 < (g.1 3 1) then (s_b1 (s_ix 10 x1) fun k6 => s_b1 (fT_putOn_17 x1 (g.1 6 k6) (g.1 8 k6) g) fun g8 => some (.inl (x1 + (1 : Int32), g8)))
  else s_in (some g)
theorem fT_begin_17_71_s {x1 : Int32} {g : s_G} {z : (Int32 × s_G) ⊕ (s_G)} (hB : fT_begin_17_71 x1 g = some z) {v : Option Value} {h' : s_H} (hr : (s_sm (fun (x : Int32 × s_G) (v : Option Value) (h' : s_H) => s_Fin 1 s_m13 (71, [some (.ref 17), some (.int x.1)], [], s_hg x.2) v h') (fun (z : s_G) (v : Option Value) (h' : s_H) => v = none ∧ h' = s_hg z)) z v h') : s_Fin 1 s_m13 (71, [some (.ref 17), some (.int x1)], [], s_hg g) v h' := by
  unfold fT_begin_17_71 at hB
  refine s_Fin.sg 4 (y := (79, [some (.ref 17), some (.int x1)], [.int (g.1 3 1), .int x1], s_hg g)) rfl ?_
  by_cases hc : x1 < (g.1 3 1)
  · rw [if_pos hc] at hB
    refine s_Fin.bf (c := (g.1 3 1) ≤ x1) (tg := 111) (p2 := 79) (L1 := [some (.ref 17), some (.int x1)]) (st1 := []) (Int32.not_le.mpr hc) rfl ?_
    refine s_Fin.sg 6 (y := (92, [some (.ref 17), some (.int x1)], [.int x1, .ref 6, .int x1, .ref 17], s_hg g)) rfl ?_
    obtain ⟨k6, hk6, hB⟩ := s_bd hB
    refine s_Fin.ix (n := 10) (i := x1) (pc1 := 93) (L1 := [some (.ref 17), some (.int x1)]) (fun j5 => [.int (g.1 6 j5), .int x1, .ref 17]) (fun j5 => s_hg g) hk6 rfl rfl ?_
    refine s_Fin.sg 4 (y := (101, [some (.ref 17), some (.int x1)], [.int x1, .ref 8, .int (g.1 6 k6), .int x1, .ref 17], s_hg g)) rfl ?_
    refine s_Fin.ix (n := 10) (i := x1) (pc1 := 102) (L1 := [some (.ref 17), some (.int x1)]) (fun j7 => [.int (g.1 8 j7), .int (g.1 6 k6), .int x1, .ref 17]) (fun j7 => s_hg g) hk6 rfl rfl ?_
    obtain ⟨g8, hp, hB⟩ := s_bd hB
    refine s_Fin.cl (d := 0) (q1 := s_m14) (md := 14) (vs := [.ref 17, .int x1, .int (g.1 6 k6), .int (g.1 8 k6)]) (rest := []) (h1 := s_hg g8) (u := none) (s_Ev.up (by omega) (fT_putOn_17_s hp)) rfl rfl rfl rfl ?_
    refine s_Fin.sg 2 (y := (71, [some (.ref 17), some (.int (x1 + (1 : Int32)))], [], s_hg g8)) rfl ?_
    have hB := Option.some.inj hB
    subst hB
    exact s_Fin.more (L := [some (.ref 17), some (.int (x1 + (1 : Int32)))]) ⟨Or.inr rfl, Or.inr rfl, trivial⟩ hr
  · rw [if_neg hc] at hB
    refine s_Fin.bt (c := (g.1 3 1) ≤ x1) (tg := 111) (p2 := 79) (L1 := [some (.ref 17), some (.int x1)]) (st1 := []) (Int32.not_lt.mp hc) rfl ?_
    obtain ⟨_, hN, hz⟩ := s_in_of hB
    subst hz
    have hB := hN
    have hB := Option.some.inj hB
    subst hB
    obtain ⟨rfl, rfl⟩ := hr
    exact s_Fin.rt rfl rfl
noncomputable def fT_begin_17 (g : s_G) : Option (s_G) :=
  s_b1 (fJ_fill_18 (0 : Int32) g) fun g1 => s_b1 (fJ_fill_19 (0 : Int32) g1) fun g2 => s_b1 (fJ_fill_20 (0 : Int32) g2) fun g3 => s_b1 (fJ_fill_21 (0 : Int32) g3) fun g4 => s_lp (fun x => fT_begin_17_71 x.1 x.2) ((0 : Int32), (s_si (s_si (s_si (s_si (s_si g4 17 5 (0 : Int32)) 17 6 (g4.1 3 8)) 17 7 (g4.1 3 9)) 17 8 (0 : Int32)) 17 9 (0 : Int32)))
theorem fT_begin_17_s {g : s_G} {z : s_G} (hB : fT_begin_17 g = some z) : s_Ev 1 s_m13 [.ref 17] (s_hg g) (none) (s_hg z) := by
  unfold fT_begin_17 at hB
  refine s_Ev.fin ((?_ : ∀ (v : Option Value) (h' : s_H), (fun (z : s_G) (v : Option Value) (h' : s_H) => v = none ∧ h' = s_hg z) z v h' → s_Fin 1 s_m13 (0, s_ent [.ref 17] (s_m13).2.2.1, [], s_hg g) v h') _ _ ⟨rfl, rfl⟩)
  intro v h' hr
  refine (show s_Fin 1 s_m13 (0, [some (.ref 17), none], [], s_hg g) v h' from ?_)
  refine s_Fin.sg 3 (y := (5, [some (.ref 17), none], [.int (0 : Int32), .ref 18], s_hg g)) rfl ?_
  obtain ⟨g1, hp, hB⟩ := s_bd hB
  refine s_Fin.cl (d := 0) (q1 := s_m4) (md := 4) (vs := [.ref 18, .int (0 : Int32)]) (rest := []) (h1 := s_hg g1) (u := none) (s_Ev.up (by omega) (fJ_fill_18_s hp)) rfl rfl rfl rfl ?_
  refine s_Fin.sg 3 (y := (13, [some (.ref 17), none], [.int (0 : Int32), .ref 19], s_hg g1)) rfl ?_
  obtain ⟨g2, hp, hB⟩ := s_bd hB
  refine s_Fin.cl (d := 0) (q1 := s_m4) (md := 4) (vs := [.ref 19, .int (0 : Int32)]) (rest := []) (h1 := s_hg g2) (u := none) (s_Ev.up (by omega) (fJ_fill_19_s hp)) rfl rfl rfl rfl ?_
  refine s_Fin.sg 3 (y := (21, [some (.ref 17), none], [.int (0 : Int32), .ref 20], s_hg g2)) rfl ?_
  obtain ⟨g3, hp, hB⟩ := s_bd hB
  refine s_Fin.cl (d := 0) (q1 := s_m4) (md := 4) (vs := [.ref 20, .int (0 : Int32)]) (rest := []) (h1 := s_hg g3) (u := none) (s_Ev.up (by omega) (fJ_fill_20_s hp)) rfl rfl rfl rfl ?_
  refine s_Fin.sg 3 (y := (29, [some (.ref 17), none], [.int (0 : Int32), .ref 21], s_hg g3)) rfl ?_
  obtain ⟨g4, hp, hB⟩ := s_bd hB
  refine s_Fin.cl (d := 0) (q1 := s_m4) (md := 4) (vs := [.ref 21, .int (0 : Int32)]) (rest := []) (h1 := s_hg g4) (u := none) (s_Ev.up (by omega) (fJ_fill_21_s hp)) rfl rfl rfl rfl ?_
  refine s_Fin.sg 21 (y := (71, [some (.ref 17), some (.int (0 : Int32))], [], s_hg (s_si (s_si (s_si (s_si (s_si g4 17 5 (0 : Int32)) 17 6 (g4.1 3 8)) 17 7 (g4.1 3 9)) 17 8 (0 : Int32)) 17 9 (0 : Int32)))) rfl ?_
  exact s_Fin.more (L := [some (.ref 17), some (.int (0 : Int32))]) ⟨Or.inr rfl, Or.inr rfl, trivial⟩ (s_lp_s (P := (fun (x : Int32 × s_G) (v : Option Value) (h' : s_H) => s_Fin 1 s_m13 (71, [some (.ref 17), some (.int x.1)], [], s_hg x.2) v h')) (Q := (fun (z : s_G) (v : Option Value) (h' : s_H) => v = none ∧ h' = s_hg z)) (fun x z hB v h' hr => fT_begin_17_71_s hB hr) hB _ _ hr)
-- CampAshes$Sentence.clear
noncomputable def fS_clear_27 (g : s_G) : Option (s_G) :=
  some (s_si (s_si (s_si g 27 4 (0 : Int32)) 27 5 (0 : Int32)) 27 6 (0 : Int32))
theorem fS_clear_27_s {g : s_G} {z : s_G} (hB : fS_clear_27 g = some z) : s_Ev 0 s_m44 [.ref 27] (s_hg g) (none) (s_hg z) := by
  unfold fS_clear_27 at hB
  refine s_Ev.fin ((?_ : ∀ (v : Option Value) (h' : s_H), (fun (z : s_G) (v : Option Value) (h' : s_H) => v = none ∧ h' = s_hg z) z v h' → s_Fin 0 s_m44 (0, s_ent [.ref 27] (s_m44).2.2.1, [], s_hg g) v h') _ _ ⟨rfl, rfl⟩)
  intro v h' hr
  refine (show s_Fin 0 s_m44 (0, [some (.ref 27)], [], s_hg g) v h' from ?_)
  refine s_Fin.sg 9 (y := (15, [some (.ref 27)], [], s_hg (s_si (s_si (s_si g 27 4 (0 : Int32)) 27 5 (0 : Int32)) 27 6 (0 : Int32)))) rfl ?_
  have hB := Option.some.inj hB
  subst hB
  obtain ⟨rfl, rfl⟩ := hr
  exact s_Fin.rt rfl rfl
-- CampAshes$History.clear
noncomputable def fH_clear_43 (g : s_G) : Option (s_G) :=
  some (s_si g 43 1 (0 : Int32))
theorem fH_clear_43_s {g : s_G} {z : s_G} (hB : fH_clear_43 g = some z) : s_Ev 0 s_m45 [.ref 43] (s_hg g) (none) (s_hg z) := by
  unfold fH_clear_43 at hB
  refine s_Ev.fin ((?_ : ∀ (v : Option Value) (h' : s_H), (fun (z : s_G) (v : Option Value) (h' : s_H) => v = none ∧ h' = s_hg z) z v h' → s_Fin 0 s_m45 (0, s_ent [.ref 43] (s_m45).2.2.1, [], s_hg g) v h') _ _ ⟨rfl, rfl⟩)
  intro v h' hr
  refine (show s_Fin 0 s_m45 (0, [some (.ref 43)], [], s_hg g) v h' from ?_)
  refine s_Fin.sg 3 (y := (5, [some (.ref 43)], [], s_hg (s_si g 43 1 (0 : Int32)))) rfl ?_
  have hB := Option.some.inj hB
  subst hB
  obtain ⟨rfl, rfl⟩ := hr
  exact s_Fin.rt rfl rfl
-- CampAshes.camp
noncomputable def fC_camp_0 (g : s_G) : Option (Int32 × s_G) :=
  s_b1 (fQ_startText_1 (900 : Int32) g) fun g1 => s_b2 (fP_readText_10_1 g1) fun v3 g2 => if v3 = (-1 : Int32) then (some ((-1 : Int32) - (g2.1 1 11), (s_si g2 0 1 (g2.1 1 10))))
  else s_b1 (fP_copyFrom_3_10 (s_si g2 0 1 (g2.1 1 10))) fun g4 => s_b1 (fT_begin_17 g4) fun g5 => s_b1 (fS_clear_27 g5) fun g6 => s_b1 (fH_clear_43 g6) fun g7 => some (v3, g7)
theorem fC_camp_0_s {g : s_G} {z : Int32 × s_G} (hB : fC_camp_0 g = some z) : s_Ev 7 s_m18 [.ref 0] (s_hg g) (some (.int z.1)) (s_hg z.2) := by
  unfold fC_camp_0 at hB
  refine s_Ev.fin ((?_ : ∀ (v : Option Value) (h' : s_H), (fun (z : Int32 × s_G) (v : Option Value) (h' : s_H) => v = some (.int z.1) ∧ h' = s_hg z.2) z v h' → s_Fin 7 s_m18 (0, s_ent [.ref 0] (s_m18).2.2.1, [], s_hg g) v h') _ _ ⟨rfl, rfl⟩)
  intro v h' hr
  refine (show s_Fin 7 s_m18 (0, [some (.ref 0), none], [], s_hg g) v h' from ?_)
  refine s_Fin.sg 3 (y := (7, [some (.ref 0), none], [.int (900 : Int32), .ref 1], s_hg g)) rfl ?_
  obtain ⟨g1, hp, hB⟩ := s_bd hB
  refine s_Fin.cl (d := 6) (q1 := s_m19) (md := 19) (vs := [.ref 1, .int (900 : Int32)]) (rest := []) (h1 := s_hg g1) (u := none) (s_Ev.up (by omega) (fQ_startText_1_s hp)) rfl rfl rfl rfl ?_
  refine s_Fin.sg 4 (y := (18, [some (.ref 0), none], [.ref 1, .ref 10], s_hg g1)) rfl ?_
  obtain ⟨v3, g2, hp, hB⟩ := s_bd2 hB
  refine s_Fin.cl (d := 6) (q1 := s_m25) (md := 25) (vs := [.ref 10, .ref 1]) (rest := []) (h1 := s_hg g2) (u := some (.int v3)) (s_Ev.up (by omega) (fP_readText_10_1_s hp)) rfl rfl rfl rfl ?_
  refine s_Fin.sg 8 (y := (35, [some (.ref 0), some (.int v3)], [.int (-1 : Int32), .int v3], s_hg (s_si g2 0 1 (g2.1 1 10)))) rfl ?_
  by_cases hc : v3 = (-1 : Int32)
  · rw [if_pos hc] at hB
    refine s_Fin.bf (c := ¬ v3 = (-1 : Int32)) (tg := 48) (p2 := 35) (L1 := [some (.ref 0), some (.int v3)]) (st1 := []) (fun h => h hc) rfl ?_
    refine s_Fin.sg 5 (y := (47, [some (.ref 0), some (.int v3)], [.int ((-1 : Int32) - (g2.1 1 11))], s_hg (s_si g2 0 1 (g2.1 1 10)))) rfl ?_
    have hB := Option.some.inj hB
    subst hB
    obtain ⟨rfl, rfl⟩ := hr
    exact s_Fin.rt rfl rfl
  · rw [if_neg hc] at hB
    refine s_Fin.bt (c := ¬ v3 = (-1 : Int32)) (tg := 48) (p2 := 35) (L1 := [some (.ref 0), some (.int v3)]) (st1 := []) hc rfl ?_
    refine s_Fin.sg 4 (y := (56, [some (.ref 0), some (.int v3)], [.ref 10, .ref 3], s_hg (s_si g2 0 1 (g2.1 1 10)))) rfl ?_
    obtain ⟨g4, hp, hB⟩ := s_bd hB
    refine s_Fin.cl (d := 6) (q1 := s_m43) (md := 43) (vs := [.ref 3, .ref 10]) (rest := []) (h1 := s_hg g4) (u := none) (s_Ev.up (by omega) (fP_copyFrom_3_10_s hp)) rfl rfl rfl rfl ?_
    refine s_Fin.sg 2 (y := (63, [some (.ref 0), some (.int v3)], [.ref 17], s_hg g4)) rfl ?_
    obtain ⟨g5, hp, hB⟩ := s_bd hB
    refine s_Fin.cl (d := 6) (q1 := s_m13) (md := 13) (vs := [.ref 17]) (rest := []) (h1 := s_hg g5) (u := none) (s_Ev.up (by omega) (fT_begin_17_s hp)) rfl rfl rfl rfl ?_
    refine s_Fin.sg 2 (y := (70, [some (.ref 0), some (.int v3)], [.ref 27], s_hg g5)) rfl ?_
    obtain ⟨g6, hp, hB⟩ := s_bd hB
    refine s_Fin.cl (d := 6) (q1 := s_m44) (md := 44) (vs := [.ref 27]) (rest := []) (h1 := s_hg g6) (u := none) (s_Ev.up (by omega) (fS_clear_27_s hp)) rfl rfl rfl rfl ?_
    refine s_Fin.sg 2 (y := (77, [some (.ref 0), some (.int v3)], [.ref 43], s_hg g6)) rfl ?_
    obtain ⟨g7, hp, hB⟩ := s_bd hB
    refine s_Fin.cl (d := 6) (q1 := s_m45) (md := 45) (vs := [.ref 43]) (rest := []) (h1 := s_hg g7) (u := none) (s_Ev.up (by omega) (fH_clear_43_s hp)) rfl rfl rfl rfl ?_
    refine s_Fin.sg 1 (y := (81, [some (.ref 0), some (.int v3)], [.int v3], s_hg g7)) rfl ?_
    have hB := Option.some.inj hB
    subst hB
    obtain ⟨rfl, rfl⟩ := hr
    exact s_Fin.rt rfl rfl
-- CampAshesModel.fault
noncomputable def fM_fault_130 (g : s_G) : Option (Int32 × s_G) :=
  some (g.1 130 10, (s_si g 130 0 (0 : Int32)))
theorem fM_fault_130_s {g : s_G} {z : Int32 × s_G} (hB : fM_fault_130 g = some z) : s_Ev 0 s_m190 [.ref 130] (s_hg g) (some (.int z.1)) (s_hg z.2) := by
  unfold fM_fault_130 at hB
  refine s_Ev.fin ((?_ : ∀ (v : Option Value) (h' : s_H), (fun (z : Int32 × s_G) (v : Option Value) (h' : s_H) => v = some (.int z.1) ∧ h' = s_hg z.2) z v h' → s_Fin 0 s_m190 (0, s_ent [.ref 130] (s_m190).2.2.1, [], s_hg g) v h') _ _ ⟨rfl, rfl⟩)
  intro v h' hr
  refine (show s_Fin 0 s_m190 (0, [some (.ref 130)], [], s_hg g) v h' from ?_)
  refine s_Fin.sg 5 (y := (9, [some (.ref 130)], [.int (g.1 130 10)], s_hg (s_si g 130 0 (0 : Int32)))) rfl ?_
  have hB := Option.some.inj hB
  subst hB
  obtain ⟨rfl, rfl⟩ := hr
  exact s_Fin.rt rfl rfl
-- CampAshes.fault
noncomputable def fC_fault_0 (g : s_G) : Option (Int32) :=
  some (g.1 0 1)
theorem fC_fault_0_s {g : s_G} {z : Int32} (hB : fC_fault_0 g = some z) : s_Ev 0 s_m46 [.ref 0] (s_hg g) (some (.int z)) (s_hg g) := by
  unfold fC_fault_0 at hB
  refine s_Ev.fin ((?_ : ∀ (v : Option Value) (h' : s_H), (fun (z : Int32) (v : Option Value) (h' : s_H) => v = some (.int z) ∧ h' = s_hg g) z v h' → s_Fin 0 s_m46 (0, s_ent [.ref 0] (s_m46).2.2.1, [], s_hg g) v h') _ _ ⟨rfl, rfl⟩)
  intro v h' hr
  refine (show s_Fin 0 s_m46 (0, [some (.ref 0)], [], s_hg g) v h' from ?_)
  refine s_Fin.sg 2 (y := (4, [some (.ref 0)], [.int (g.1 0 1)], s_hg g)) rfl ?_
  have hB := Option.some.inj hB
  subst hB
  obtain ⟨rfl, rfl⟩ := hr
  exact s_Fin.rt rfl rfl
-- CampAshesModel.isBoy
noncomputable def fM_isBoy_130 (x1 : Int32) (g : s_G) : Option (Int32) :=
  s_b1 (fM_isIn_s x1 (0 : Int32) ((g.1 132 0) - (1 : Int32)) g) fun v1 => if v1 = 0 ∨ v1 = 1 then some v1
  else none
theorem fM_isBoy_130_s {x1 : Int32} {g : s_G} {z : Int32} (hB : fM_isBoy_130 x1 g = some z) : s_Ev 1 s_m192 [.ref 130, .int x1] (s_hg g) (some (.int z)) (s_hg g) := by
  unfold fM_isBoy_130 at hB
  refine s_Ev.fin ((?_ : ∀ (v : Option Value) (h' : s_H), (fun (z : Int32) (v : Option Value) (h' : s_H) => v = some (.int z) ∧ h' = s_hg g) z v h' → s_Fin 1 s_m192 (0, s_ent [.ref 130, .int x1] (s_m192).2.2.1, [], s_hg g) v h') _ _ ⟨rfl, rfl⟩)
  intro v h' hr
  refine (show s_Fin 1 s_m192 (0, [some (.ref 130), some (.int x1)], [], s_hg g) v h' from ?_)
  refine s_Fin.sg 8 (y := (10, [some (.ref 130), some (.int x1)], [.int ((g.1 132 0) - (1 : Int32)), .int (0 : Int32), .int x1], s_hg g)) rfl ?_
  obtain ⟨v1, hp, hB⟩ := s_bd hB
  refine s_Fin.cl (d := 0) (q1 := s_m181) (md := 181) (vs := [.int x1, .int (0 : Int32), .int ((g.1 132 0) - (1 : Int32))]) (rest := []) (h1 := s_hg g) (u := some (.int v1)) (s_Ev.up (by omega) (fM_isIn_s_s hp)) rfl rfl rfl rfl ?_
  have hc : v1 = 0 ∨ v1 = 1 := Classical.byContradiction fun h => (by rw [if_neg h] at hB; cases hB)
  rw [if_pos hc] at hB
  have hB := Option.some.inj hB
  subst hB
  obtain ⟨rfl, rfl⟩ := hr
  exact s_Fin.rt (by rcases hc with hc | hc <;> rw [hc] <;> exact rfl) rfl
-- CampAshesModel.refuse
noncomputable def fM_refuse_130 (g : s_G) : Option (Int32 × s_G) :=
  some ((0 : Int32), (s_si g 130 0 (1 : Int32)))
theorem fM_refuse_130_s {g : s_G} {z : Int32 × s_G} (hB : fM_refuse_130 g = some z) : s_Ev 0 s_m193 [.ref 130] (s_hg g) (some (.int z.1)) (s_hg z.2) := by
  unfold fM_refuse_130 at hB
  refine s_Ev.fin ((?_ : ∀ (v : Option Value) (h' : s_H), (fun (z : Int32 × s_G) (v : Option Value) (h' : s_H) => v = some (.int z.1) ∧ h' = s_hg z.2) z v h' → s_Fin 0 s_m193 (0, s_ent [.ref 130] (s_m193).2.2.1, [], s_hg g) v h') _ _ ⟨rfl, rfl⟩)
  intro v h' hr
  refine (show s_Fin 0 s_m193 (0, [some (.ref 130)], [], s_hg g) v h' from ?_)
  refine s_Fin.sg 4 (y := (6, [some (.ref 130)], [.int (0 : Int32)], s_hg (s_si g 130 0 (1 : Int32)))) rfl ?_
  have hB := Option.some.inj hB
  subst hB
  obtain ⟨rfl, rfl⟩ := hr
  exact s_Fin.rt rfl rfl
-- CampAshesModel.sum
noncomputable def fM_sum_130_5 (x1 : Int32) (x2 : Int32) (x3 : Int32) (x4 : Int32) (g : s_G) : Option ((Int32 × Int32) ⊕ (Int32)) :=
  if x4 < x2 then (s_b1 (s_ix 375 (x1 + x4)) fun k2 => some (.inl (x3 + (g.1 132 k2), x4 + (1 : Int32))))
  else s_in (some x3)
theorem fM_sum_130_5_s {x1 : Int32} {x2 : Int32} {x3 : Int32} {x4 : Int32} {g : s_G} {z : (Int32 × Int32) ⊕ (Int32)} (hB : fM_sum_130_5 x1 x2 x3 x4 g = some z) {v : Option Value} {h' : s_H} (hr : (s_sm (fun (x : Int32 × Int32) (v : Option Value) (h' : s_H) => s_Fin 0 s_m195 (5, [some (.ref 130), some (.int x1), some (.int x2), some (.int x.1), some (.int x.2)], [], s_hg g) v h') (fun (z : Int32) (v : Option Value) (h' : s_H) => v = some (.int z) ∧ h' = s_hg g)) z v h') : s_Fin 0 s_m195 (5, [some (.ref 130), some (.int x1), some (.int x2), some (.int x3), some (.int x4)], [], s_hg g) v h' := by
  unfold fM_sum_130_5 at hB
  refine s_Fin.sg 2 (y := (8, [some (.ref 130), some (.int x1), some (.int x2), some (.int x3), some (.int x4)], [.int x2, .int x4], s_hg g)) rfl ?_
  by_cases hc : x4 < x2
  · rw [if_pos hc] at hB
    refine s_Fin.bf (c := x2 ≤ x4) (tg := 29) (p2 := 8) (L1 := [some (.ref 130), some (.int x1), some (.int x2), some (.int x3), some (.int x4)]) (st1 := []) (Int32.not_le.mpr hc) rfl ?_
    refine s_Fin.sg 6 (y := (20, [some (.ref 130), some (.int x1), some (.int x2), some (.int x3), some (.int x4)], [.int (x1 + x4), .ref 132, .int x3], s_hg g)) rfl ?_
    obtain ⟨k2, hk2, hB⟩ := s_bd hB
    refine s_Fin.ix (n := 375) (i := x1 + x4) (pc1 := 21) (L1 := [some (.ref 130), some (.int x1), some (.int x2), some (.int x3), some (.int x4)]) (fun j1 => [.int (g.1 132 j1), .int x3]) (fun j1 => s_hg g) hk2 rfl rfl ?_
    refine s_Fin.sg 4 (y := (5, [some (.ref 130), some (.int x1), some (.int x2), some (.int (x3 + (g.1 132 k2))), some (.int (x4 + (1 : Int32)))], [], s_hg g)) rfl ?_
    have hB := Option.some.inj hB
    subst hB
    exact s_Fin.more (L := [some (.ref 130), some (.int x1), some (.int x2), some (.int (x3 + (g.1 132 k2))), some (.int (x4 + (1 : Int32)))]) ⟨Or.inr rfl, Or.inr rfl, Or.inr rfl, Or.inr rfl, Or.inr rfl, trivial⟩ hr
  · rw [if_neg hc] at hB
    refine s_Fin.bt (c := x2 ≤ x4) (tg := 29) (p2 := 8) (L1 := [some (.ref 130), some (.int x1), some (.int x2), some (.int x3), some (.int x4)]) (st1 := []) (Int32.not_lt.mp hc) rfl ?_
    obtain ⟨_, hN, hz⟩ := s_in_of hB
    subst hz
    have hB := hN
    refine s_Fin.sg 1 (y := (30, [some (.ref 130), some (.int x1), some (.int x2), some (.int x3), some (.int x4)], [.int x3], s_hg g)) rfl ?_
    have hB := Option.some.inj hB
    subst hB
    obtain ⟨rfl, rfl⟩ := hr
    exact s_Fin.rt rfl rfl
noncomputable def fM_sum_130 (x1 : Int32) (x2 : Int32) (g : s_G) : Option (Int32) :=
  s_lp (fun x => fM_sum_130_5 x1 x2 x.1 x.2 g) ((0 : Int32), (0 : Int32))
theorem fM_sum_130_s {x1 : Int32} {x2 : Int32} {g : s_G} {z : Int32} (hB : fM_sum_130 x1 x2 g = some z) : s_Ev 0 s_m195 [.ref 130, .int x1, .int x2] (s_hg g) (some (.int z)) (s_hg g) := by
  unfold fM_sum_130 at hB
  refine s_Ev.fin ((?_ : ∀ (v : Option Value) (h' : s_H), (fun (z : Int32) (v : Option Value) (h' : s_H) => v = some (.int z) ∧ h' = s_hg g) z v h' → s_Fin 0 s_m195 (0, s_ent [.ref 130, .int x1, .int x2] (s_m195).2.2.1, [], s_hg g) v h') _ _ ⟨rfl, rfl⟩)
  intro v h' hr
  refine (show s_Fin 0 s_m195 (0, [some (.ref 130), some (.int x1), some (.int x2), none, none], [], s_hg g) v h' from ?_)
  refine s_Fin.sg 4 (y := (5, [some (.ref 130), some (.int x1), some (.int x2), some (.int (0 : Int32)), some (.int (0 : Int32))], [], s_hg g)) rfl ?_
  exact s_Fin.more (L := [some (.ref 130), some (.int x1), some (.int x2), some (.int (0 : Int32)), some (.int (0 : Int32))]) ⟨Or.inr rfl, Or.inr rfl, Or.inr rfl, Or.inr rfl, Or.inr rfl, trivial⟩ (s_lp_s (P := (fun (x : Int32 × Int32) (v : Option Value) (h' : s_H) => s_Fin 0 s_m195 (5, [some (.ref 130), some (.int x1), some (.int x2), some (.int x.1), some (.int x.2)], [], s_hg g) v h')) (Q := (fun (z : Int32) (v : Option Value) (h' : s_H) => v = some (.int z) ∧ h' = s_hg g)) (fun x z hB v h' hr => fM_sum_130_5_s hB hr) hB _ _ hr)
-- CampAshesModel.loadOf
noncomputable def fM_loadOf_130 (x1 : Int32) (g : s_G) : Option (Int32) :=
  s_b1 (fM_sum_130 ((63 : Int32) + ((10 : Int32) * x1)) (10 : Int32) g) fun v1 => some v1
theorem fM_loadOf_130_s {x1 : Int32} {g : s_G} {z : Int32} (hB : fM_loadOf_130 x1 g = some z) : s_Ev 1 s_m194 [.ref 130, .int x1] (s_hg g) (some (.int z)) (s_hg g) := by
  unfold fM_loadOf_130 at hB
  refine s_Ev.fin ((?_ : ∀ (v : Option Value) (h' : s_H), (fun (z : Int32) (v : Option Value) (h' : s_H) => v = some (.int z) ∧ h' = s_hg g) z v h' → s_Fin 1 s_m194 (0, s_ent [.ref 130, .int x1] (s_m194).2.2.1, [], s_hg g) v h') _ _ ⟨rfl, rfl⟩)
  intro v h' hr
  refine (show s_Fin 1 s_m194 (0, [some (.ref 130), some (.int x1)], [], s_hg g) v h' from ?_)
  refine s_Fin.sg 7 (y := (10, [some (.ref 130), some (.int x1)], [.int (10 : Int32), .int ((63 : Int32) + ((10 : Int32) * x1)), .ref 130], s_hg g)) rfl ?_
  obtain ⟨v1, hp, hB⟩ := s_bd hB
  refine s_Fin.cl (d := 0) (q1 := s_m195) (md := 195) (vs := [.ref 130, .int ((63 : Int32) + ((10 : Int32) * x1)), .int (10 : Int32)]) (rest := []) (h1 := s_hg g) (u := some (.int v1)) (s_Ev.up (by omega) (fM_sum_130_s hp)) rfl rfl rfl rfl ?_
  have hB := Option.some.inj hB
  subst hB
  obtain ⟨rfl, rfl⟩ := hr
  exact s_Fin.rt rfl rfl
-- CampAshesModel.isOver
noncomputable def fM_isOver_130 (x1 : Int32) (g : s_G) : Option (Int32) :=
  s_b1 (fM_loadOf_130 x1 g) fun v1 => s_b1 (s_ix 375 ((10 : Int32) + x1)) fun k3 => if (g.1 132 k3) < v1 then (some (1 : Int32))
  else some (0 : Int32)
theorem fM_isOver_130_s {x1 : Int32} {g : s_G} {z : Int32} (hB : fM_isOver_130 x1 g = some z) : s_Ev 2 s_m196 [.ref 130, .int x1] (s_hg g) (some (.int z)) (s_hg g) := by
  unfold fM_isOver_130 at hB
  refine s_Ev.fin ((?_ : ∀ (v : Option Value) (h' : s_H), (fun (z : Int32) (v : Option Value) (h' : s_H) => v = some (.int z) ∧ h' = s_hg g) z v h' → s_Fin 2 s_m196 (0, s_ent [.ref 130, .int x1] (s_m196).2.2.1, [], s_hg g) v h') _ _ ⟨rfl, rfl⟩)
  intro v h' hr
  refine (show s_Fin 2 s_m196 (0, [some (.ref 130), some (.int x1)], [], s_hg g) v h' from ?_)
  refine s_Fin.sg 2 (y := (2, [some (.ref 130), some (.int x1)], [.int x1, .ref 130], s_hg g)) rfl ?_
  obtain ⟨v1, hp, hB⟩ := s_bd hB
  refine s_Fin.cl (d := 1) (q1 := s_m194) (md := 194) (vs := [.ref 130, .int x1]) (rest := []) (h1 := s_hg g) (u := some (.int v1)) (s_Ev.up (by omega) (fM_loadOf_130_s hp)) rfl rfl rfl rfl ?_
  refine s_Fin.sg 5 (y := (13, [some (.ref 130), some (.int x1)], [.int ((10 : Int32) + x1), .ref 132, .int v1], s_hg g)) rfl ?_
  obtain ⟨k3, hk3, hB⟩ := s_bd hB
  refine s_Fin.ix (n := 375) (i := (10 : Int32) + x1) (pc1 := 14) (L1 := [some (.ref 130), some (.int x1)]) (fun j2 => [.int (g.1 132 j2), .int v1]) (fun j2 => s_hg g) hk3 rfl rfl ?_
  by_cases hc : (g.1 132 k3) < v1
  · rw [if_pos hc] at hB
    refine s_Fin.bf (c := v1 ≤ (g.1 132 k3)) (tg := 21) (p2 := 14) (L1 := [some (.ref 130), some (.int x1)]) (st1 := []) (Int32.not_le.mpr hc) rfl ?_
    refine s_Fin.sg 2 (y := (22, [some (.ref 130), some (.int x1)], [.int (1 : Int32)], s_hg g)) rfl ?_
    have hB := Option.some.inj hB
    subst hB
    obtain ⟨rfl, rfl⟩ := hr
    exact s_Fin.rt rfl rfl
  · rw [if_neg hc] at hB
    refine s_Fin.bt (c := v1 ≤ (g.1 132 k3)) (tg := 21) (p2 := 14) (L1 := [some (.ref 130), some (.int x1)]) (st1 := []) (Int32.not_lt.mp hc) rfl ?_
    refine s_Fin.sg 1 (y := (22, [some (.ref 130), some (.int x1)], [.int (0 : Int32)], s_hg g)) rfl ?_
    have hB := Option.some.inj hB
    subst hB
    obtain ⟨rfl, rfl⟩ := hr
    exact s_Fin.rt rfl rfl
-- CampAshesModel.has
noncomputable def fM_has_s (x0 : Int32) (x1 : Int32) (g : s_G) : Option (Int32) :=
  if ((x0 >>> (x1 &&& 31)) &&& (1 : Int32)) = (1 : Int32) then (some (1 : Int32))
  else some (0 : Int32)
theorem fM_has_s_s {x0 : Int32} {x1 : Int32} {g : s_G} {z : Int32} (hB : fM_has_s x0 x1 g = some z) : s_Ev 0 s_m198 [.int x0, .int x1] (s_hg g) (some (.int z)) (s_hg g) := by
  unfold fM_has_s at hB
  refine s_Ev.fin ((?_ : ∀ (v : Option Value) (h' : s_H), (fun (z : Int32) (v : Option Value) (h' : s_H) => v = some (.int z) ∧ h' = s_hg g) z v h' → s_Fin 0 s_m198 (0, s_ent [.int x0, .int x1] (s_m198).2.2.1, [], s_hg g) v h') _ _ ⟨rfl, rfl⟩)
  intro v h' hr
  refine (show s_Fin 0 s_m198 (0, [some (.int x0), some (.int x1)], [], s_hg g) v h' from ?_)
  refine s_Fin.sg 6 (y := (6, [some (.int x0), some (.int x1)], [.int (1 : Int32), .int ((x0 >>> (x1 &&& 31)) &&& (1 : Int32))], s_hg g)) rfl ?_
  by_cases hc : ((x0 >>> (x1 &&& 31)) &&& (1 : Int32)) = (1 : Int32)
  · rw [if_pos hc] at hB
    refine s_Fin.bf (c := ¬ ((x0 >>> (x1 &&& 31)) &&& (1 : Int32)) = (1 : Int32)) (tg := 13) (p2 := 6) (L1 := [some (.int x0), some (.int x1)]) (st1 := []) (fun h => h hc) rfl ?_
    refine s_Fin.sg 2 (y := (14, [some (.int x0), some (.int x1)], [.int (1 : Int32)], s_hg g)) rfl ?_
    have hB := Option.some.inj hB
    subst hB
    obtain ⟨rfl, rfl⟩ := hr
    exact s_Fin.rt rfl rfl
  · rw [if_neg hc] at hB
    refine s_Fin.bt (c := ¬ ((x0 >>> (x1 &&& 31)) &&& (1 : Int32)) = (1 : Int32)) (tg := 13) (p2 := 6) (L1 := [some (.int x0), some (.int x1)]) (st1 := []) hc rfl ?_
    refine s_Fin.sg 1 (y := (14, [some (.int x0), some (.int x1)], [.int (0 : Int32)], s_hg g)) rfl ?_
    have hB := Option.some.inj hB
    subst hB
    obtain ⟨rfl, rfl⟩ := hr
    exact s_Fin.rt rfl rfl
