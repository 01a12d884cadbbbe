-- CampAshes$Camp.isNewName
noncomputable def fP_isNewName_10_1 (g : s_G) : Option (Int32 × s_G) :=
  if (g.1 1 5) = (3 : Int32) then (s_b1 (fP_boyNamed_10 (g.2.1 1 8) g) fun v1 => if v1 = (-1 : Int32) then (s_b1 (fP_eventNamed_10 (g.2.1 1 8) g) fun v2 => if v2 = (-1 : Int32) then (some ((1 : Int32), g))
  else s_b2 (fQ_fail_1 (3 : Int32) g) fun v4 g3 => if v4 = 0 ∨ v4 = 1 then some (v4, g3)
  else none)
  else s_b2 (fQ_fail_1 (3 : Int32) g) fun v6 g5 => if v6 = 0 ∨ v6 = 1 then some (v6, g5)
  else none)
  else s_b2 (fQ_fail_1 (1 : Int32) g) fun v8 g7 => if v8 = 0 ∨ v8 = 1 then some (v8, g7)
  else none
theorem fP_isNewName_10_1_s {g : s_G} {z : Int32 × s_G} (hB : fP_isNewName_10_1 g = some z) : s_Ev 1 s_m31 [.ref 10, .ref 1] (s_hg g) (some (.int z.1)) (s_hg z.2) := by
  unfold fP_isNewName_10_1 at hB
  refine s_Ev.fin ((?_ : ∀ (v : Option Value) (h' : s_H), (fun (z : Int32 × s_G) (v : Option Value) (h' : s_H) => v = some (.int z.1) ∧ h' = s_hg z.2) z v h' → s_Fin 1 s_m31 (0, s_ent [.ref 10, .ref 1] (s_m31).2.2.1, [], s_hg g) v h') _ _ ⟨rfl, rfl⟩)
  intro v h' hr
  refine (show s_Fin 1 s_m31 (0, [some (.ref 10), some (.ref 1)], [], s_hg g) v h' from ?_)
  refine s_Fin.sg 3 (y := (5, [some (.ref 10), some (.ref 1)], [.int (3 : Int32), .int (g.1 1 5)], s_hg g)) rfl ?_
  by_cases hc : (g.1 1 5) = (3 : Int32)
  · rw [if_pos hc] at hB
    refine s_Fin.bt (c := (g.1 1 5) = (3 : Int32)) (tg := 14) (p2 := 5) (L1 := [some (.ref 10), some (.ref 1)]) (st1 := []) hc rfl ?_
    refine s_Fin.sg 3 (y := (19, [some (.ref 10), some (.ref 1)], [.long (g.2.1 1 8), .ref 10], s_hg g)) rfl ?_
    obtain ⟨v1, hp, hB⟩ := s_bd hB
    refine s_Fin.cl (d := 0) (q1 := s_m32) (md := 32) (vs := [.ref 10, .long (g.2.1 1 8)]) (rest := []) (h1 := s_hg g) (u := some (.int v1)) (s_Ev.up (by omega) (fP_boyNamed_10_s hp)) rfl rfl rfl rfl ?_
    refine s_Fin.sg 1 (y := (23, [some (.ref 10), some (.ref 1)], [.int (-1 : Int32), .int v1], s_hg g)) rfl ?_
    by_cases hc : v1 = (-1 : Int32)
    · rw [if_pos hc] at hB
      refine s_Fin.bf (c := ¬ v1 = (-1 : Int32)) (tg := 38) (p2 := 23) (L1 := [some (.ref 10), some (.ref 1)]) (st1 := []) (fun h => h hc) rfl ?_
      refine s_Fin.sg 3 (y := (31, [some (.ref 10), some (.ref 1)], [.long (g.2.1 1 8), .ref 10], s_hg g)) rfl ?_
      obtain ⟨v2, hp, hB⟩ := s_bd hB
      refine s_Fin.cl (d := 0) (q1 := s_m33) (md := 33) (vs := [.ref 10, .long (g.2.1 1 8)]) (rest := []) (h1 := s_hg g) (u := some (.int v2)) (s_Ev.up (by omega) (fP_eventNamed_10_s hp)) rfl rfl rfl rfl ?_
      refine s_Fin.sg 1 (y := (35, [some (.ref 10), some (.ref 1)], [.int (-1 : Int32), .int v2], s_hg g)) rfl ?_
      by_cases hc : v2 = (-1 : Int32)
      · rw [if_pos hc] at hB
        refine s_Fin.bt (c := v2 = (-1 : Int32)) (tg := 44) (p2 := 35) (L1 := [some (.ref 10), some (.ref 1)]) (st1 := []) hc rfl ?_
        refine s_Fin.sg 1 (y := (45, [some (.ref 10), some (.ref 1)], [.int (1 : Int32)], s_hg g)) rfl ?_
        cases hB
        obtain ⟨rfl, rfl⟩ := hr
        exact s_Fin.rt rfl rfl
      · rw [if_neg hc] at hB
        refine s_Fin.bf (c := v2 = (-1 : Int32)) (tg := 44) (p2 := 35) (L1 := [some (.ref 10), some (.ref 1)]) (st1 := []) hc rfl ?_
        refine s_Fin.sg 2 (y := (40, [some (.ref 10), some (.ref 1)], [.int (3 : Int32), .ref 1], s_hg g)) rfl ?_
        obtain ⟨v4, g3, hp, hB⟩ := s_bd2 hB
        refine s_Fin.cl (d := 0) (q1 := s_m30) (md := 30) (vs := [.ref 1, .int (3 : Int32)]) (rest := []) (h1 := s_hg g3) (u := some (.int v4)) (s_Ev.up (by omega) (fQ_fail_1_s hp)) rfl rfl rfl rfl ?_
        have hc : v4 = 0 ∨ v4 = 1 := Classical.byContradiction fun h => (by rw [if_neg h] at hB; cases hB)
        rw [if_pos hc] at hB
        cases hB
        obtain ⟨rfl, rfl⟩ := hr
        exact s_Fin.rt (by rcases hc with hc | hc <;> rw [hc] <;> exact rfl) rfl
    · rw [if_neg hc] at hB
      refine s_Fin.bt (c := ¬ v1 = (-1 : Int32)) (tg := 38) (p2 := 23) (L1 := [some (.ref 10), some (.ref 1)]) (st1 := []) hc rfl ?_
      refine s_Fin.sg 2 (y := (40, [some (.ref 10), some (.ref 1)], [.int (3 : Int32), .ref 1], s_hg g)) rfl ?_
      obtain ⟨v6, g5, hp, hB⟩ := s_bd2 hB
      refine s_Fin.cl (d := 0) (q1 := s_m30) (md := 30) (vs := [.ref 1, .int (3 : Int32)]) (rest := []) (h1 := s_hg g5) (u := some (.int v6)) (s_Ev.up (by omega) (fQ_fail_1_s hp)) rfl rfl rfl rfl ?_
      have hc : v6 = 0 ∨ v6 = 1 := Classical.byContradiction fun h => (by rw [if_neg h] at hB; cases hB)
      rw [if_pos hc] at hB
      cases hB
      obtain ⟨rfl, rfl⟩ := hr
      exact s_Fin.rt (by rcases hc with hc | hc <;> rw [hc] <;> exact rfl) rfl
  · rw [if_neg hc] at hB
    refine s_Fin.bf (c := (g.1 1 5) = (3 : Int32)) (tg := 14) (p2 := 5) (L1 := [some (.ref 10), some (.ref 1)]) (st1 := []) hc rfl ?_
    refine s_Fin.sg 2 (y := (10, [some (.ref 10), some (.ref 1)], [.int (1 : Int32), .ref 1], s_hg g)) rfl ?_
    obtain ⟨v8, g7, hp, hB⟩ := s_bd2 hB
    refine s_Fin.cl (d := 0) (q1 := s_m30) (md := 30) (vs := [.ref 1, .int (1 : Int32)]) (rest := []) (h1 := s_hg g7) (u := some (.int v8)) (s_Ev.up (by omega) (fQ_fail_1_s hp)) rfl rfl rfl rfl ?_
    have hc : v8 = 0 ∨ v8 = 1 := Classical.byContradiction fun h => (by rw [if_neg h] at hB; cases hB)
    rw [if_pos hc] at hB
    cases hB
    obtain ⟨rfl, rfl⟩ := hr
    exact s_Fin.rt (by rcases hc with hc | hc <;> rw [hc] <;> exact rfl) rfl
-- CampAshes$Tape.passNamed
noncomputable def fQ_passNamed_1 (x1 : Int32) (g : s_G) : Option (Int32 × s_G) :=
  if (g.1 1 5) = (3 : Int32) then (if x1 = (-1 : Int32) then (s_b2 (fQ_fail_1 (3 : Int32) g) fun v2 g1 => some ((-1 : Int32), g1))
  else s_b1 (fQ_next_1 g) fun g3 => some (x1, g3))
  else s_b2 (fQ_fail_1 (1 : Int32) g) fun v5 g4 => some ((-1 : Int32), g4)
theorem fQ_passNamed_1_s {x1 : Int32} {g : s_G} {z : Int32 × s_G} (hB : fQ_passNamed_1 x1 g = some z) : s_Ev 2 s_m36 [.ref 1, .int x1] (s_hg g) (some (.int z.1)) (s_hg z.2) := by
  unfold fQ_passNamed_1 at hB
  refine s_Ev.fin ((?_ : ∀ (v : Option Value) (h' : s_H), (fun (z : Int32 × s_G) (v : Option Value) (h' : s_H) => v = some (.int z.1) ∧ h' = s_hg z.2) z v h' → s_Fin 2 s_m36 (0, s_ent [.ref 1, .int x1] (s_m36).2.2.1, [], s_hg g) v h') _ _ ⟨rfl, rfl⟩)
  intro v h' hr
  refine (show s_Fin 2 s_m36 (0, [some (.ref 1), some (.int x1)], [], s_hg g) v h' from ?_)
  refine s_Fin.sg 3 (y := (5, [some (.ref 1), some (.int x1)], [.int (3 : Int32), .int (g.1 1 5)], s_hg g)) rfl ?_
  by_cases hc : (g.1 1 5) = (3 : Int32)
  · rw [if_pos hc] at hB
    refine s_Fin.bt (c := (g.1 1 5) = (3 : Int32)) (tg := 16) (p2 := 5) (L1 := [some (.ref 1), some (.int x1)]) (st1 := []) hc rfl ?_
    refine s_Fin.sg 2 (y := (18, [some (.ref 1), some (.int x1)], [.int (-1 : Int32), .int x1], s_hg g)) rfl ?_
    by_cases hc : x1 = (-1 : Int32)
    · rw [if_pos hc] at hB
      refine s_Fin.bf (c := ¬ x1 = (-1 : Int32)) (tg := 29) (p2 := 18) (L1 := [some (.ref 1), some (.int x1)]) (st1 := []) (fun h => h hc) rfl ?_
      refine s_Fin.sg 2 (y := (23, [some (.ref 1), some (.int x1)], [.int (3 : Int32), .ref 1], s_hg g)) rfl ?_
      obtain ⟨v2, g1, hp, hB⟩ := s_bd2 hB
      refine s_Fin.cl (d := 1) (q1 := s_m30) (md := 30) (vs := [.ref 1, .int (3 : Int32)]) (rest := []) (h1 := s_hg g1) (u := some (.int v2)) (s_Ev.up (by omega) (fQ_fail_1_s hp)) rfl rfl rfl rfl ?_
      refine s_Fin.sg 2 (y := (28, [some (.ref 1), some (.int x1)], [.int (-1 : Int32)], s_hg g1)) rfl ?_
      cases hB
      obtain ⟨rfl, rfl⟩ := hr
      exact s_Fin.rt rfl rfl
    · rw [if_neg hc] at hB
      refine s_Fin.bt (c := ¬ x1 = (-1 : Int32)) (tg := 29) (p2 := 18) (L1 := [some (.ref 1), some (.int x1)]) (st1 := []) hc rfl ?_
      refine s_Fin.sg 1 (y := (30, [some (.ref 1), some (.int x1)], [.ref 1], s_hg g)) rfl ?_
      obtain ⟨g3, hp, hB⟩ := s_bd hB
      refine s_Fin.cl (d := 1) (q1 := s_m20) (md := 20) (vs := [.ref 1]) (rest := []) (h1 := s_hg g3) (u := none) (s_Ev.up (by omega) (fQ_next_1_s hp)) rfl rfl rfl rfl ?_
      refine s_Fin.sg 1 (y := (34, [some (.ref 1), some (.int x1)], [.int x1], s_hg g3)) rfl ?_
      cases hB
      obtain ⟨rfl, rfl⟩ := hr
      exact s_Fin.rt rfl rfl
  · rw [if_neg hc] at hB
    refine s_Fin.bf (c := (g.1 1 5) = (3 : Int32)) (tg := 16) (p2 := 5) (L1 := [some (.ref 1), some (.int x1)]) (st1 := []) hc rfl ?_
    refine s_Fin.sg 2 (y := (10, [some (.ref 1), some (.int x1)], [.int (1 : Int32), .ref 1], s_hg g)) rfl ?_
    obtain ⟨v5, g4, hp, hB⟩ := s_bd2 hB
    refine s_Fin.cl (d := 1) (q1 := s_m30) (md := 30) (vs := [.ref 1, .int (1 : Int32)]) (rest := []) (h1 := s_hg g4) (u := some (.int v5)) (s_Ev.up (by omega) (fQ_fail_1_s hp)) rfl rfl rfl rfl ?_
    refine s_Fin.sg 2 (y := (15, [some (.ref 1), some (.int x1)], [.int (-1 : Int32)], s_hg g4)) rfl ?_
    cases hB
    obtain ⟨rfl, rfl⟩ := hr
    exact s_Fin.rt rfl rfl
-- CampAshes$Camp.readEvent
noncomputable def fP_readEvent_10_1 (g : s_G) : Option (Int32 × s_G) :=
  if (g.1 10 1) < (10 : Int32) then (s_b1 (fQ_next_1 g) fun g1 => s_b2 (fP_isNewName_10_1 g1) fun v3 g2 => if v3 = 0 then (some ((0 : Int32), g2))
  else s_b1 (s_ix 17 ((7 : Int32) + (g2.1 10 1))) fun k5 => s_b1 (fQ_next_1 (s_sl g2 11 k5 (g2.2.1 1 8))) fun g6 => s_b1 (fP_boyNamed_10 (g6.2.1 1 8) g6) fun v7 => s_b2 (fQ_passNamed_1 v7 g6) fun v9 g8 => if v9 = (-1 : Int32) then (some ((0 : Int32), g8))
  else s_b2 (fP_isKind_1 g8) fun v11 g10 => if v11 = 0 then (some ((0 : Int32), g10))
  else s_b1 (g10.2.2 1 9) fun a12 => s_b1 (s_wkd a12) fun v13 => s_b1 (fQ_next_1 g10) fun g14 => s_b2 (fQ_passNumber_1 (1 : Int32) (40 : Int32) g14) fun v16 g15 => if v16 = (-1 : Int32) then (some ((0 : Int32), g15))
  else s_b1 (s_ix 10 (g15.1 10 1)) fun k18 => some ((1 : Int32), (s_si (s_si (s_si (s_si g15 13 k18 v9) 14 k18 v13) 15 k18 v16) 10 1 ((g15.1 10 1) + (1 : Int32)))))
  else s_b2 (fQ_fail_1 (4 : Int32) g) fun v22 g21 => if v22 = 0 ∨ v22 = 1 then some (v22, g21)
  else none
theorem fP_readEvent_10_1_s {g : s_G} {z : Int32 × s_G} (hB : fP_readEvent_10_1 g = some z) : s_Ev 3 s_m35 [.ref 10, .ref 1] (s_hg g) (some (.int z.1)) (s_hg z.2) := by
  unfold fP_readEvent_10_1 at hB
  refine s_Ev.fin ((?_ : ∀ (v : Option Value) (h' : s_H), (fun (z : Int32 × s_G) (v : Option Value) (h' : s_H) => v = some (.int z.1) ∧ h' = s_hg z.2) z v h' → s_Fin 3 s_m35 (0, s_ent [.ref 10, .ref 1] (s_m35).2.2.1, [], s_hg g) v h') _ _ ⟨rfl, rfl⟩)
  intro v h' hr
  refine (show s_Fin 3 s_m35 (0, [some (.ref 10), some (.ref 1), none, none, none], [], s_hg g) v h' from ?_)
  refine s_Fin.sg 3 (y := (6, [some (.ref 10), some (.ref 1), none, none, none], [.int (10 : Int32), .int (g.1 10 1)], s_hg g)) rfl ?_
  by_cases hc : (g.1 10 1) < (10 : Int32)
  · rw [if_pos hc] at hB
    refine s_Fin.bt (c := (g.1 10 1) < (10 : Int32)) (tg := 15) (p2 := 6) (L1 := [some (.ref 10), some (.ref 1), none, none, none]) (st1 := []) hc rfl ?_
    refine s_Fin.sg 1 (y := (16, [some (.ref 10), some (.ref 1), none, none, none], [.ref 1], s_hg g)) rfl ?_
    obtain ⟨g1, hp, hB⟩ := s_bd hB
    refine s_Fin.cl (d := 2) (q1 := s_m20) (md := 20) (vs := [.ref 1]) (rest := []) (h1 := s_hg g1) (u := none) (s_Ev.up (by omega) (fQ_next_1_s hp)) rfl rfl rfl rfl ?_
    refine s_Fin.sg 2 (y := (21, [some (.ref 10), some (.ref 1), none, none, none], [.ref 1, .ref 10], s_hg g1)) rfl ?_
    obtain ⟨v3, g2, hp, hB⟩ := s_bd2 hB
    refine s_Fin.cl (d := 2) (q1 := s_m31) (md := 31) (vs := [.ref 10, .ref 1]) (rest := []) (h1 := s_hg g2) (u := some (.int v3)) (s_Ev.up (by omega) (fP_isNewName_10_1_s hp)) rfl rfl rfl rfl ?_
    by_cases hc : v3 = 0
    · rw [if_pos hc] at hB
      refine s_Fin.bf (c := ¬ v3 = 0) (tg := 29) (p2 := 24) (L1 := [some (.ref 10), some (.ref 1), none, none, none]) (st1 := []) (fun h => h hc) rfl ?_
      refine s_Fin.sg 1 (y := (28, [some (.ref 10), some (.ref 1), none, none, none], [.int (0 : Int32)], s_hg g2)) rfl ?_
      cases hB
      obtain ⟨rfl, rfl⟩ := hr
      exact s_Fin.rt rfl rfl
    · rw [if_neg hc] at hB
      refine s_Fin.bt (c := ¬ v3 = 0) (tg := 29) (p2 := 24) (L1 := [some (.ref 10), some (.ref 1), none, none, none]) (st1 := []) hc rfl ?_
      refine s_Fin.sg 8 (y := (44, [some (.ref 10), some (.ref 1), none, none, none], [.long (g2.2.1 1 8), .int ((7 : Int32) + (g2.1 10 1)), .ref 11], s_hg g2)) rfl ?_
      obtain ⟨k5, hk5, hB⟩ := s_bd hB
      refine s_Fin.ix (n := 17) (i := (7 : Int32) + (g2.1 10 1)) (pc1 := 45) (L1 := [some (.ref 10), some (.ref 1), none, none, none]) (fun j4 => []) (fun j4 => s_hg (s_sl g2 11 j4 (g2.2.1 1 8))) hk5 rfl rfl ?_
      refine s_Fin.sg 1 (y := (46, [some (.ref 10), some (.ref 1), none, none, none], [.ref 1], s_hg (s_sl g2 11 k5 (g2.2.1 1 8)))) rfl ?_
      obtain ⟨g6, hp, hB⟩ := s_bd hB
      refine s_Fin.cl (d := 2) (q1 := s_m20) (md := 20) (vs := [.ref 1]) (rest := []) (h1 := s_hg g6) (u := none) (s_Ev.up (by omega) (fQ_next_1_s hp)) rfl rfl rfl rfl ?_
      refine s_Fin.sg 4 (y := (55, [some (.ref 10), some (.ref 1), none, none, none], [.long (g6.2.1 1 8), .ref 10, .ref 1], s_hg g6)) rfl ?_
      obtain ⟨v7, hp, hB⟩ := s_bd hB
      refine s_Fin.cl (d := 2) (q1 := s_m32) (md := 32) (vs := [.ref 10, .long (g6.2.1 1 8)]) (rest := [.ref 1]) (h1 := s_hg g6) (u := some (.int v7)) (s_Ev.up (by omega) (fP_boyNamed_10_s hp)) rfl rfl rfl rfl ?_
      obtain ⟨v9, g8, hp, hB⟩ := s_bd2 hB
      refine s_Fin.cl (d := 2) (q1 := s_m36) (md := 36) (vs := [.ref 1, .int v7]) (rest := []) (h1 := s_hg g8) (u := some (.int v9)) (s_Ev.up (by omega) (fQ_passNamed_1_s hp)) rfl rfl rfl rfl ?_
      refine s_Fin.sg 3 (y := (64, [some (.ref 10), some (.ref 1), some (.int v9), none, none], [.int (-1 : Int32), .int v9], s_hg g8)) rfl ?_
      by_cases hc : v9 = (-1 : Int32)
      · rw [if_pos hc] at hB
        refine s_Fin.bt (c := v9 = (-1 : Int32)) (tg := 74) (p2 := 64) (L1 := [some (.ref 10), some (.ref 1), some (.int v9), none, none]) (st1 := []) hc rfl ?_
        refine s_Fin.sg 1 (y := (75, [some (.ref 10), some (.ref 1), some (.int v9), none, none], [.int (0 : Int32)], s_hg g8)) rfl ?_
        cases hB
        obtain ⟨rfl, rfl⟩ := hr
        exact s_Fin.rt rfl rfl
      · rw [if_neg hc] at hB
        refine s_Fin.bf (c := v9 = (-1 : Int32)) (tg := 74) (p2 := 64) (L1 := [some (.ref 10), some (.ref 1), some (.int v9), none, none]) (st1 := []) hc rfl ?_
        refine s_Fin.sg 1 (y := (68, [some (.ref 10), some (.ref 1), some (.int v9), none, none], [.ref 1], s_hg g8)) rfl ?_
        obtain ⟨v11, g10, hp, hB⟩ := s_bd2 hB
        refine s_Fin.cl (d := 2) (q1 := s_m37) (md := 37) (vs := [.ref 1]) (rest := []) (h1 := s_hg g10) (u := some (.int v11)) (s_Ev.up (by omega) (fP_isKind_1_s hp)) rfl rfl rfl rfl ?_
        by_cases hc : v11 = 0
        · rw [if_pos hc] at hB
          refine s_Fin.bf (c := ¬ v11 = 0) (tg := 76) (p2 := 71) (L1 := [some (.ref 10), some (.ref 1), some (.int v9), none, none]) (st1 := []) (fun h => h hc) rfl ?_
          refine s_Fin.sg 1 (y := (75, [some (.ref 10), some (.ref 1), some (.int v9), none, none], [.int (0 : Int32)], s_hg g10)) rfl ?_
          cases hB
          obtain ⟨rfl, rfl⟩ := hr
          exact s_Fin.rt rfl rfl
        · rw [if_neg hc] at hB
          refine s_Fin.bt (c := ¬ v11 = 0) (tg := 76) (p2 := 71) (L1 := [some (.ref 10), some (.ref 1), some (.int v9), none, none]) (st1 := []) hc rfl ?_
          refine s_Fin.sg 2 (y := (80, [some (.ref 10), some (.ref 1), some (.int v9), none, none], [va_rf (g10.2.2 1 9)], s_hg g10)) rfl ?_
          obtain ⟨a12, ha, hB⟩ := s_bd hB
          obtain ⟨v13, hu, hB⟩ := s_bd hB
          refine s_Fin.nx (pc1 := 83) (L1 := [some (.ref 10), some (.ref 1), some (.int v9), none, none]) (st1 := [.int v13]) (h1 := s_hg g10) (by rw [ha]; exact (show _ = s_gfw 1 83 [some (.ref 10), some (.ref 1), some (.int v9), none, none] [] (s_hg g10) a12 from rfl).trans (s_wkd_of hu)) rfl ?_
          refine s_Fin.sg 2 (y := (85, [some (.ref 10), some (.ref 1), some (.int v9), some (.int v13), none], [.ref 1], s_hg g10)) rfl ?_
          obtain ⟨g14, hp, hB⟩ := s_bd hB
          refine s_Fin.cl (d := 2) (q1 := s_m20) (md := 20) (vs := [.ref 1]) (rest := []) (h1 := s_hg g14) (u := none) (s_Ev.up (by omega) (fQ_next_1_s hp)) rfl rfl rfl rfl ?_
          refine s_Fin.sg 3 (y := (92, [some (.ref 10), some (.ref 1), some (.int v9), some (.int v13), none], [.int (40 : Int32), .int (1 : Int32), .ref 1], s_hg g14)) rfl ?_
          obtain ⟨v16, g15, hp, hB⟩ := s_bd2 hB
          refine s_Fin.cl (d := 2) (q1 := s_m34) (md := 34) (vs := [.ref 1, .int (1 : Int32), .int (40 : Int32)]) (rest := []) (h1 := s_hg g15) (u := some (.int v16)) (s_Ev.up (by omega) (fQ_passNumber_1_s hp)) rfl rfl rfl rfl ?_
          refine s_Fin.sg 3 (y := (100, [some (.ref 10), some (.ref 1), some (.int v9), some (.int v13), some (.int v16)], [.int (-1 : Int32), .int v16], s_hg g15)) rfl ?_
          by_cases hc : v16 = (-1 : Int32)
          · rw [if_pos hc] at hB
            refine s_Fin.bf (c := ¬ v16 = (-1 : Int32)) (tg := 105) (p2 := 100) (L1 := [some (.ref 10), some (.ref 1), some (.int v9), some (.int v13), some (.int v16)]) (st1 := []) (fun h => h hc) rfl ?_
            refine s_Fin.sg 1 (y := (104, [some (.ref 10), some (.ref 1), some (.int v9), some (.int v13), some (.int v16)], [.int (0 : Int32)], s_hg g15)) rfl ?_
            cases hB
            obtain ⟨rfl, rfl⟩ := hr
            exact s_Fin.rt rfl rfl
          · rw [if_neg hc] at hB
            refine s_Fin.bt (c := ¬ v16 = (-1 : Int32)) (tg := 105) (p2 := 100) (L1 := [some (.ref 10), some (.ref 1), some (.int v9), some (.int v13), some (.int v16)]) (st1 := []) hc rfl ?_
            refine s_Fin.sg 5 (y := (114, [some (.ref 10), some (.ref 1), some (.int v9), some (.int v13), some (.int v16)], [.int v9, .int (g15.1 10 1), .ref 13], s_hg g15)) rfl ?_
            obtain ⟨k18, hk18, hB⟩ := s_bd hB
            refine s_Fin.ix (n := 10) (i := g15.1 10 1) (pc1 := 115) (L1 := [some (.ref 10), some (.ref 1), some (.int v9), some (.int v13), some (.int v16)]) (fun j17 => []) (fun j17 => s_hg (s_si g15 13 j17 v9)) hk18 rfl rfl ?_
            refine s_Fin.sg 5 (y := (124, [some (.ref 10), some (.ref 1), some (.int v9), some (.int v13), some (.int v16)], [.int v13, .int (g15.1 10 1), .ref 14], s_hg (s_si g15 13 k18 v9))) rfl ?_
            refine s_Fin.ix (n := 10) (i := g15.1 10 1) (pc1 := 125) (L1 := [some (.ref 10), some (.ref 1), some (.int v9), some (.int v13), some (.int v16)]) (fun j19 => []) (fun j19 => s_hg (s_si (s_si g15 13 k18 v9) 14 j19 v13)) hk18 rfl rfl ?_
            refine s_Fin.sg 5 (y := (135, [some (.ref 10), some (.ref 1), some (.int v9), some (.int v13), some (.int v16)], [.int v16, .int (g15.1 10 1), .ref 15], s_hg (s_si (s_si g15 13 k18 v9) 14 k18 v13))) rfl ?_
            refine s_Fin.ix (n := 10) (i := g15.1 10 1) (pc1 := 136) (L1 := [some (.ref 10), some (.ref 1), some (.int v9), some (.int v13), some (.int v16)]) (fun j20 => []) (fun j20 => s_hg (s_si (s_si (s_si g15 13 k18 v9) 14 k18 v13) 15 j20 v16)) hk18 rfl rfl ?_
            refine s_Fin.sg 7 (y := (147, [some (.ref 10), some (.ref 1), some (.int v9), some (.int v13), some (.int v16)], [.int (1 : Int32)], s_hg (s_si (s_si (s_si (s_si g15 13 k18 v9) 14 k18 v13) 15 k18 v16) 10 1 ((g15.1 10 1) + (1 : Int32))))) rfl ?_
            cases hB
            obtain ⟨rfl, rfl⟩ := hr
            exact s_Fin.rt rfl rfl
  · rw [if_neg hc] at hB
    refine s_Fin.bf (c := (g.1 10 1) < (10 : Int32)) (tg := 15) (p2 := 6) (L1 := [some (.ref 10), some (.ref 1), none, none, none]) (st1 := []) hc rfl ?_
    refine s_Fin.sg 2 (y := (11, [some (.ref 10), some (.ref 1), none, none, none], [.int (4 : Int32), .ref 1], s_hg g)) rfl ?_
    obtain ⟨v22, g21, hp, hB⟩ := s_bd2 hB
    refine s_Fin.cl (d := 2) (q1 := s_m30) (md := 30) (vs := [.ref 1, .int (4 : Int32)]) (rest := []) (h1 := s_hg g21) (u := some (.int v22)) (s_Ev.up (by omega) (fQ_fail_1_s hp)) rfl rfl rfl rfl ?_
    have hc : v22 = 0 ∨ v22 = 1 := Classical.byContradiction fun h => (by rw [if_neg h] at hB; cases hB)
    rw [if_pos hc] at hB
    cases hB
    obtain ⟨rfl, rfl⟩ := hr
    exact s_Fin.rt (by rcases hc with hc | hc <;> rw [hc] <;> exact rfl) rfl
-- CampAshes$Camp.readBoy
noncomputable def fP_readBoy_10_1 (g : s_G) : Option (Int32 × s_G) :=
  if (g.1 10 0) < (7 : Int32) then (s_b1 (fQ_next_1 g) fun g1 => s_b2 (fP_isNewName_10_1 g1) fun v3 g2 => if v3 = 0 then (some ((0 : Int32), g2))
  else s_b1 (s_ix 17 (g2.1 10 0)) fun k5 => s_b1 (fQ_next_1 (s_sl g2 11 k5 (g2.2.1 1 8))) fun g6 => s_b2 (fQ_passNumber_1 (1 : Int32) (60 : Int32) g6) fun v8 g7 => if v8 = (-1 : Int32) then (some ((0 : Int32), g7))
  else s_b1 (s_ix 7 (g7.1 10 0)) fun k10 => some ((1 : Int32), (s_si (s_si g7 12 k10 v8) 10 0 ((g7.1 10 0) + (1 : Int32)))))
  else s_b2 (fQ_fail_1 (4 : Int32) g) fun v12 g11 => if v12 = 0 ∨ v12 = 1 then some (v12, g11)
  else none
theorem fP_readBoy_10_1_s {g : s_G} {z : Int32 × s_G} (hB : fP_readBoy_10_1 g = some z) : s_Ev 3 s_m29 [.ref 10, .ref 1] (s_hg g) (some (.int z.1)) (s_hg z.2) := by
  unfold fP_readBoy_10_1 at hB
  refine s_Ev.fin ((?_ : ∀ (v : Option Value) (h' : s_H), (fun (z : Int32 × s_G) (v : Option Value) (h' : s_H) => v = some (.int z.1) ∧ h' = s_hg z.2) z v h' → s_Fin 3 s_m29 (0, s_ent [.ref 10, .ref 1] (s_m29).2.2.1, [], s_hg g) v h') _ _ ⟨rfl, rfl⟩)
  intro v h' hr
  refine (show s_Fin 3 s_m29 (0, [some (.ref 10), some (.ref 1), none], [], s_hg g) v h' from ?_)
  refine s_Fin.sg 3 (y := (6, [some (.ref 10), some (.ref 1), none], [.int (7 : Int32), .int (g.1 10 0)], s_hg g)) rfl ?_
  by_cases hc : (g.1 10 0) < (7 : Int32)
  · rw [if_pos hc] at hB
    refine s_Fin.bt (c := (g.1 10 0) < (7 : Int32)) (tg := 15) (p2 := 6) (L1 := [some (.ref 10), some (.ref 1), none]) (st1 := []) hc rfl ?_
    refine s_Fin.sg 1 (y := (16, [some (.ref 10), some (.ref 1), none], [.ref 1], s_hg g)) rfl ?_
    obtain ⟨g1, hp, hB⟩ := s_bd hB
    refine s_Fin.cl (d := 2) (q1 := s_m20) (md := 20) (vs := [.ref 1]) (rest := []) (h1 := s_hg g1) (u := none) (s_Ev.up (by omega) (fQ_next_1_s hp)) rfl rfl rfl rfl ?_
    refine s_Fin.sg 2 (y := (21, [some (.ref 10), some (.ref 1), none], [.ref 1, .ref 10], s_hg g1)) rfl ?_
    obtain ⟨v3, g2, hp, hB⟩ := s_bd2 hB
    refine s_Fin.cl (d := 2) (q1 := s_m31) (md := 31) (vs := [.ref 10, .ref 1]) (rest := []) (h1 := s_hg g2) (u := some (.int v3)) (s_Ev.up (by omega) (fP_isNewName_10_1_s hp)) rfl rfl rfl rfl ?_
    by_cases hc : v3 = 0
    · rw [if_pos hc] at hB
      refine s_Fin.bf (c := ¬ v3 = 0) (tg := 29) (p2 := 24) (L1 := [some (.ref 10), some (.ref 1), none]) (st1 := []) (fun h => h hc) rfl ?_
      refine s_Fin.sg 1 (y := (28, [some (.ref 10), some (.ref 1), none], [.int (0 : Int32)], s_hg g2)) rfl ?_
      cases hB
      obtain ⟨rfl, rfl⟩ := hr
      exact s_Fin.rt rfl rfl
    · rw [if_neg hc] at hB
      refine s_Fin.bt (c := ¬ v3 = 0) (tg := 29) (p2 := 24) (L1 := [some (.ref 10), some (.ref 1), none]) (st1 := []) hc rfl ?_
      refine s_Fin.sg 6 (y := (41, [some (.ref 10), some (.ref 1), none], [.long (g2.2.1 1 8), .int (g2.1 10 0), .ref 11], s_hg g2)) rfl ?_
      obtain ⟨k5, hk5, hB⟩ := s_bd hB
      refine s_Fin.ix (n := 17) (i := g2.1 10 0) (pc1 := 42) (L1 := [some (.ref 10), some (.ref 1), none]) (fun j4 => []) (fun j4 => s_hg (s_sl g2 11 j4 (g2.2.1 1 8))) hk5 rfl rfl ?_
      refine s_Fin.sg 1 (y := (43, [some (.ref 10), some (.ref 1), none], [.ref 1], s_hg (s_sl g2 11 k5 (g2.2.1 1 8)))) rfl ?_
      obtain ⟨g6, hp, hB⟩ := s_bd hB
      refine s_Fin.cl (d := 2) (q1 := s_m20) (md := 20) (vs := [.ref 1]) (rest := []) (h1 := s_hg g6) (u := none) (s_Ev.up (by omega) (fQ_next_1_s hp)) rfl rfl rfl rfl ?_
      refine s_Fin.sg 3 (y := (50, [some (.ref 10), some (.ref 1), none], [.int (60 : Int32), .int (1 : Int32), .ref 1], s_hg g6)) rfl ?_
      obtain ⟨v8, g7, hp, hB⟩ := s_bd2 hB
      refine s_Fin.cl (d := 2) (q1 := s_m34) (md := 34) (vs := [.ref 1, .int (1 : Int32), .int (60 : Int32)]) (rest := []) (h1 := s_hg g7) (u := some (.int v8)) (s_Ev.up (by omega) (fQ_passNumber_1_s hp)) rfl rfl rfl rfl ?_
      refine s_Fin.sg 3 (y := (56, [some (.ref 10), some (.ref 1), some (.int v8)], [.int (-1 : Int32), .int v8], s_hg g7)) rfl ?_
      by_cases hc : v8 = (-1 : Int32)
      · rw [if_pos hc] at hB
        refine s_Fin.bf (c := ¬ v8 = (-1 : Int32)) (tg := 61) (p2 := 56) (L1 := [some (.ref 10), some (.ref 1), some (.int v8)]) (st1 := []) (fun h => h hc) rfl ?_
        refine s_Fin.sg 1 (y := (60, [some (.ref 10), some (.ref 1), some (.int v8)], [.int (0 : Int32)], s_hg g7)) rfl ?_
        cases hB
        obtain ⟨rfl, rfl⟩ := hr
        exact s_Fin.rt rfl rfl
      · rw [if_neg hc] at hB
        refine s_Fin.bt (c := ¬ v8 = (-1 : Int32)) (tg := 61) (p2 := 56) (L1 := [some (.ref 10), some (.ref 1), some (.int v8)]) (st1 := []) hc rfl ?_
        refine s_Fin.sg 5 (y := (70, [some (.ref 10), some (.ref 1), some (.int v8)], [.int v8, .int (g7.1 10 0), .ref 12], s_hg g7)) rfl ?_
        obtain ⟨k10, hk10, hB⟩ := s_bd hB
        refine s_Fin.ix (n := 7) (i := g7.1 10 0) (pc1 := 71) (L1 := [some (.ref 10), some (.ref 1), some (.int v8)]) (fun j9 => []) (fun j9 => s_hg (s_si g7 12 j9 v8)) hk10 rfl rfl ?_
        refine s_Fin.sg 7 (y := (82, [some (.ref 10), some (.ref 1), some (.int v8)], [.int (1 : Int32)], s_hg (s_si (s_si g7 12 k10 v8) 10 0 ((g7.1 10 0) + (1 : Int32))))) rfl ?_
        cases hB
        obtain ⟨rfl, rfl⟩ := hr
        exact s_Fin.rt rfl rfl
  · rw [if_neg hc] at hB
    refine s_Fin.bf (c := (g.1 10 0) < (7 : Int32)) (tg := 15) (p2 := 6) (L1 := [some (.ref 10), some (.ref 1), none]) (st1 := []) hc rfl ?_
    refine s_Fin.sg 2 (y := (11, [some (.ref 10), some (.ref 1), none], [.int (4 : Int32), .ref 1], s_hg g)) rfl ?_
    obtain ⟨v12, g11, hp, hB⟩ := s_bd2 hB
    refine s_Fin.cl (d := 2) (q1 := s_m30) (md := 30) (vs := [.ref 1, .int (4 : Int32)]) (rest := []) (h1 := s_hg g11) (u := some (.int v12)) (s_Ev.up (by omega) (fQ_fail_1_s hp)) rfl rfl rfl rfl ?_
    have hc : v12 = 0 ∨ v12 = 1 := Classical.byContradiction fun h => (by rw [if_neg h] at hB; cases hB)
    rw [if_pos hc] at hB
    cases hB
    obtain ⟨rfl, rfl⟩ := hr
    exact s_Fin.rt (by rcases hc with hc | hc <;> rw [hc] <;> exact rfl) rfl
-- CampAshes$Camp.readLine
noncomputable def fP_readLine_10_1 (g : s_G) : Option (Int32 × s_G) :=
  s_b1 (fQ_isWord_1_1000 g) fun v1 => if v1 = 0 then (s_b1 (fQ_isWord_1_1001 g) fun v2 => if v2 = 0 then (s_b1 (fQ_isWord_1_1002 g) fun v3 => if v3 = 0 then (s_b2 (fP_readOnce_10_1 g) fun v5 g4 => if v5 = 0 ∨ v5 = 1 then some (v5, g4)
  else none)
  else s_b2 (fP_readTakes_10_1 g) fun v7 g6 => if v7 = 0 ∨ v7 = 1 then some (v7, g6)
  else none)
  else s_b2 (fP_readEvent_10_1 g) fun v9 g8 => if v9 = 0 ∨ v9 = 1 then some (v9, g8)
  else none)
  else s_b2 (fP_readBoy_10_1 g) fun v11 g10 => if v11 = 0 ∨ v11 = 1 then some (v11, g10)
  else none
theorem fP_readLine_10_1_s {g : s_G} {z : Int32 × s_G} (hB : fP_readLine_10_1 g = some z) : s_Ev 5 s_m27 [.ref 10, .ref 1] (s_hg g) (some (.int z.1)) (s_hg z.2) := by
  unfold fP_readLine_10_1 at hB
  refine s_Ev.fin ((?_ : ∀ (v : Option Value) (h' : s_H), (fun (z : Int32 × s_G) (v : Option Value) (h' : s_H) => v = some (.int z.1) ∧ h' = s_hg z.2) z v h' → s_Fin 5 s_m27 (0, s_ent [.ref 10, .ref 1] (s_m27).2.2.1, [], s_hg g) v h') _ _ ⟨rfl, rfl⟩)
  intro v h' hr
  refine (show s_Fin 5 s_m27 (0, [some (.ref 10), some (.ref 1)], [], s_hg g) v h' from ?_)
  refine s_Fin.sg 2 (y := (4, [some (.ref 10), some (.ref 1)], [.ref 1000, .ref 1], s_hg g)) rfl ?_
  obtain ⟨v1, hp, hB⟩ := s_bd hB
  refine s_Fin.cl (d := 4) (q1 := s_m28) (md := 28) (vs := [.ref 1, .ref 1000]) (rest := []) (h1 := s_hg g) (u := some (.int v1)) (s_Ev.up (by omega) (fQ_isWord_1_1000_s hp)) rfl rfl rfl rfl ?_
  by_cases hc : v1 = 0
  · rw [if_pos hc] at hB
    refine s_Fin.bt (c := v1 = 0) (tg := 16) (p2 := 7) (L1 := [some (.ref 10), some (.ref 1)]) (st1 := []) hc rfl ?_
    refine s_Fin.sg 2 (y := (20, [some (.ref 10), some (.ref 1)], [.ref 1001, .ref 1], s_hg g)) rfl ?_
    obtain ⟨v2, hp, hB⟩ := s_bd hB
    refine s_Fin.cl (d := 4) (q1 := s_m28) (md := 28) (vs := [.ref 1, .ref 1001]) (rest := []) (h1 := s_hg g) (u := some (.int v2)) (s_Ev.up (by omega) (fQ_isWord_1_1001_s hp)) rfl rfl rfl rfl ?_
    by_cases hc : v2 = 0
    · rw [if_pos hc] at hB
      refine s_Fin.bt (c := v2 = 0) (tg := 32) (p2 := 23) (L1 := [some (.ref 10), some (.ref 1)]) (st1 := []) hc rfl ?_
      refine s_Fin.sg 2 (y := (36, [some (.ref 10), some (.ref 1)], [.ref 1002, .ref 1], s_hg g)) rfl ?_
      obtain ⟨v3, hp, hB⟩ := s_bd hB
      refine s_Fin.cl (d := 4) (q1 := s_m28) (md := 28) (vs := [.ref 1, .ref 1002]) (rest := []) (h1 := s_hg g) (u := some (.int v3)) (s_Ev.up (by omega) (fQ_isWord_1_1002_s hp)) rfl rfl rfl rfl ?_
      by_cases hc : v3 = 0
      · rw [if_pos hc] at hB
        refine s_Fin.bt (c := v3 = 0) (tg := 48) (p2 := 39) (L1 := [some (.ref 10), some (.ref 1)]) (st1 := []) hc rfl ?_
        refine s_Fin.sg 2 (y := (50, [some (.ref 10), some (.ref 1)], [.ref 1, .ref 10], s_hg g)) rfl ?_
        obtain ⟨v5, g4, hp, hB⟩ := s_bd2 hB
        refine s_Fin.cl (d := 4) (q1 := s_m39) (md := 39) (vs := [.ref 10, .ref 1]) (rest := []) (h1 := s_hg g4) (u := some (.int v5)) (s_Ev.up (by omega) (fP_readOnce_10_1_s hp)) rfl rfl rfl rfl ?_
        have hc : v5 = 0 ∨ v5 = 1 := Classical.byContradiction fun h => (by rw [if_neg h] at hB; cases hB)
        rw [if_pos hc] at hB
        cases hB
        obtain ⟨rfl, rfl⟩ := hr
        exact s_Fin.rt (by rcases hc with hc | hc <;> rw [hc] <;> exact rfl) rfl
      · rw [if_neg hc] at hB
        refine s_Fin.bf (c := v3 = 0) (tg := 48) (p2 := 39) (L1 := [some (.ref 10), some (.ref 1)]) (st1 := []) hc rfl ?_
        refine s_Fin.sg 2 (y := (44, [some (.ref 10), some (.ref 1)], [.ref 1, .ref 10], s_hg g)) rfl ?_
        obtain ⟨v7, g6, hp, hB⟩ := s_bd2 hB
        refine s_Fin.cl (d := 4) (q1 := s_m38) (md := 38) (vs := [.ref 10, .ref 1]) (rest := []) (h1 := s_hg g6) (u := some (.int v7)) (s_Ev.up (by omega) (fP_readTakes_10_1_s hp)) rfl rfl rfl rfl ?_
        have hc : v7 = 0 ∨ v7 = 1 := Classical.byContradiction fun h => (by rw [if_neg h] at hB; cases hB)
        rw [if_pos hc] at hB
        cases hB
        obtain ⟨rfl, rfl⟩ := hr
        exact s_Fin.rt (by rcases hc with hc | hc <;> rw [hc] <;> exact rfl) rfl
    · rw [if_neg hc] at hB
      refine s_Fin.bf (c := v2 = 0) (tg := 32) (p2 := 23) (L1 := [some (.ref 10), some (.ref 1)]) (st1 := []) hc rfl ?_
      refine s_Fin.sg 2 (y := (28, [some (.ref 10), some (.ref 1)], [.ref 1, .ref 10], s_hg g)) rfl ?_
      obtain ⟨v9, g8, hp, hB⟩ := s_bd2 hB
      refine s_Fin.cl (d := 4) (q1 := s_m35) (md := 35) (vs := [.ref 10, .ref 1]) (rest := []) (h1 := s_hg g8) (u := some (.int v9)) (s_Ev.up (by omega) (fP_readEvent_10_1_s hp)) rfl rfl rfl rfl ?_
      have hc : v9 = 0 ∨ v9 = 1 := Classical.byContradiction fun h => (by rw [if_neg h] at hB; cases hB)
      rw [if_pos hc] at hB
      cases hB
      obtain ⟨rfl, rfl⟩ := hr
      exact s_Fin.rt (by rcases hc with hc | hc <;> rw [hc] <;> exact rfl) rfl
  · rw [if_neg hc] at hB
    refine s_Fin.bf (c := v1 = 0) (tg := 16) (p2 := 7) (L1 := [some (.ref 10), some (.ref 1)]) (st1 := []) hc rfl ?_
    refine s_Fin.sg 2 (y := (12, [some (.ref 10), some (.ref 1)], [.ref 1, .ref 10], s_hg g)) rfl ?_
    obtain ⟨v11, g10, hp, hB⟩ := s_bd2 hB
    refine s_Fin.cl (d := 4) (q1 := s_m29) (md := 29) (vs := [.ref 10, .ref 1]) (rest := []) (h1 := s_hg g10) (u := some (.int v11)) (s_Ev.up (by omega) (fP_readBoy_10_1_s hp)) rfl rfl rfl rfl ?_
    have hc : v11 = 0 ∨ v11 = 1 := Classical.byContradiction fun h => (by rw [if_neg h] at hB; cases hB)
    rw [if_pos hc] at hB
    cases hB
    obtain ⟨rfl, rfl⟩ := hr
    exact s_Fin.rt (by rcases hc with hc | hc <;> rw [hc] <;> exact rfl) rfl
-- CampAshes$Tape.isSign
noncomputable def fQ_isSign_1 (x1 : Int32) (g : s_G) : Option (Int32) :=
  if (g.1 1 5) = (5 : Int32) then (if (g.1 1 7) = x1 then (some (1 : Int32))
  else some (0 : Int32))
  else some (0 : Int32)
theorem fQ_isSign_1_s {x1 : Int32} {g : s_G} {z : Int32} (hB : fQ_isSign_1 x1 g = some z) : s_Ev 0 s_m42 [.ref 1, .int x1] (s_hg g) (some (.int z)) (s_hg g) := by
  unfold fQ_isSign_1 at hB
  refine s_Ev.fin ((?_ : ∀ (v : Option Value) (h' : s_H), (fun (z : Int32) (v : Option Value) (h' : s_H) => v = some (.int z) ∧ h' = s_hg g) z v h' → s_Fin 0 s_m42 (0, s_ent [.ref 1, .int x1] (s_m42).2.2.1, [], s_hg g) v h') _ _ ⟨rfl, rfl⟩)
  intro v h' hr
  refine (show s_Fin 0 s_m42 (0, [some (.ref 1), some (.int x1)], [], s_hg g) v h' from ?_)
  refine s_Fin.sg 3 (y := (5, [some (.ref 1), some (.int x1)], [.int (5 : Int32), .int (g.1 1 5)], s_hg g)) rfl ?_
  by_cases hc : (g.1 1 5) = (5 : Int32)
  · rw [if_pos hc] at hB
    refine s_Fin.bf (c := ¬ (g.1 1 5) = (5 : Int32)) (tg := 20) (p2 := 5) (L1 := [some (.ref 1), some (.int x1)]) (st1 := []) (fun h => h hc) rfl ?_
    refine s_Fin.sg 3 (y := (13, [some (.ref 1), some (.int x1)], [.int x1, .int (g.1 1 7)], s_hg g)) rfl ?_
    by_cases hc : (g.1 1 7) = x1
    · rw [if_pos hc] at hB
      refine s_Fin.bf (c := ¬ (g.1 1 7) = x1) (tg := 20) (p2 := 13) (L1 := [some (.ref 1), some (.int x1)]) (st1 := []) (fun h => h hc) rfl ?_
      refine s_Fin.sg 2 (y := (21, [some (.ref 1), some (.int x1)], [.int (1 : Int32)], s_hg g)) rfl ?_
      cases hB
      obtain ⟨rfl, rfl⟩ := hr
      exact s_Fin.rt rfl rfl
    · rw [if_neg hc] at hB
      refine s_Fin.bt (c := ¬ (g.1 1 7) = x1) (tg := 20) (p2 := 13) (L1 := [some (.ref 1), some (.int x1)]) (st1 := []) hc rfl ?_
      refine s_Fin.sg 1 (y := (21, [some (.ref 1), some (.int x1)], [.int (0 : Int32)], s_hg g)) rfl ?_
      cases hB
      obtain ⟨rfl, rfl⟩ := hr
      exact s_Fin.rt rfl rfl
  · rw [if_neg hc] at hB
    refine s_Fin.bt (c := ¬ (g.1 1 5) = (5 : Int32)) (tg := 20) (p2 := 5) (L1 := [some (.ref 1), some (.int x1)]) (st1 := []) hc rfl ?_
    refine s_Fin.sg 1 (y := (21, [some (.ref 1), some (.int x1)], [.int (0 : Int32)], s_hg g)) rfl ?_
    cases hB
    obtain ⟨rfl, rfl⟩ := hr
    exact s_Fin.rt rfl rfl
-- CampAshes$Tape.passSign
noncomputable def fQ_passSign_1 (x1 : Int32) (g : s_G) : Option (Int32 × s_G) :=
  s_b1 (fQ_isSign_1 x1 g) fun v1 => if v1 = 0 then (s_b2 (fQ_fail_1 (1 : Int32) g) fun v3 g2 => if v3 = 0 ∨ v3 = 1 then some (v3, g2)
  else none)
  else s_b1 (fQ_next_1 g) fun g4 => some ((1 : Int32), g4)
theorem fQ_passSign_1_s {x1 : Int32} {g : s_G} {z : Int32 × s_G} (hB : fQ_passSign_1 x1 g = some z) : s_Ev 2 s_m41 [.ref 1, .int x1] (s_hg g) (some (.int z.1)) (s_hg z.2) := by
  unfold fQ_passSign_1 at hB
  refine s_Ev.fin ((?_ : ∀ (v : Option Value) (h' : s_H), (fun (z : Int32 × s_G) (v : Option Value) (h' : s_H) => v = some (.int z.1) ∧ h' = s_hg z.2) z v h' → s_Fin 2 s_m41 (0, s_ent [.ref 1, .int x1] (s_m41).2.2.1, [], s_hg g) v h') _ _ ⟨rfl, rfl⟩)
  intro v h' hr
  refine (show s_Fin 2 s_m41 (0, [some (.ref 1), some (.int x1)], [], s_hg g) v h' from ?_)
  refine s_Fin.sg 2 (y := (2, [some (.ref 1), some (.int x1)], [.int x1, .ref 1], s_hg g)) rfl ?_
  obtain ⟨v1, hp, hB⟩ := s_bd hB
  refine s_Fin.cl (d := 1) (q1 := s_m42) (md := 42) (vs := [.ref 1, .int x1]) (rest := []) (h1 := s_hg g) (u := some (.int v1)) (s_Ev.up (by omega) (fQ_isSign_1_s hp)) rfl rfl rfl rfl ?_
  by_cases hc : v1 = 0
  · rw [if_pos hc] at hB
    refine s_Fin.bf (c := ¬ v1 = 0) (tg := 14) (p2 := 5) (L1 := [some (.ref 1), some (.int x1)]) (st1 := []) (fun h => h hc) rfl ?_
    refine s_Fin.sg 2 (y := (10, [some (.ref 1), some (.int x1)], [.int (1 : Int32), .ref 1], s_hg g)) rfl ?_
    obtain ⟨v3, g2, hp, hB⟩ := s_bd2 hB
    refine s_Fin.cl (d := 1) (q1 := s_m30) (md := 30) (vs := [.ref 1, .int (1 : Int32)]) (rest := []) (h1 := s_hg g2) (u := some (.int v3)) (s_Ev.up (by omega) (fQ_fail_1_s hp)) rfl rfl rfl rfl ?_
    have hc : v3 = 0 ∨ v3 = 1 := Classical.byContradiction fun h => (by rw [if_neg h] at hB; cases hB)
    rw [if_pos hc] at hB
    cases hB
    obtain ⟨rfl, rfl⟩ := hr
    exact s_Fin.rt (by rcases hc with hc | hc <;> rw [hc] <;> exact rfl) rfl
  · rw [if_neg hc] at hB
    refine s_Fin.bt (c := ¬ v1 = 0) (tg := 14) (p2 := 5) (L1 := [some (.ref 1), some (.int x1)]) (st1 := []) hc rfl ?_
    refine s_Fin.sg 1 (y := (15, [some (.ref 1), some (.int x1)], [.ref 1], s_hg g)) rfl ?_
    obtain ⟨g4, hp, hB⟩ := s_bd hB
    refine s_Fin.cl (d := 1) (q1 := s_m20) (md := 20) (vs := [.ref 1]) (rest := []) (h1 := s_hg g4) (u := none) (s_Ev.up (by omega) (fQ_next_1_s hp)) rfl rfl rfl rfl ?_
    refine s_Fin.sg 1 (y := (19, [some (.ref 1), some (.int x1)], [.int (1 : Int32)], s_hg g4)) rfl ?_
    cases hB
    obtain ⟨rfl, rfl⟩ := hr
    exact s_Fin.rt rfl rfl
-- CampAshes$Camp.readText
noncomputable def fP_readText_10_1_6 (x2 : Int32) (g : s_G) : Option ((Int32 × s_G) ⊕ (Int32 × s_G)) :=
  if x2 < (940 : Int32) then (s_b1 (fQ_hasEnded_1 g) fun v2 => if v2 = 0 then (s_b2 (fP_readLine_10_1 g) fun v4 g3 => if v4 = 0 then (s_in (some ((-1 : Int32), g3)))
  else s_b2 (fQ_passSign_1 (59 : Int32) g3) fun v6 g5 => if v6 = 0 then (s_in (some ((-1 : Int32), g5)))
  else some (.inl (x2 + (1 : Int32), g5)))
  else s_in (some (x2, g)))
  else s_in (s_b2 (fQ_fail_1 (1 : Int32) g) fun v8 g7 => some ((-1 : Int32), g7))
theorem fP_readText_10_1_6_s {x2 : Int32} {g : s_G} {z : (Int32 × s_G) ⊕ (Int32 × s_G)} (hB : fP_readText_10_1_6 x2 g = some z) {v : Option Value} {h' : s_H} (hr : (s_sm (fun (x : Int32 × s_G) (v : Option Value) (h' : s_H) => s_Fin 6 s_m25 (6, [some (.ref 10), some (.ref 1), some (.int x.1)], [], s_hg x.2) v h') (fun (z : Int32 × s_G) (v : Option Value) (h' : s_H) => v = some (.int z.1) ∧ h' = s_hg z.2)) z v h') : s_Fin 6 s_m25 (6, [some (.ref 10), some (.ref 1), some (.int x2)], [], s_hg g) v h' := by
  unfold fP_readText_10_1_6 at hB
  refine s_Fin.sg 2 (y := (10, [some (.ref 10), some (.ref 1), some (.int x2)], [.int (940 : Int32), .int x2], s_hg g)) rfl ?_
  by_cases hc : x2 < (940 : Int32)
  · rw [if_pos hc] at hB
    refine s_Fin.bf (c := (940 : Int32) ≤ x2) (tg := 47) (p2 := 10) (L1 := [some (.ref 10), some (.ref 1), some (.int x2)]) (st1 := []) (Int32.not_le.mpr hc) rfl ?_
    refine s_Fin.sg 1 (y := (14, [some (.ref 10), some (.ref 1), some (.int x2)], [.ref 1], s_hg g)) rfl ?_
    obtain ⟨v2, hp, hB⟩ := s_bd hB
    refine s_Fin.cl (d := 5) (q1 := s_m26) (md := 26) (vs := [.ref 1]) (rest := []) (h1 := s_hg g) (u := some (.int v2)) (s_Ev.up (by omega) (fQ_hasEnded_1_s hp)) rfl rfl rfl rfl ?_
    by_cases hc : v2 = 0
    · rw [if_pos hc] at hB
      refine s_Fin.bt (c := v2 = 0) (tg := 22) (p2 := 17) (L1 := [some (.ref 10), some (.ref 1), some (.int x2)]) (st1 := []) hc rfl ?_
      refine s_Fin.sg 2 (y := (24, [some (.ref 10), some (.ref 1), some (.int x2)], [.ref 1, .ref 10], s_hg g)) rfl ?_
      obtain ⟨v4, g3, hp, hB⟩ := s_bd2 hB
      refine s_Fin.cl (d := 5) (q1 := s_m27) (md := 27) (vs := [.ref 10, .ref 1]) (rest := []) (h1 := s_hg g3) (u := some (.int v4)) (s_Ev.up (by omega) (fP_readLine_10_1_s hp)) rfl rfl rfl rfl ?_
      by_cases hc : v4 = 0
      · rw [if_pos hc] at hB
        refine s_Fin.bt (c := v4 = 0) (tg := 39) (p2 := 27) (L1 := [some (.ref 10), some (.ref 1), some (.int x2)]) (st1 := []) hc rfl ?_
        obtain ⟨z, hB, rfl⟩ := s_in_of hB
        refine s_Fin.sg 1 (y := (40, [some (.ref 10), some (.ref 1), some (.int x2)], [.int (-1 : Int32)], s_hg g3)) rfl ?_
        cases hB
        obtain ⟨rfl, rfl⟩ := hr
        exact s_Fin.rt rfl rfl
      · rw [if_neg hc] at hB
        refine s_Fin.bf (c := v4 = 0) (tg := 39) (p2 := 27) (L1 := [some (.ref 10), some (.ref 1), some (.int x2)]) (st1 := []) hc rfl ?_
        refine s_Fin.sg 2 (y := (33, [some (.ref 10), some (.ref 1), some (.int x2)], [.int (59 : Int32), .ref 1], s_hg g3)) rfl ?_
        obtain ⟨v6, g5, hp, hB⟩ := s_bd2 hB
        refine s_Fin.cl (d := 5) (q1 := s_m41) (md := 41) (vs := [.ref 1, .int (59 : Int32)]) (rest := []) (h1 := s_hg g5) (u := some (.int v6)) (s_Ev.up (by omega) (fQ_passSign_1_s hp)) rfl rfl rfl rfl ?_
        by_cases hc : v6 = 0
        · rw [if_pos hc] at hB
          refine s_Fin.bf (c := ¬ v6 = 0) (tg := 41) (p2 := 36) (L1 := [some (.ref 10), some (.ref 1), some (.int x2)]) (st1 := []) (fun h => h hc) rfl ?_
          obtain ⟨z, hB, rfl⟩ := s_in_of hB
          refine s_Fin.sg 1 (y := (40, [some (.ref 10), some (.ref 1), some (.int x2)], [.int (-1 : Int32)], s_hg g5)) rfl ?_
          cases hB
          obtain ⟨rfl, rfl⟩ := hr
          exact s_Fin.rt rfl rfl
        · rw [if_neg hc] at hB
          refine s_Fin.bt (c := ¬ v6 = 0) (tg := 41) (p2 := 36) (L1 := [some (.ref 10), some (.ref 1), some (.int x2)]) (st1 := []) hc rfl ?_
          refine s_Fin.sg 2 (y := (6, [some (.ref 10), some (.ref 1), some (.int (x2 + (1 : Int32)))], [], s_hg g5)) rfl ?_
          cases hB
          exact s_Fin.more (L := [some (.ref 10), some (.ref 1), some (.int (x2 + (1 : Int32)))]) ⟨Or.inr rfl, Or.inr rfl, Or.inr rfl, trivial⟩ hr
    · rw [if_neg hc] at hB
      refine s_Fin.bf (c := v2 = 0) (tg := 22) (p2 := 17) (L1 := [some (.ref 10), some (.ref 1), some (.int x2)]) (st1 := []) hc rfl ?_
      obtain ⟨z, hB, rfl⟩ := s_in_of hB
      refine s_Fin.sg 1 (y := (21, [some (.ref 10), some (.ref 1), some (.int x2)], [.int x2], s_hg g)) rfl ?_
      cases hB
      obtain ⟨rfl, rfl⟩ := hr
      exact s_Fin.rt rfl rfl
  · rw [if_neg hc] at hB
    refine s_Fin.bt (c := (940 : Int32) ≤ x2) (tg := 47) (p2 := 10) (L1 := [some (.ref 10), some (.ref 1), some (.int x2)]) (st1 := []) (Int32.not_lt.mp hc) rfl ?_
    obtain ⟨z, hB, rfl⟩ := s_in_of hB
    refine s_Fin.sg 2 (y := (49, [some (.ref 10), some (.ref 1), some (.int x2)], [.int (1 : Int32), .ref 1], s_hg g)) rfl ?_
    obtain ⟨v8, g7, hp, hB⟩ := s_bd2 hB
    refine s_Fin.cl (d := 5) (q1 := s_m30) (md := 30) (vs := [.ref 1, .int (1 : Int32)]) (rest := []) (h1 := s_hg g7) (u := some (.int v8)) (s_Ev.up (by omega) (fQ_fail_1_s hp)) rfl rfl rfl rfl ?_
    refine s_Fin.sg 2 (y := (54, [some (.ref 10), some (.ref 1), some (.int x2)], [.int (-1 : Int32)], s_hg g7)) rfl ?_
    cases hB
    obtain ⟨rfl, rfl⟩ := hr
    exact s_Fin.rt rfl rfl
noncomputable def fP_readText_10_1 (g : s_G) : Option (Int32 × s_G) :=
  s_b1 (fP_clear_10 g) fun g1 => s_lp (fun x => fP_readText_10_1_6 x.1 x.2) ((0 : Int32), g1)
theorem fP_readText_10_1_s {g : s_G} {z : Int32 × s_G} (hB : fP_readText_10_1 g = some z) : s_Ev 6 s_m25 [.ref 10, .ref 1] (s_hg g) (some (.int z.1)) (s_hg z.2) := by
  unfold fP_readText_10_1 at hB
  refine s_Ev.fin ((?_ : ∀ (v : Option Value) (h' : s_H), (fun (z : Int32 × s_G) (v : Option Value) (h' : s_H) => v = some (.int z.1) ∧ h' = s_hg z.2) z v h' → s_Fin 6 s_m25 (0, s_ent [.ref 10, .ref 1] (s_m25).2.2.1, [], s_hg g) v h') _ _ ⟨rfl, rfl⟩)
  intro v h' hr
  refine (show s_Fin 6 s_m25 (0, [some (.ref 10), some (.ref 1), none], [], s_hg g) v h' from ?_)
  refine s_Fin.sg 1 (y := (1, [some (.ref 10), some (.ref 1), none], [.ref 10], s_hg g)) rfl ?_
  obtain ⟨g1, hp, hB⟩ := s_bd hB
  refine s_Fin.cl (d := 5) (q1 := s_m3) (md := 3) (vs := [.ref 10]) (rest := []) (h1 := s_hg g1) (u := none) (s_Ev.up (by omega) (fP_clear_10_s hp)) rfl rfl rfl rfl ?_
  refine s_Fin.sg 2 (y := (6, [some (.ref 10), some (.ref 1), some (.int (0 : Int32))], [], s_hg g1)) rfl ?_
  exact s_Fin.more (L := [some (.ref 10), some (.ref 1), some (.int (0 : Int32))]) ⟨Or.inr rfl, Or.inr rfl, Or.inr rfl, trivial⟩ (s_lp_s (P := (fun (x : Int32 × s_G) (v : Option Value) (h' : s_H) => s_Fin 6 s_m25 (6, [some (.ref 10), some (.ref 1), some (.int x.1)], [], s_hg x.2) v h')) (Q := (fun (z : Int32 × s_G) (v : Option Value) (h' : s_H) => v = some (.int z.1) ∧ h' = s_hg z.2)) (fun x z hB v h' hr => fP_readText_10_1_6_s hB hr) hB _ _ hr)
-- CampAshes$Camp.copyFrom
noncomputable def fP_copyFrom_3_10 (g : s_G) : Option (s_G) :=
  some (s_si (s_si (s_si (s_si (s_ci (s_ci (s_ci (s_ci (s_ci (s_cL (s_si (s_si g 3 0 (g.1 10 0)) 3 1 (g.1 10 1)) 11 4 0 0 17) 12 5 0 0 7) 13 6 0 0 10) 14 7 0 0 10) 15 8 0 0 10) 16 9 0 0 4) 3 8 (g.1 10 8)) 3 9 (g.1 10 9)) 3 10 (g.1 10 10)) 3 11 (g.1 10 11))
theorem fP_copyFrom_3_10_s {g : s_G} {z : s_G} (hB : fP_copyFrom_3_10 g = some z) : s_Ev 0 s_m43 [.ref 3, .ref 10] (s_hg g) (none) (s_hg z) := by
  unfold fP_copyFrom_3_10 at hB
  refine s_Ev.fin ((?_ : ∀ (v : Option Value) (h' : s_H), (fun (z : s_G) (v : Option Value) (h' : s_H) => v = none ∧ h' = s_hg z) z v h' → s_Fin 0 s_m43 (0, s_ent [.ref 3, .ref 10] (s_m43).2.2.1, [], s_hg g) v h') _ _ ⟨rfl, rfl⟩)
  intro v h' hr
  refine (show s_Fin 0 s_m43 (0, [some (.ref 3), some (.ref 10)], [], s_hg g) v h' from ?_)
  refine s_Fin.sg 72 (y := (137, [some (.ref 3), some (.ref 10)], [], s_hg (s_si (s_si (s_si (s_si (s_ci (s_ci (s_ci (s_ci (s_ci (s_cL (s_si (s_si g 3 0 (g.1 10 0)) 3 1 (g.1 10 1)) 11 4 0 0 17) 12 5 0 0 7) 13 6 0 0 10) 14 7 0 0 10) 15 8 0 0 10) 16 9 0 0 4) 3 8 (g.1 10 8)) 3 9 (g.1 10 9)) 3 10 (g.1 10 10)) 3 11 (g.1 10 11)))) rfl ?_
  cases hB
  obtain ⟨rfl, rfl⟩ := hr
  exact s_Fin.rt rfl rfl
-- java/util/Arrays.fill
noncomputable def fJ_fill_18_5 (x1 : Int32) (x2 : Int32) (x3 : Int32) (g : s_G) : Option ((Int32 × s_G) ⊕ (s_G)) :=
  if x2 < x3 then (s_b1 (s_ix 70 x2) fun k2 => some (.inl (x2 + (1 : Int32), (s_si g 18 k2 x1))))
  else s_in (some g)
theorem fJ_fill_18_5_s {x1 : Int32} {x2 : Int32} {x3 : Int32} {g : s_G} {z : (Int32 × s_G) ⊕ (s_G)} (hB : fJ_fill_18_5 x1 x2 x3 g = some z) {v : Option Value} {h' : s_H} (hr : (s_sm (fun (x : Int32 × s_G) (v : Option Value) (h' : s_H) => s_Fin 0 s_m4 (5, [some (.ref 18), some (.int x1), some (.int x.1), some (.int x3)], [], s_hg x.2) v h') (fun (z : s_G) (v : Option Value) (h' : s_H) => v = none ∧ h' = s_hg z)) z v h') : s_Fin 0 s_m4 (5, [some (.ref 18), some (.int x1), some (.int x2), some (.int x3)], [], s_hg g) v h' := by
  unfold fJ_fill_18_5 at hB
  refine s_Fin.sg 2 (y := (7, [some (.ref 18), some (.int x1), some (.int x2), some (.int x3)], [.int x3, .int x2], s_hg g)) rfl ?_
  by_cases hc : x2 < x3
  · rw [if_pos hc] at hB
    refine s_Fin.bf (c := x3 ≤ x2) (tg := 20) (p2 := 7) (L1 := [some (.ref 18), some (.int x1), some (.int x2), some (.int x3)]) (st1 := []) (Int32.not_le.mpr hc) rfl ?_
    refine s_Fin.sg 3 (y := (13, [some (.ref 18), some (.int x1), some (.int x2), some (.int x3)], [.int x1, .int x2, .ref 18], s_hg g)) rfl ?_
    obtain ⟨k2, hk2, hB⟩ := s_bd hB
    refine s_Fin.ix (n := 70) (i := x2) (pc1 := 14) (L1 := [some (.ref 18), some (.int x1), some (.int x2), some (.int x3)]) (fun j1 => []) (fun j1 => s_hg (s_si g 18 j1 x1)) hk2 rfl rfl ?_
    refine s_Fin.sg 2 (y := (5, [some (.ref 18), some (.int x1), some (.int (x2 + (1 : Int32))), some (.int x3)], [], s_hg (s_si g 18 k2 x1))) rfl ?_
    cases hB
    exact s_Fin.more (L := [some (.ref 18), some (.int x1), some (.int (x2 + (1 : Int32))), some (.int x3)]) ⟨Or.inr rfl, Or.inr rfl, Or.inr rfl, Or.inr rfl, trivial⟩ hr
  · rw [if_neg hc] at hB
    refine s_Fin.bt (c := x3 ≤ x2) (tg := 20) (p2 := 7) (L1 := [some (.ref 18), some (.int x1), some (.int x2), some (.int x3)]) (st1 := []) (Int32.not_lt.mp hc) rfl ?_
    obtain ⟨z, hB, rfl⟩ := s_in_of hB
    cases hB
    obtain ⟨rfl, rfl⟩ := hr
    exact s_Fin.rt rfl rfl
noncomputable def fJ_fill_18 (x1 : Int32) (g : s_G) : Option (s_G) :=
  s_lp (fun x => fJ_fill_18_5 x1 x.1 (70 : Int32) x.2) ((0 : Int32), g)
theorem fJ_fill_18_s {x1 : Int32} {g : s_G} {z : s_G} (hB : fJ_fill_18 x1 g = some z) : s_Ev 0 s_m4 [.ref 18, .int x1] (s_hg g) (none) (s_hg z) := by
  unfold fJ_fill_18 at hB
  refine s_Ev.fin ((?_ : ∀ (v : Option Value) (h' : s_H), (fun (z : s_G) (v : Option Value) (h' : s_H) => v = none ∧ h' = s_hg z) z v h' → s_Fin 0 s_m4 (0, s_ent [.ref 18, .int x1] (s_m4).2.2.1, [], s_hg g) v h') _ _ ⟨rfl, rfl⟩)
  intro v h' hr
  refine (show s_Fin 0 s_m4 (0, [some (.ref 18), some (.int x1), none, none], [], s_hg g) v h' from ?_)
  refine s_Fin.sg 5 (y := (5, [some (.ref 18), some (.int x1), some (.int (0 : Int32)), some (.int (70 : Int32))], [], s_hg g)) rfl ?_
  exact s_Fin.more (L := [some (.ref 18), some (.int x1), some (.int (0 : Int32)), some (.int (70 : Int32))]) ⟨Or.inr rfl, Or.inr rfl, Or.inr rfl, Or.inr rfl, trivial⟩ (s_lp_s (P := (fun (x : Int32 × s_G) (v : Option Value) (h' : s_H) => s_Fin 0 s_m4 (5, [some (.ref 18), some (.int x1), some (.int x.1), some (.int (70 : Int32))], [], s_hg x.2) v h')) (Q := (fun (z : s_G) (v : Option Value) (h' : s_H) => v = none ∧ h' = s_hg z)) (fun x z hB v h' hr => fJ_fill_18_5_s hB hr) hB _ _ hr)
-- java/util/Arrays.fill
noncomputable def fJ_fill_19_5 (x1 : Int32) (x2 : Int32) (x3 : Int32) (g : s_G) : Option ((Int32 × s_G) ⊕ (s_G)) :=
  if x2 < x3 then (s_b1 (s_ix 7 x2) fun k2 => some (.inl (x2 + (1 : Int32), (s_si g 19 k2 x1))))
  else s_in (some g)
theorem fJ_fill_19_5_s {x1 : Int32} {x2 : Int32} {x3 : Int32} {g : s_G} {z : (Int32 × s_G) ⊕ (s_G)} (hB : fJ_fill_19_5 x1 x2 x3 g = some z) {v : Option Value} {h' : s_H} (hr : (s_sm (fun (x : Int32 × s_G) (v : Option Value) (h' : s_H) => s_Fin 0 s_m4 (5, [some (.ref 19), some (.int x1), some (.int x.1), some (.int x3)], [], s_hg x.2) v h') (fun (z : s_G) (v : Option Value) (h' : s_H) => v = none ∧ h' = s_hg z)) z v h') : s_Fin 0 s_m4 (5, [some (.ref 19), some (.int x1), some (.int x2), some (.int x3)], [], s_hg g) v h' := by
  unfold fJ_fill_19_5 at hB
  refine s_Fin.sg 2 (y := (7, [some (.ref 19), some (.int x1), some (.int x2), some (.int x3)], [.int x3, .int x2], s_hg g)) rfl ?_
  by_cases hc : x2 < x3
  · rw [if_pos hc] at hB
    refine s_Fin.bf (c := x3 ≤ x2) (tg := 20) (p2 := 7) (L1 := [some (.ref 19), some (.int x1), some (.int x2), some (.int x3)]) (st1 := []) (Int32.not_le.mpr hc) rfl ?_
    refine s_Fin.sg 3 (y := (13, [some (.ref 19), some (.int x1), some (.int x2), some (.int x3)], [.int x1, .int x2, .ref 19], s_hg g)) rfl ?_
    obtain ⟨k2, hk2, hB⟩ := s_bd hB
    refine s_Fin.ix (n := 7) (i := x2) (pc1 := 14) (L1 := [some (.ref 19), some (.int x1), some (.int x2), some (.int x3)]) (fun j1 => []) (fun j1 => s_hg (s_si g 19 j1 x1)) hk2 rfl rfl ?_
    refine s_Fin.sg 2 (y := (5, [some (.ref 19), some (.int x1), some (.int (x2 + (1 : Int32))), some (.int x3)], [], s_hg (s_si g 19 k2 x1))) rfl ?_
    cases hB
    exact s_Fin.more (L := [some (.ref 19), some (.int x1), some (.int (x2 + (1 : Int32))), some (.int x3)]) ⟨Or.inr rfl, Or.inr rfl, Or.inr rfl, Or.inr rfl, trivial⟩ hr
  · rw [if_neg hc] at hB
    refine s_Fin.bt (c := x3 ≤ x2) (tg := 20) (p2 := 7) (L1 := [some (.ref 19), some (.int x1), some (.int x2), some (.int x3)]) (st1 := []) (Int32.not_lt.mp hc) rfl ?_
    obtain ⟨z, hB, rfl⟩ := s_in_of hB
    cases hB
    obtain ⟨rfl, rfl⟩ := hr
    exact s_Fin.rt rfl rfl
noncomputable def fJ_fill_19 (x1 : Int32) (g : s_G) : Option (s_G) :=
  s_lp (fun x => fJ_fill_19_5 x1 x.1 (7 : Int32) x.2) ((0 : Int32), g)
theorem fJ_fill_19_s {x1 : Int32} {g : s_G} {z : s_G} (hB : fJ_fill_19 x1 g = some z) : s_Ev 0 s_m4 [.ref 19, .int x1] (s_hg g) (none) (s_hg z) := by
  unfold fJ_fill_19 at hB
  refine s_Ev.fin ((?_ : ∀ (v : Option Value) (h' : s_H), (fun (z : s_G) (v : Option Value) (h' : s_H) => v = none ∧ h' = s_hg z) z v h' → s_Fin 0 s_m4 (0, s_ent [.ref 19, .int x1] (s_m4).2.2.1, [], s_hg g) v h') _ _ ⟨rfl, rfl⟩)
  intro v h' hr
  refine (show s_Fin 0 s_m4 (0, [some (.ref 19), some (.int x1), none, none], [], s_hg g) v h' from ?_)
  refine s_Fin.sg 5 (y := (5, [some (.ref 19), some (.int x1), some (.int (0 : Int32)), some (.int (7 : Int32))], [], s_hg g)) rfl ?_
  exact s_Fin.more (L := [some (.ref 19), some (.int x1), some (.int (0 : Int32)), some (.int (7 : Int32))]) ⟨Or.inr rfl, Or.inr rfl, Or.inr rfl, Or.inr rfl, trivial⟩ (s_lp_s (P := (fun (x : Int32 × s_G) (v : Option Value) (h' : s_H) => s_Fin 0 s_m4 (5, [some (.ref 19), some (.int x1), some (.int x.1), some (.int (7 : Int32))], [], s_hg x.2) v h')) (Q := (fun (z : s_G) (v : Option Value) (h' : s_H) => v = none ∧ h' = s_hg z)) (fun x z hB v h' hr => fJ_fill_19_5_s hB hr) hB _ _ hr)
-- java/util/Arrays.fill
noncomputable def fJ_fill_20_5 (x1 : Int32) (x2 : Int32) (x3 : Int32) (g : s_G) : Option ((Int32 × s_G) ⊕ (s_G)) :=
  if x2 < x3 then (s_b1 (s_ix 4 x2) fun k2 => some (.inl (x2 + (1 : Int32), (s_si g 20 k2 x1))))
  else s_in (some g)
theorem fJ_fill_20_5_s {x1 : Int32} {x2 : Int32} {x3 : Int32} {g : s_G} {z : (Int32 × s_G) ⊕ (s_G)} (hB : fJ_fill_20_5 x1 x2 x3 g = some z) {v : Option Value} {h' : s_H} (hr : (s_sm (fun (x : Int32 × s_G) (v : Option Value) (h' : s_H) => s_Fin 0 s_m4 (5, [some (.ref 20), some (.int x1), some (.int x.1), some (.int x3)], [], s_hg x.2) v h') (fun (z : s_G) (v : Option Value) (h' : s_H) => v = none ∧ h' = s_hg z)) z v h') : s_Fin 0 s_m4 (5, [some (.ref 20), some (.int x1), some (.int x2), some (.int x3)], [], s_hg g) v h' := by
  unfold fJ_fill_20_5 at hB
  refine s_Fin.sg 2 (y := (7, [some (.ref 20), some (.int x1), some (.int x2), some (.int x3)], [.int x3, .int x2], s_hg g)) rfl ?_
  by_cases hc : x2 < x3
  · rw [if_pos hc] at hB
    refine s_Fin.bf (c := x3 ≤ x2) (tg := 20) (p2 := 7) (L1 := [some (.ref 20), some (.int x1), some (.int x2), some (.int x3)]) (st1 := []) (Int32.not_le.mpr hc) rfl ?_
    refine s_Fin.sg 3 (y := (13, [some (.ref 20), some (.int x1), some (.int x2), some (.int x3)], [.int x1, .int x2, .ref 20], s_hg g)) rfl ?_
    obtain ⟨k2, hk2, hB⟩ := s_bd hB
    refine s_Fin.ix (n := 4) (i := x2) (pc1 := 14) (L1 := [some (.ref 20), some (.int x1), some (.int x2), some (.int x3)]) (fun j1 => []) (fun j1 => s_hg (s_si g 20 j1 x1)) hk2 rfl rfl ?_
    refine s_Fin.sg 2 (y := (5, [some (.ref 20), some (.int x1), some (.int (x2 + (1 : Int32))), some (.int x3)], [], s_hg (s_si g 20 k2 x1))) rfl ?_
    cases hB
    exact s_Fin.more (L := [some (.ref 20), some (.int x1), some (.int (x2 + (1 : Int32))), some (.int x3)]) ⟨Or.inr rfl, Or.inr rfl, Or.inr rfl, Or.inr rfl, trivial⟩ hr
  · rw [if_neg hc] at hB
    refine s_Fin.bt (c := x3 ≤ x2) (tg := 20) (p2 := 7) (L1 := [some (.ref 20), some (.int x1), some (.int x2), some (.int x3)]) (st1 := []) (Int32.not_lt.mp hc) rfl ?_
    obtain ⟨z, hB, rfl⟩ := s_in_of hB
    cases hB
    obtain ⟨rfl, rfl⟩ := hr
    exact s_Fin.rt rfl rfl
noncomputable def fJ_fill_20 (x1 : Int32) (g : s_G) : Option (s_G) :=
  s_lp (fun x => fJ_fill_20_5 x1 x.1 (4 : Int32) x.2) ((0 : Int32), g)
theorem fJ_fill_20_s {x1 : Int32} {g : s_G} {z : s_G} (hB : fJ_fill_20 x1 g = some z) : s_Ev 0 s_m4 [.ref 20, .int x1] (s_hg g) (none) (s_hg z) := by
  unfold fJ_fill_20 at hB
  refine s_Ev.fin ((?_ : ∀ (v : Option Value) (h' : s_H), (fun (z : s_G) (v : Option Value) (h' : s_H) => v = none ∧ h' = s_hg z) z v h' → s_Fin 0 s_m4 (0, s_ent [.ref 20, .int x1] (s_m4).2.2.1, [], s_hg g) v h') _ _ ⟨rfl, rfl⟩)
  intro v h' hr
  refine (show s_Fin 0 s_m4 (0, [some (.ref 20), some (.int x1), none, none], [], s_hg g) v h' from ?_)
  refine s_Fin.sg 5 (y := (5, [some (.ref 20), some (.int x1), some (.int (0 : Int32)), some (.int (4 : Int32))], [], s_hg g)) rfl ?_
  exact s_Fin.more (L := [some (.ref 20), some (.int x1), some (.int (0 : Int32)), some (.int (4 : Int32))]) ⟨Or.inr rfl, Or.inr rfl, Or.inr rfl, Or.inr rfl, trivial⟩ (s_lp_s (P := (fun (x : Int32 × s_G) (v : Option Value) (h' : s_H) => s_Fin 0 s_m4 (5, [some (.ref 20), some (.int x1), some (.int x.1), some (.int (4 : Int32))], [], s_hg x.2) v h')) (Q := (fun (z : s_G) (v : Option Value) (h' : s_H) => v = none ∧ h' = s_hg z)) (fun x z hB v h' hr => fJ_fill_20_5_s hB hr) hB _ _ hr)
-- java/util/Arrays.fill
noncomputable def fJ_fill_21_5 (x1 : Int32) (x2 : Int32) (x3 : Int32) (g : s_G) : Option ((Int32 × s_G) ⊕ (s_G)) :=
  if x2 < x3 then (s_b1 (s_ix 7 x2) fun k2 => some (.inl (x2 + (1 : Int32), (s_si g 21 k2 x1))))
  else s_in (some g)
theorem fJ_fill_21_5_s {x1 : Int32} {x2 : Int32} {x3 : Int32} {g : s_G} {z : (Int32 × s_G) ⊕ (s_G)} (hB : fJ_fill_21_5 x1 x2 x3 g = some z) {v : Option Value} {h' : s_H} (hr : (s_sm (fun (x : Int32 × s_G) (v : Option Value) (h' : s_H) => s_Fin 0 s_m4 (5, [some (.ref 21), some (.int x1), some (.int x.1), some (.int x3)], [], s_hg x.2) v h') (fun (z : s_G) (v : Option Value) (h' : s_H) => v = none ∧ h' = s_hg z)) z v h') : s_Fin 0 s_m4 (5, [some (.ref 21), some (.int x1), some (.int x2), some (.int x3)], [], s_hg g) v h' := by
  unfold fJ_fill_21_5 at hB
  refine s_Fin.sg 2 (y := (7, [some (.ref 21), some (.int x1), some (.int x2), some (.int x3)], [.int x3, .int x2], s_hg g)) rfl ?_
  by_cases hc : x2 < x3
  · rw [if_pos hc] at hB
    refine s_Fin.bf (c := x3 ≤ x2) (tg := 20) (p2 := 7) (L1 := [some (.ref 21), some (.int x1), some (.int x2), some (.int x3)]) (st1 := []) (Int32.not_le.mpr hc) rfl ?_
    refine s_Fin.sg 3 (y := (13, [some (.ref 21), some (.int x1), some (.int x2), some (.int x3)], [.int x1, .int x2, .ref 21], s_hg g)) rfl ?_
    obtain ⟨k2, hk2, hB⟩ := s_bd hB
    refine s_Fin.ix (n := 7) (i := x2) (pc1 := 14) (L1 := [some (.ref 21), some (.int x1), some (.int x2), some (.int x3)]) (fun j1 => []) (fun j1 => s_hg (s_si g 21 j1 x1)) hk2 rfl rfl ?_
    refine s_Fin.sg 2 (y := (5, [some (.ref 21), some (.int x1), some (.int (x2 + (1 : Int32))), some (.int x3)], [], s_hg (s_si g 21 k2 x1))) rfl ?_
    cases hB
    exact s_Fin.more (L := [some (.ref 21), some (.int x1), some (.int (x2 + (1 : Int32))), some (.int x3)]) ⟨Or.inr rfl, Or.inr rfl, Or.inr rfl, Or.inr rfl, trivial⟩ hr
  · rw [if_neg hc] at hB
    refine s_Fin.bt (c := x3 ≤ x2) (tg := 20) (p2 := 7) (L1 := [some (.ref 21), some (.int x1), some (.int x2), some (.int x3)]) (st1 := []) (Int32.not_lt.mp hc) rfl ?_
    obtain ⟨z, hB, rfl⟩ := s_in_of hB
    cases hB
    obtain ⟨rfl, rfl⟩ := hr
    exact s_Fin.rt rfl rfl
noncomputable def fJ_fill_21 (x1 : Int32) (g : s_G) : Option (s_G) :=
  s_lp (fun x => fJ_fill_21_5 x1 x.1 (7 : Int32) x.2) ((0 : Int32), g)
theorem fJ_fill_21_s {x1 : Int32} {g : s_G} {z : s_G} (hB : fJ_fill_21 x1 g = some z) : s_Ev 0 s_m4 [.ref 21, .int x1] (s_hg g) (none) (s_hg z) := by
  unfold fJ_fill_21 at hB
  refine s_Ev.fin ((?_ : ∀ (v : Option Value) (h' : s_H), (fun (z : s_G) (v : Option Value) (h' : s_H) => v = none ∧ h' = s_hg z) z v h' → s_Fin 0 s_m4 (0, s_ent [.ref 21, .int x1] (s_m4).2.2.1, [], s_hg g) v h') _ _ ⟨rfl, rfl⟩)
  intro v h' hr
  refine (show s_Fin 0 s_m4 (0, [some (.ref 21), some (.int x1), none, none], [], s_hg g) v h' from ?_)
  refine s_Fin.sg 5 (y := (5, [some (.ref 21), some (.int x1), some (.int (0 : Int32)), some (.int (7 : Int32))], [], s_hg g)) rfl ?_
  exact s_Fin.more (L := [some (.ref 21), some (.int x1), some (.int (0 : Int32)), some (.int (7 : Int32))]) ⟨Or.inr rfl, Or.inr rfl, Or.inr rfl, Or.inr rfl, trivial⟩ (s_lp_s (P := (fun (x : Int32 × s_G) (v : Option Value) (h' : s_H) => s_Fin 0 s_m4 (5, [some (.ref 21), some (.int x1), some (.int x.1), some (.int (7 : Int32))], [], s_hg x.2) v h')) (Q := (fun (z : s_G) (v : Option Value) (h' : s_H) => v = none ∧ h' = s_hg z)) (fun x z hB v h' hr => fJ_fill_21_5_s hB hr) hB _ _ hr)
