-- CampAshes$Camp.readOnce
noncomputable def fP_readOnce_10_1 (g : s_G) : Option (Int32 × s_G) :=
  s_b1 (fQ_isWord_1_1003 g) fun v1 => if v1 = 0 then (s_b1 (fQ_isWord_1_1004 g) fun v2 => if v2 = 0 then (s_b1 (fQ_isWord_1_1005 g) fun v3 => if v3 = 0 then (s_b1 (fQ_isWord_1_1006 g) fun v4 => if v4 = 0 then (s_b2 (fQ_fail_1 (1 : Int32) g) fun v6 g5 => if v6 = 0 ∨ v6 = 1 then some (v6, g5)
  else none)
  else s_b2 (fP_readOnceNumber_10_1 (8 : Int32) (2 : Int32) (30 : Int32) g) fun v8 g7 => if v8 = (-1 : Int32) then (some ((0 : Int32), (s_si g7 10 11 v8)))
  else some ((1 : Int32), (s_si g7 10 11 v8)))
  else s_b2 (fP_readOnceNumber_10_1 (4 : Int32) (0 : Int32) (9 : Int32) g) fun v10 g9 => if v10 = (-1 : Int32) then (some ((0 : Int32), (s_si g9 10 10 v10)))
  else some ((1 : Int32), (s_si g9 10 10 v10)))
  else s_b2 (fP_readOnceNumber_10_1 (2 : Int32) (0 : Int32) (20 : Int32) g) fun v12 g11 => if v12 = (-1 : Int32) then (some ((0 : Int32), (s_si g11 10 9 v12)))
  else some ((1 : Int32), (s_si g11 10 9 v12)))
  else s_b2 (fP_readOnceNumber_10_1 (1 : Int32) (0 : Int32) (30 : Int32) g) fun v14 g13 => if v14 = (-1 : Int32) then (some ((0 : Int32), (s_si g13 10 8 v14)))
  else some ((1 : Int32), (s_si g13 10 8 v14))
theorem fP_readOnce_10_1_s {g : s_G} {z : Int32 × s_G} (hB : fP_readOnce_10_1 g = some z) : s_Ev 4 s_m39 [.ref 10, .ref 1] (s_hg g) (some (.int z.1)) (s_hg z.2) := by
  unfold fP_readOnce_10_1 at hB
  refine s_Ev.fin ((?_ : ∀ (v : Option Value) (h' : s_H), (fun (z : Int32 × s_G) (v : Option Value) (h' : s_H) => v = some (.int z.1) ∧ h' = s_hg z.2) z v h' → s_Fin 4 s_m39 (0, s_ent [.ref 10, .ref 1] (s_m39).2.2.1, [], s_hg g) v h') _ _ ⟨rfl, rfl⟩)
  intro v h' hr
  refine (show s_Fin 4 s_m39 (0, [some (.ref 10), some (.ref 1)], [], s_hg g) v h' from ?_)
  refine s_Fin.sg 2 (y := (4, [some (.ref 10), some (.ref 1)], [.ref 1003, .ref 1], s_hg g)) rfl ?_
  obtain ⟨v1, hp, hB⟩ := s_bd hB
  refine s_Fin.cl (d := 3) (q1 := s_m28) (md := 28) (vs := [.ref 1, .ref 1003]) (rest := []) (h1 := s_hg g) (u := some (.int v1)) (s_Ev.up (by omega) (fQ_isWord_1_1003_s hp)) rfl rfl rfl rfl ?_
  by_cases hc : v1 = 0
  · rw [if_pos hc] at hB
    refine s_Fin.bt (c := v1 = 0) (tg := 37) (p2 := 7) (L1 := [some (.ref 10), some (.ref 1)]) (st1 := []) hc rfl ?_
    refine s_Fin.sg 2 (y := (41, [some (.ref 10), some (.ref 1)], [.ref 1004, .ref 1], s_hg g)) rfl ?_
    obtain ⟨v2, hp, hB⟩ := s_bd hB
    refine s_Fin.cl (d := 3) (q1 := s_m28) (md := 28) (vs := [.ref 1, .ref 1004]) (rest := []) (h1 := s_hg g) (u := some (.int v2)) (s_Ev.up (by omega) (fQ_isWord_1_1004_s hp)) rfl rfl rfl rfl ?_
    by_cases hc : v2 = 0
    · rw [if_pos hc] at hB
      refine s_Fin.bt (c := v2 = 0) (tg := 74) (p2 := 44) (L1 := [some (.ref 10), some (.ref 1)]) (st1 := []) hc rfl ?_
      refine s_Fin.sg 2 (y := (78, [some (.ref 10), some (.ref 1)], [.ref 1005, .ref 1], s_hg g)) rfl ?_
      obtain ⟨v3, hp, hB⟩ := s_bd hB
      refine s_Fin.cl (d := 3) (q1 := s_m28) (md := 28) (vs := [.ref 1, .ref 1005]) (rest := []) (h1 := s_hg g) (u := some (.int v3)) (s_Ev.up (by omega) (fQ_isWord_1_1005_s hp)) rfl rfl rfl rfl ?_
      by_cases hc : v3 = 0
      · rw [if_pos hc] at hB
        refine s_Fin.bt (c := v3 = 0) (tg := 111) (p2 := 81) (L1 := [some (.ref 10), some (.ref 1)]) (st1 := []) hc rfl ?_
        refine s_Fin.sg 2 (y := (115, [some (.ref 10), some (.ref 1)], [.ref 1006, .ref 1], s_hg g)) rfl ?_
        obtain ⟨v4, hp, hB⟩ := s_bd hB
        refine s_Fin.cl (d := 3) (q1 := s_m28) (md := 28) (vs := [.ref 1, .ref 1006]) (rest := []) (h1 := s_hg g) (u := some (.int v4)) (s_Ev.up (by omega) (fQ_isWord_1_1006_s hp)) rfl rfl rfl rfl ?_
        by_cases hc : v4 = 0
        · rw [if_pos hc] at hB
          refine s_Fin.bt (c := v4 = 0) (tg := 149) (p2 := 118) (L1 := [some (.ref 10), some (.ref 1)]) (st1 := []) hc rfl ?_
          refine s_Fin.sg 2 (y := (151, [some (.ref 10), some (.ref 1)], [.int (1 : Int32), .ref 1], s_hg g)) rfl ?_
          obtain ⟨v6, g5, hp, hB⟩ := s_bd2 hB
          refine s_Fin.cl (d := 3) (q1 := s_m30) (md := 30) (vs := [.ref 1, .int (1 : Int32)]) (rest := []) (h1 := s_hg g5) (u := some (.int v6)) (s_Ev.up (by omega) (fQ_fail_1_s hp)) rfl rfl rfl rfl ?_
          have hc : v6 = 0 ∨ v6 = 1 := Classical.byContradiction fun h => (by rw [if_neg h] at hB; cases hB)
          rw [if_pos hc] at hB
          have hB := Option.some.inj hB
          subst hB
          obtain ⟨rfl, rfl⟩ := hr
          exact s_Fin.rt (by rcases hc with hc | hc <;> rw [hc] <;> exact rfl) rfl
        · rw [if_neg hc] at hB
          refine s_Fin.bf (c := v4 = 0) (tg := 149) (p2 := 118) (L1 := [some (.ref 10), some (.ref 1)]) (st1 := []) hc rfl ?_
          refine s_Fin.sg 6 (y := (129, [some (.ref 10), some (.ref 1)], [.int (30 : Int32), .int (2 : Int32), .int (8 : Int32), .ref 1, .ref 10, .ref 10], s_hg g)) rfl ?_
          obtain ⟨v8, g7, hp, hB⟩ := s_bd2 hB
          refine s_Fin.cl (d := 3) (q1 := s_m40) (md := 40) (vs := [.ref 10, .ref 1, .int (8 : Int32), .int (2 : Int32), .int (30 : Int32)]) (rest := [.ref 10]) (h1 := s_hg g7) (u := some (.int v8)) (s_Ev.up (by omega) (fP_readOnceNumber_10_1_s hp)) rfl rfl rfl rfl ?_
          refine s_Fin.sg 4 (y := (140, [some (.ref 10), some (.ref 1)], [.int (-1 : Int32), .int v8], s_hg (s_si g7 10 11 v8))) rfl ?_
          by_cases hc : v8 = (-1 : Int32)
          · rw [if_pos hc] at hB
            refine s_Fin.bt (c := v8 = (-1 : Int32)) (tg := 147) (p2 := 140) (L1 := [some (.ref 10), some (.ref 1)]) (st1 := []) hc rfl ?_
            refine s_Fin.sg 1 (y := (148, [some (.ref 10), some (.ref 1)], [.int (0 : Int32)], s_hg (s_si g7 10 11 v8))) rfl ?_
            have hB := Option.some.inj hB
            subst hB
            obtain ⟨rfl, rfl⟩ := hr
            exact s_Fin.rt rfl rfl
          · rw [if_neg hc] at hB
            refine s_Fin.bf (c := v8 = (-1 : Int32)) (tg := 147) (p2 := 140) (L1 := [some (.ref 10), some (.ref 1)]) (st1 := []) hc rfl ?_
            refine s_Fin.sg 2 (y := (148, [some (.ref 10), some (.ref 1)], [.int (1 : Int32)], s_hg (s_si g7 10 11 v8))) rfl ?_
            have hB := Option.some.inj hB
            subst hB
            obtain ⟨rfl, rfl⟩ := hr
            exact s_Fin.rt rfl rfl
      · rw [if_neg hc] at hB
        refine s_Fin.bf (c := v3 = 0) (tg := 111) (p2 := 81) (L1 := [some (.ref 10), some (.ref 1)]) (st1 := []) hc rfl ?_
        refine s_Fin.sg 6 (y := (91, [some (.ref 10), some (.ref 1)], [.int (9 : Int32), .int (0 : Int32), .int (4 : Int32), .ref 1, .ref 10, .ref 10], s_hg g)) rfl ?_
        obtain ⟨v10, g9, hp, hB⟩ := s_bd2 hB
        refine s_Fin.cl (d := 3) (q1 := s_m40) (md := 40) (vs := [.ref 10, .ref 1, .int (4 : Int32), .int (0 : Int32), .int (9 : Int32)]) (rest := [.ref 10]) (h1 := s_hg g9) (u := some (.int v10)) (s_Ev.up (by omega) (fP_readOnceNumber_10_1_s hp)) rfl rfl rfl rfl ?_
        refine s_Fin.sg 4 (y := (102, [some (.ref 10), some (.ref 1)], [.int (-1 : Int32), .int v10], s_hg (s_si g9 10 10 v10))) rfl ?_
        by_cases hc : v10 = (-1 : Int32)
        · rw [if_pos hc] at hB
          refine s_Fin.bt (c := v10 = (-1 : Int32)) (tg := 109) (p2 := 102) (L1 := [some (.ref 10), some (.ref 1)]) (st1 := []) hc rfl ?_
          refine s_Fin.sg 1 (y := (110, [some (.ref 10), some (.ref 1)], [.int (0 : Int32)], s_hg (s_si g9 10 10 v10))) rfl ?_
          have hB := Option.some.inj hB
          subst hB
          obtain ⟨rfl, rfl⟩ := hr
          exact s_Fin.rt rfl rfl
        · rw [if_neg hc] at hB
          refine s_Fin.bf (c := v10 = (-1 : Int32)) (tg := 109) (p2 := 102) (L1 := [some (.ref 10), some (.ref 1)]) (st1 := []) hc rfl ?_
          refine s_Fin.sg 2 (y := (110, [some (.ref 10), some (.ref 1)], [.int (1 : Int32)], s_hg (s_si g9 10 10 v10))) rfl ?_
          have hB := Option.some.inj hB
          subst hB
          obtain ⟨rfl, rfl⟩ := hr
          exact s_Fin.rt rfl rfl
    · rw [if_neg hc] at hB
      refine s_Fin.bf (c := v2 = 0) (tg := 74) (p2 := 44) (L1 := [some (.ref 10), some (.ref 1)]) (st1 := []) hc rfl ?_
      refine s_Fin.sg 6 (y := (54, [some (.ref 10), some (.ref 1)], [.int (20 : Int32), .int (0 : Int32), .int (2 : Int32), .ref 1, .ref 10, .ref 10], s_hg g)) rfl ?_
      obtain ⟨v12, g11, hp, hB⟩ := s_bd2 hB
      refine s_Fin.cl (d := 3) (q1 := s_m40) (md := 40) (vs := [.ref 10, .ref 1, .int (2 : Int32), .int (0 : Int32), .int (20 : Int32)]) (rest := [.ref 10]) (h1 := s_hg g11) (u := some (.int v12)) (s_Ev.up (by omega) (fP_readOnceNumber_10_1_s hp)) rfl rfl rfl rfl ?_
      refine s_Fin.sg 4 (y := (65, [some (.ref 10), some (.ref 1)], [.int (-1 : Int32), .int v12], s_hg (s_si g11 10 9 v12))) rfl ?_
      by_cases hc : v12 = (-1 : Int32)
      · rw [if_pos hc] at hB
        refine s_Fin.bt (c := v12 = (-1 : Int32)) (tg := 72) (p2 := 65) (L1 := [some (.ref 10), some (.ref 1)]) (st1 := []) hc rfl ?_
        refine s_Fin.sg 1 (y := (73, [some (.ref 10), some (.ref 1)], [.int (0 : Int32)], s_hg (s_si g11 10 9 v12))) rfl ?_
        have hB := Option.some.inj hB
        subst hB
        obtain ⟨rfl, rfl⟩ := hr
        exact s_Fin.rt rfl rfl
      · rw [if_neg hc] at hB
        refine s_Fin.bf (c := v12 = (-1 : Int32)) (tg := 72) (p2 := 65) (L1 := [some (.ref 10), some (.ref 1)]) (st1 := []) hc rfl ?_
        refine s_Fin.sg 2 (y := (73, [some (.ref 10), some (.ref 1)], [.int (1 : Int32)], s_hg (s_si g11 10 9 v12))) rfl ?_
        have hB := Option.some.inj hB
        subst hB
        obtain ⟨rfl, rfl⟩ := hr
        exact s_Fin.rt rfl rfl
  · rw [if_neg hc] at hB
    refine s_Fin.bf (c := v1 = 0) (tg := 37) (p2 := 7) (L1 := [some (.ref 10), some (.ref 1)]) (st1 := []) hc rfl ?_
    refine s_Fin.sg 6 (y := (17, [some (.ref 10), some (.ref 1)], [.int (30 : Int32), .int (0 : Int32), .int (1 : Int32), .ref 1, .ref 10, .ref 10], s_hg g)) rfl ?_
    obtain ⟨v14, g13, hp, hB⟩ := s_bd2 hB
    refine s_Fin.cl (d := 3) (q1 := s_m40) (md := 40) (vs := [.ref 10, .ref 1, .int (1 : Int32), .int (0 : Int32), .int (30 : Int32)]) (rest := [.ref 10]) (h1 := s_hg g13) (u := some (.int v14)) (s_Ev.up (by omega) (fP_readOnceNumber_10_1_s hp)) rfl rfl rfl rfl ?_
    refine s_Fin.sg 4 (y := (28, [some (.ref 10), some (.ref 1)], [.int (-1 : Int32), .int v14], s_hg (s_si g13 10 8 v14))) rfl ?_
    by_cases hc : v14 = (-1 : Int32)
    · rw [if_pos hc] at hB
      refine s_Fin.bt (c := v14 = (-1 : Int32)) (tg := 35) (p2 := 28) (L1 := [some (.ref 10), some (.ref 1)]) (st1 := []) hc rfl ?_
      refine s_Fin.sg 1 (y := (36, [some (.ref 10), some (.ref 1)], [.int (0 : Int32)], s_hg (s_si g13 10 8 v14))) rfl ?_
      have hB := Option.some.inj hB
      subst hB
      obtain ⟨rfl, rfl⟩ := hr
      exact s_Fin.rt rfl rfl
    · rw [if_neg hc] at hB
      refine s_Fin.bf (c := v14 = (-1 : Int32)) (tg := 35) (p2 := 28) (L1 := [some (.ref 10), some (.ref 1)]) (st1 := []) hc rfl ?_
      refine s_Fin.sg 2 (y := (36, [some (.ref 10), some (.ref 1)], [.int (1 : Int32)], s_hg (s_si g13 10 8 v14))) rfl ?_
      have hB := Option.some.inj hB
      subst hB
      obtain ⟨rfl, rfl⟩ := hr
      exact s_Fin.rt rfl rfl
-- CampAshes$Camp.isKind
noncomputable def fP_isKind_1 (g : s_G) : Option (Int32 × s_G) :=
  if (g.2.2 1 9) = none then (s_b2 (fQ_fail_1 (1 : Int32) g) fun v2 g1 => if v2 = 0 ∨ v2 = 1 then some (v2, g1)
  else none)
  else s_b1 (g.2.2 1 9) fun a3 => s_b1 (s_wkd a3) fun v4 => if v4 = (-1 : Int32) then (s_b2 (fQ_fail_1 (1 : Int32) g) fun v6 g5 => if v6 = 0 ∨ v6 = 1 then some (v6, g5)
  else none)
  else some ((1 : Int32), g)
theorem fP_isKind_1_s {g : s_G} {z : Int32 × s_G} (hB : fP_isKind_1 g = some z) : s_Ev 1 s_m37 [.ref 1] (s_hg g) (some (.int z.1)) (s_hg z.2) := by
  unfold fP_isKind_1 at hB
  refine s_Ev.fin ((?_ : ∀ (v : Option Value) (h' : s_H), (fun (z : Int32 × s_G) (v : Option Value) (h' : s_H) => v = some (.int z.1) ∧ h' = s_hg z.2) z v h' → s_Fin 1 s_m37 (0, s_ent [.ref 1] (s_m37).2.2.1, [], s_hg g) v h') _ _ ⟨rfl, rfl⟩)
  intro v h' hr
  refine (show s_Fin 1 s_m37 (0, [some (.ref 1)], [], s_hg g) v h' from ?_)
  refine s_Fin.sg 2 (y := (4, [some (.ref 1)], [va_rf (g.2.2 1 9)], s_hg g)) rfl ?_
  by_cases hc : (g.2.2 1 9) = none
  · rw [if_pos hc] at hB
    refine s_Fin.nx (pc1 := 18) (L1 := [some (.ref 1)]) (st1 := []) (h1 := s_hg g) (by rw [hc]; exact rfl) rfl ?_
    refine s_Fin.sg 2 (y := (20, [some (.ref 1)], [.int (1 : Int32), .ref 1], s_hg g)) rfl ?_
    obtain ⟨v2, g1, hp, hB⟩ := s_bd2 hB
    refine s_Fin.cl (d := 0) (q1 := s_m30) (md := 30) (vs := [.ref 1, .int (1 : Int32)]) (rest := []) (h1 := s_hg g1) (u := some (.int v2)) (s_Ev.up (by omega) (fQ_fail_1_s hp)) rfl rfl rfl rfl ?_
    have hc : v2 = 0 ∨ v2 = 1 := Classical.byContradiction fun h => (by rw [if_neg h] at hB; cases hB)
    rw [if_pos hc] at hB
    have hB := Option.some.inj hB
    subst hB
    obtain ⟨rfl, rfl⟩ := hr
    exact s_Fin.rt (by rcases hc with hc | hc <;> rw [hc] <;> exact rfl) rfl
  · rw [if_neg hc] at hB
    refine s_Fin.nx (pc1 := 7) (L1 := [some (.ref 1)]) (st1 := []) (h1 := s_hg g) (by generalize (g.2.2 1 9) = w at hc ⊢; cases w with
      | none => exact absurd rfl hc
      | some a => exact rfl) rfl ?_
    refine s_Fin.sg 2 (y := (11, [some (.ref 1)], [va_rf (g.2.2 1 9)], s_hg g)) rfl ?_
    obtain ⟨a3, ha, hB⟩ := s_bd hB
    obtain ⟨v4, hu, hB⟩ := s_bd hB
    refine s_Fin.nx (pc1 := 14) (L1 := [some (.ref 1)]) (st1 := [.int v4]) (h1 := s_hg g) (by rw [ha]; exact (show _ = s_gfw 1 14 [some (.ref 1)] [] (s_hg g) a3 from rfl).trans (s_wkd_of hu)) rfl ?_
    refine s_Fin.sg 1 (y := (15, [some (.ref 1)], [.int (-1 : Int32), .int v4], s_hg g)) rfl ?_
    by_cases hc : v4 = (-1 : Int32)
    · rw [if_pos hc] at hB
      refine s_Fin.bf (c := ¬ v4 = (-1 : Int32)) (tg := 24) (p2 := 15) (L1 := [some (.ref 1)]) (st1 := []) (fun h => h hc) rfl ?_
      refine s_Fin.sg 2 (y := (20, [some (.ref 1)], [.int (1 : Int32), .ref 1], s_hg g)) rfl ?_
      obtain ⟨v6, g5, hp, hB⟩ := s_bd2 hB
      refine s_Fin.cl (d := 0) (q1 := s_m30) (md := 30) (vs := [.ref 1, .int (1 : Int32)]) (rest := []) (h1 := s_hg g5) (u := some (.int v6)) (s_Ev.up (by omega) (fQ_fail_1_s hp)) rfl rfl rfl rfl ?_
      have hc : v6 = 0 ∨ v6 = 1 := Classical.byContradiction fun h => (by rw [if_neg h] at hB; cases hB)
      rw [if_pos hc] at hB
      have hB := Option.some.inj hB
      subst hB
      obtain ⟨rfl, rfl⟩ := hr
      exact s_Fin.rt (by rcases hc with hc | hc <;> rw [hc] <;> exact rfl) rfl
    · rw [if_neg hc] at hB
      refine s_Fin.bt (c := ¬ v4 = (-1 : Int32)) (tg := 24) (p2 := 15) (L1 := [some (.ref 1)]) (st1 := []) hc rfl ?_
      refine s_Fin.sg 1 (y := (25, [some (.ref 1)], [.int (1 : Int32)], s_hg g)) rfl ?_
      have hB := Option.some.inj hB
      subst hB
      obtain ⟨rfl, rfl⟩ := hr
      exact s_Fin.rt rfl rfl
-- CampAshes$Camp.readTakes
noncomputable def fP_readTakes_10_1 (g : s_G) : Option (Int32 × s_G) :=
  s_b1 (fQ_next_1 g) fun g1 => s_b2 (fP_isKind_1 g1) fun v3 g2 => if v3 = 0 then (some ((0 : Int32), g2))
  else s_b1 (g2.2.2 1 9) fun a4 => s_b1 (s_wkd a4) fun v5 => if (((g2.1 10 12) >>> (v5 &&& 31)) &&& (1 : Int32)) = (1 : Int32) then (s_b2 (fQ_fail_1 (3 : Int32) g2) fun v7 g6 => if v7 = 0 ∨ v7 = 1 then some (v7, g6)
  else none)
  else s_b1 (fQ_next_1 g2) fun g8 => s_b2 (fQ_passNumber_1 (0 : Int32) (9 : Int32) g8) fun v10 g9 => if v10 = (-1 : Int32) then (some ((0 : Int32), g9))
  else s_b1 (s_ix 4 v5) fun k12 => some ((1 : Int32), (s_si (s_si g9 16 k12 v10) 10 12 ((g9.1 10 12) ||| ((1 : Int32) <<< (v5 &&& 31)))))
theorem fP_readTakes_10_1_s {g : s_G} {z : Int32 × s_G} (hB : fP_readTakes_10_1 g = some z) : s_Ev 3 s_m38 [.ref 10, .ref 1] (s_hg g) (some (.int z.1)) (s_hg z.2) := by
  unfold fP_readTakes_10_1 at hB
  refine s_Ev.fin ((?_ : ∀ (v : Option Value) (h' : s_H), (fun (z : Int32 × s_G) (v : Option Value) (h' : s_H) => v = some (.int z.1) ∧ h' = s_hg z.2) z v h' → s_Fin 3 s_m38 (0, s_ent [.ref 10, .ref 1] (s_m38).2.2.1, [], s_hg g) v h') _ _ ⟨rfl, rfl⟩)
  intro v h' hr
  refine (show s_Fin 3 s_m38 (0, [some (.ref 10), some (.ref 1), none, none], [], s_hg g) v h' from ?_)
  refine s_Fin.sg 1 (y := (1, [some (.ref 10), some (.ref 1), none, none], [.ref 1], s_hg g)) rfl ?_
  obtain ⟨g1, hp, hB⟩ := s_bd hB
  refine s_Fin.cl (d := 2) (q1 := s_m20) (md := 20) (vs := [.ref 1]) (rest := []) (h1 := s_hg g1) (u := none) (s_Ev.up (by omega) (fQ_next_1_s hp)) rfl rfl rfl rfl ?_
  refine s_Fin.sg 1 (y := (5, [some (.ref 10), some (.ref 1), none, none], [.ref 1], s_hg g1)) rfl ?_
  obtain ⟨v3, g2, hp, hB⟩ := s_bd2 hB
  refine s_Fin.cl (d := 2) (q1 := s_m37) (md := 37) (vs := [.ref 1]) (rest := []) (h1 := s_hg g2) (u := some (.int v3)) (s_Ev.up (by omega) (fP_isKind_1_s hp)) rfl rfl rfl rfl ?_
  by_cases hc : v3 = 0
  · rw [if_pos hc] at hB
    refine s_Fin.bf (c := ¬ v3 = 0) (tg := 13) (p2 := 8) (L1 := [some (.ref 10), some (.ref 1), none, none]) (st1 := []) (fun h => h hc) rfl ?_
    refine s_Fin.sg 1 (y := (12, [some (.ref 10), some (.ref 1), none, none], [.int (0 : Int32)], s_hg g2)) rfl ?_
    have hB := Option.some.inj hB
    subst hB
    obtain ⟨rfl, rfl⟩ := hr
    exact s_Fin.rt rfl rfl
  · rw [if_neg hc] at hB
    refine s_Fin.bt (c := ¬ v3 = 0) (tg := 13) (p2 := 8) (L1 := [some (.ref 10), some (.ref 1), none, none]) (st1 := []) hc rfl ?_
    refine s_Fin.sg 2 (y := (17, [some (.ref 10), some (.ref 1), none, none], [va_rf (g2.2.2 1 9)], s_hg g2)) rfl ?_
    obtain ⟨a4, ha, hB⟩ := s_bd hB
    obtain ⟨v5, hu, hB⟩ := s_bd hB
    refine s_Fin.nx (pc1 := 20) (L1 := [some (.ref 10), some (.ref 1), none, none]) (st1 := [.int v5]) (h1 := s_hg g2) (by rw [ha]; exact (show _ = s_gfw 1 20 [some (.ref 10), some (.ref 1), none, none] [] (s_hg g2) a4 from rfl).trans (s_wkd_of hu)) rfl ?_
    refine s_Fin.sg 8 (y := (30, [some (.ref 10), some (.ref 1), some (.int v5), none], [.int (1 : Int32), .int (((g2.1 10 12) >>> (v5 &&& 31)) &&& (1 : Int32))], s_hg g2)) rfl ?_
    by_cases hc : (((g2.1 10 12) >>> (v5 &&& 31)) &&& (1 : Int32)) = (1 : Int32)
    · rw [if_pos hc] at hB
      refine s_Fin.bf (c := ¬ (((g2.1 10 12) >>> (v5 &&& 31)) &&& (1 : Int32)) = (1 : Int32)) (tg := 39) (p2 := 30) (L1 := [some (.ref 10), some (.ref 1), some (.int v5), none]) (st1 := []) (fun h => h hc) rfl ?_
      refine s_Fin.sg 2 (y := (35, [some (.ref 10), some (.ref 1), some (.int v5), none], [.int (3 : Int32), .ref 1], s_hg g2)) rfl ?_
      obtain ⟨v7, g6, hp, hB⟩ := s_bd2 hB
      refine s_Fin.cl (d := 2) (q1 := s_m30) (md := 30) (vs := [.ref 1, .int (3 : Int32)]) (rest := []) (h1 := s_hg g6) (u := some (.int v7)) (s_Ev.up (by omega) (fQ_fail_1_s hp)) rfl rfl rfl rfl ?_
      have hc : v7 = 0 ∨ v7 = 1 := Classical.byContradiction fun h => (by rw [if_neg h] at hB; cases hB)
      rw [if_pos hc] at hB
      have hB := Option.some.inj hB
      subst hB
      obtain ⟨rfl, rfl⟩ := hr
      exact s_Fin.rt (by rcases hc with hc | hc <;> rw [hc] <;> exact rfl) rfl
    · rw [if_neg hc] at hB
      refine s_Fin.bt (c := ¬ (((g2.1 10 12) >>> (v5 &&& 31)) &&& (1 : Int32)) = (1 : Int32)) (tg := 39) (p2 := 30) (L1 := [some (.ref 10), some (.ref 1), some (.int v5), none]) (st1 := []) hc rfl ?_
      refine s_Fin.sg 1 (y := (40, [some (.ref 10), some (.ref 1), some (.int v5), none], [.ref 1], s_hg g2)) rfl ?_
      obtain ⟨g8, hp, hB⟩ := s_bd hB
      refine s_Fin.cl (d := 2) (q1 := s_m20) (md := 20) (vs := [.ref 1]) (rest := []) (h1 := s_hg g8) (u := none) (s_Ev.up (by omega) (fQ_next_1_s hp)) rfl rfl rfl rfl ?_
      refine s_Fin.sg 3 (y := (47, [some (.ref 10), some (.ref 1), some (.int v5), none], [.int (9 : Int32), .int (0 : Int32), .ref 1], s_hg g8)) rfl ?_
      obtain ⟨v10, g9, hp, hB⟩ := s_bd2 hB
      refine s_Fin.cl (d := 2) (q1 := s_m34) (md := 34) (vs := [.ref 1, .int (0 : Int32), .int (9 : Int32)]) (rest := []) (h1 := s_hg g9) (u := some (.int v10)) (s_Ev.up (by omega) (fQ_passNumber_1_s hp)) rfl rfl rfl rfl ?_
      refine s_Fin.sg 3 (y := (53, [some (.ref 10), some (.ref 1), some (.int v5), some (.int v10)], [.int (-1 : Int32), .int v10], s_hg g9)) rfl ?_
      by_cases hc : v10 = (-1 : Int32)
      · rw [if_pos hc] at hB
        refine s_Fin.bf (c := ¬ v10 = (-1 : Int32)) (tg := 58) (p2 := 53) (L1 := [some (.ref 10), some (.ref 1), some (.int v5), some (.int v10)]) (st1 := []) (fun h => h hc) rfl ?_
        refine s_Fin.sg 1 (y := (57, [some (.ref 10), some (.ref 1), some (.int v5), some (.int v10)], [.int (0 : Int32)], s_hg g9)) rfl ?_
        have hB := Option.some.inj hB
        subst hB
        obtain ⟨rfl, rfl⟩ := hr
        exact s_Fin.rt rfl rfl
      · rw [if_neg hc] at hB
        refine s_Fin.bt (c := ¬ v10 = (-1 : Int32)) (tg := 58) (p2 := 53) (L1 := [some (.ref 10), some (.ref 1), some (.int v5), some (.int v10)]) (st1 := []) hc rfl ?_
        refine s_Fin.sg 4 (y := (64, [some (.ref 10), some (.ref 1), some (.int v5), some (.int v10)], [.int v10, .int v5, .ref 16], s_hg g9)) rfl ?_
        obtain ⟨k12, hk12, hB⟩ := s_bd hB
        refine s_Fin.ix (n := 4) (i := v5) (pc1 := 65) (L1 := [some (.ref 10), some (.ref 1), some (.int v5), some (.int v10)]) (fun j11 => []) (fun j11 => s_hg (s_si g9 16 j11 v10)) hk12 rfl rfl ?_
        refine s_Fin.sg 9 (y := (78, [some (.ref 10), some (.ref 1), some (.int v5), some (.int v10)], [.int (1 : Int32)], s_hg (s_si (s_si g9 16 k12 v10) 10 12 ((g9.1 10 12) ||| ((1 : Int32) <<< (v5 &&& 31)))))) rfl ?_
        have hB := Option.some.inj hB
        subst hB
        obtain ⟨rfl, rfl⟩ := hr
        exact s_Fin.rt rfl rfl
-- CampAshes$Camp.boyNamed
noncomputable def fP_boyNamed_10_2 (x1 : Int64) (x3 : Int32) (g : s_G) : Option ((Int32) ⊕ (Int32)) :=
  if x3 < (g.1 10 0) then (s_b1 (s_ix 17 x3) fun k2 => if (lg_cmp (g.2.1 11 k2) x1) = 0 then (s_in (some x3))
  else some (.inl (x3 + (1 : Int32))))
  else s_in (some (-1 : Int32))
theorem fP_boyNamed_10_2_s {x1 : Int64} {x3 : Int32} {g : s_G} {z : (Int32) ⊕ (Int32)} (hB : fP_boyNamed_10_2 x1 x3 g = some z) {v : Option Value} {h' : s_H} (hr : (s_sm (fun (x : Int32) (v : Option Value) (h' : s_H) => s_Fin 0 s_m32 (2, [some (.ref 10), some (.long x1), none, some (.int x)], [], s_hg g) v h') (fun (z : Int32) (v : Option Value) (h' : s_H) => v = some (.int z) ∧ h' = s_hg g)) z v h') : s_Fin 0 s_m32 (2, [some (.ref 10), some (.long x1), none, some (.int x3)], [], s_hg g) v h' := by
  unfold fP_boyNamed_10_2 at hB
  refine s_Fin.sg 3 (y := (7, [some (.ref 10), some (.long x1), none, some (.int x3)], [.int (g.1 10 0), .int x3], s_hg g)) rfl ?_
  by_cases hc : x3 < (g.1 10 0)
  · rw [if_pos hc] at hB
    refine s_Fin.bf (c := (g.1 10 0) ≤ x3) (tg := 29) (p2 := 7) (L1 := [some (.ref 10), some (.long x1), none, some (.int x3)]) (st1 := []) (Int32.not_le.mpr hc) rfl ?_
    refine s_Fin.sg 3 (y := (15, [some (.ref 10), some (.long x1), none, some (.int x3)], [.int x3, .ref 11], s_hg g)) rfl ?_
    obtain ⟨k2, hk2, hB⟩ := s_bd hB
    refine s_Fin.ix (n := 17) (i := x3) (pc1 := 16) (L1 := [some (.ref 10), some (.long x1), none, some (.int x3)]) (fun j1 => [.long (g.2.1 11 j1)]) (fun j1 => s_hg g) hk2 rfl rfl ?_
    refine s_Fin.sg 2 (y := (18, [some (.ref 10), some (.long x1), none, some (.int x3)], [.int (lg_cmp (g.2.1 11 k2) x1)], s_hg g)) rfl ?_
    by_cases hc : (lg_cmp (g.2.1 11 k2) x1) = 0
    · rw [if_pos hc] at hB
      refine s_Fin.bf (c := ¬ (lg_cmp (g.2.1 11 k2) x1) = 0) (tg := 23) (p2 := 18) (L1 := [some (.ref 10), some (.long x1), none, some (.int x3)]) (st1 := []) (fun h => h hc) rfl ?_
      obtain ⟨_, hN, hz⟩ := s_in_of hB
      subst hz
      have hB := hN
      refine s_Fin.sg 1 (y := (22, [some (.ref 10), some (.long x1), none, some (.int x3)], [.int x3], s_hg g)) rfl ?_
      have hB := Option.some.inj hB
      subst hB
      obtain ⟨rfl, rfl⟩ := hr
      exact s_Fin.rt rfl rfl
    · rw [if_neg hc] at hB
      refine s_Fin.bt (c := ¬ (lg_cmp (g.2.1 11 k2) x1) = 0) (tg := 23) (p2 := 18) (L1 := [some (.ref 10), some (.long x1), none, some (.int x3)]) (st1 := []) hc rfl ?_
      refine s_Fin.sg 2 (y := (2, [some (.ref 10), some (.long x1), none, some (.int (x3 + (1 : Int32)))], [], s_hg g)) rfl ?_
      have hB := Option.some.inj hB
      subst hB
      exact s_Fin.more (L := [some (.ref 10), some (.long x1), none, some (.int (x3 + (1 : Int32)))]) ⟨Or.inr rfl, Or.inr rfl, Or.inl rfl, Or.inr rfl, trivial⟩ hr
  · rw [if_neg hc] at hB
    refine s_Fin.bt (c := (g.1 10 0) ≤ x3) (tg := 29) (p2 := 7) (L1 := [some (.ref 10), some (.long x1), none, some (.int x3)]) (st1 := []) (Int32.not_lt.mp hc) rfl ?_
    obtain ⟨_, hN, hz⟩ := s_in_of hB
    subst hz
    have hB := hN
    refine s_Fin.sg 1 (y := (30, [some (.ref 10), some (.long x1), none, some (.int x3)], [.int (-1 : Int32)], s_hg g)) rfl ?_
    have hB := Option.some.inj hB
    subst hB
    obtain ⟨rfl, rfl⟩ := hr
    exact s_Fin.rt rfl rfl
noncomputable def fP_boyNamed_10 (x1 : Int64) (g : s_G) : Option (Int32) :=
  s_lp (fun x => fP_boyNamed_10_2 x1 x g) (0 : Int32)
theorem fP_boyNamed_10_s {x1 : Int64} {g : s_G} {z : Int32} (hB : fP_boyNamed_10 x1 g = some z) : s_Ev 0 s_m32 [.ref 10, .long x1] (s_hg g) (some (.int z)) (s_hg g) := by
  unfold fP_boyNamed_10 at hB
  refine s_Ev.fin ((?_ : ∀ (v : Option Value) (h' : s_H), (fun (z : Int32) (v : Option Value) (h' : s_H) => v = some (.int z) ∧ h' = s_hg g) z v h' → s_Fin 0 s_m32 (0, s_ent [.ref 10, .long x1] (s_m32).2.2.1, [], s_hg g) v h') _ _ ⟨rfl, rfl⟩)
  intro v h' hr
  refine (show s_Fin 0 s_m32 (0, [some (.ref 10), some (.long x1), none, none], [], s_hg g) v h' from ?_)
  refine s_Fin.sg 2 (y := (2, [some (.ref 10), some (.long x1), none, some (.int (0 : Int32))], [], s_hg g)) rfl ?_
  exact s_Fin.more (L := [some (.ref 10), some (.long x1), none, some (.int (0 : Int32))]) ⟨Or.inr rfl, Or.inr rfl, Or.inl rfl, Or.inr rfl, trivial⟩ (s_lp_s (P := (fun (x : Int32) (v : Option Value) (h' : s_H) => s_Fin 0 s_m32 (2, [some (.ref 10), some (.long x1), none, some (.int x)], [], s_hg g) v h')) (Q := (fun (z : Int32) (v : Option Value) (h' : s_H) => v = some (.int z) ∧ h' = s_hg g)) (fun x z hB v h' hr => fP_boyNamed_10_2_s hB hr) hB _ _ hr)
-- CampAshes$Camp.eventNamed
noncomputable def fP_eventNamed_10_2 (x1 : Int64) (x3 : Int32) (g : s_G) : Option ((Int32) ⊕ (Int32)) :=
  if x3 < (g.1 10 1) then (s_b1 (s_ix 17 ((7 : Int32) + x3)) fun k2 => if (lg_cmp (g.2.1 11 k2) x1) = 0 then (s_in (some x3))
  else some (.inl (x3 + (1 : Int32))))
  else s_in (some (-1 : Int32))
theorem fP_eventNamed_10_2_s {x1 : Int64} {x3 : Int32} {g : s_G} {z : (Int32) ⊕ (Int32)} (hB : fP_eventNamed_10_2 x1 x3 g = some z) {v : Option Value} {h' : s_H} (hr : (s_sm (fun (x : Int32) (v : Option Value) (h' : s_H) => s_Fin 0 s_m33 (2, [some (.ref 10), some (.long x1), none, some (.int x)], [], s_hg g) v h') (fun (z : Int32) (v : Option Value) (h' : s_H) => v = some (.int z) ∧ h' = s_hg g)) z v h') : s_Fin 0 s_m33 (2, [some (.ref 10), some (.long x1), none, some (.int x3)], [], s_hg g) v h' := by
  unfold fP_eventNamed_10_2 at hB
  refine s_Fin.sg 3 (y := (7, [some (.ref 10), some (.long x1), none, some (.int x3)], [.int (g.1 10 1), .int x3], s_hg g)) rfl ?_
  by_cases hc : x3 < (g.1 10 1)
  · rw [if_pos hc] at hB
    refine s_Fin.bf (c := (g.1 10 1) ≤ x3) (tg := 32) (p2 := 7) (L1 := [some (.ref 10), some (.long x1), none, some (.int x3)]) (st1 := []) (Int32.not_le.mpr hc) rfl ?_
    refine s_Fin.sg 5 (y := (18, [some (.ref 10), some (.long x1), none, some (.int x3)], [.int ((7 : Int32) + x3), .ref 11], s_hg g)) rfl ?_
    obtain ⟨k2, hk2, hB⟩ := s_bd hB
    refine s_Fin.ix (n := 17) (i := (7 : Int32) + x3) (pc1 := 19) (L1 := [some (.ref 10), some (.long x1), none, some (.int x3)]) (fun j1 => [.long (g.2.1 11 j1)]) (fun j1 => s_hg g) hk2 rfl rfl ?_
    refine s_Fin.sg 2 (y := (21, [some (.ref 10), some (.long x1), none, some (.int x3)], [.int (lg_cmp (g.2.1 11 k2) x1)], s_hg g)) rfl ?_
    by_cases hc : (lg_cmp (g.2.1 11 k2) x1) = 0
    · rw [if_pos hc] at hB
      refine s_Fin.bf (c := ¬ (lg_cmp (g.2.1 11 k2) x1) = 0) (tg := 26) (p2 := 21) (L1 := [some (.ref 10), some (.long x1), none, some (.int x3)]) (st1 := []) (fun h => h hc) rfl ?_
      obtain ⟨_, hN, hz⟩ := s_in_of hB
      subst hz
      have hB := hN
      refine s_Fin.sg 1 (y := (25, [some (.ref 10), some (.long x1), none, some (.int x3)], [.int x3], s_hg g)) rfl ?_
      have hB := Option.some.inj hB
      subst hB
      obtain ⟨rfl, rfl⟩ := hr
      exact s_Fin.rt rfl rfl
    · rw [if_neg hc] at hB
      refine s_Fin.bt (c := ¬ (lg_cmp (g.2.1 11 k2) x1) = 0) (tg := 26) (p2 := 21) (L1 := [some (.ref 10), some (.long x1), none, some (.int x3)]) (st1 := []) hc rfl ?_
      refine s_Fin.sg 2 (y := (2, [some (.ref 10), some (.long x1), none, some (.int (x3 + (1 : Int32)))], [], s_hg g)) rfl ?_
      have hB := Option.some.inj hB
      subst hB
      exact s_Fin.more (L := [some (.ref 10), some (.long x1), none, some (.int (x3 + (1 : Int32)))]) ⟨Or.inr rfl, Or.inr rfl, Or.inl rfl, Or.inr rfl, trivial⟩ hr
  · rw [if_neg hc] at hB
    refine s_Fin.bt (c := (g.1 10 1) ≤ x3) (tg := 32) (p2 := 7) (L1 := [some (.ref 10), some (.long x1), none, some (.int x3)]) (st1 := []) (Int32.not_lt.mp hc) rfl ?_
    obtain ⟨_, hN, hz⟩ := s_in_of hB
    subst hz
    have hB := hN
    refine s_Fin.sg 1 (y := (33, [some (.ref 10), some (.long x1), none, some (.int x3)], [.int (-1 : Int32)], s_hg g)) rfl ?_
    have hB := Option.some.inj hB
    subst hB
    obtain ⟨rfl, rfl⟩ := hr
    exact s_Fin.rt rfl rfl
noncomputable def fP_eventNamed_10 (x1 : Int64) (g : s_G) : Option (Int32) :=
  s_lp (fun x => fP_eventNamed_10_2 x1 x g) (0 : Int32)
theorem fP_eventNamed_10_s {x1 : Int64} {g : s_G} {z : Int32} (hB : fP_eventNamed_10 x1 g = some z) : s_Ev 0 s_m33 [.ref 10, .long x1] (s_hg g) (some (.int z)) (s_hg g) := by
  unfold fP_eventNamed_10 at hB
  refine s_Ev.fin ((?_ : ∀ (v : Option Value) (h' : s_H), (fun (z : Int32) (v : Option Value) (h' : s_H) => v = some (.int z) ∧ h' = s_hg g) z v h' → s_Fin 0 s_m33 (0, s_ent [.ref 10, .long x1] (s_m33).2.2.1, [], s_hg g) v h') _ _ ⟨rfl, rfl⟩)
  intro v h' hr
  refine (show s_Fin 0 s_m33 (0, [some (.ref 10), some (.long x1), none, none], [], s_hg g) v h' from ?_)
  refine s_Fin.sg 2 (y := (2, [some (.ref 10), some (.long x1), none, some (.int (0 : Int32))], [], s_hg g)) rfl ?_
  exact s_Fin.more (L := [some (.ref 10), some (.long x1), none, some (.int (0 : Int32))]) ⟨Or.inr rfl, Or.inr rfl, Or.inl rfl, Or.inr rfl, trivial⟩ (s_lp_s (P := (fun (x : Int32) (v : Option Value) (h' : s_H) => s_Fin 0 s_m33 (2, [some (.ref 10), some (.long x1), none, some (.int x)], [], s_hg g) v h')) (Q := (fun (z : Int32) (v : Option Value) (h' : s_H) => v = some (.int z) ∧ h' = s_hg g)) (fun x z hB v h' hr => fP_eventNamed_10_2_s hB hr) hB _ _ hr)
-- CampAshes$Camp.isNewName
noncomputable def fP_isNewName_10_1 (g : s_G) : Option (Int32 × s_G) :=
  if (g.1 1 5) = (3 : Int32) then (s_b1 (fP_boyNamed_10 (g.2.1 1 8) g) fun v1 => if v1 = (-1 : Int32) then (s_b1 (fP_eventNamed_10 (g.2.1 1 8) g) fun v2 => if v2 = (-1 : Int32) then (some ((1 : Int32), g))
  else s_b2 (fQ_fail_1 (3 : Int32) g) fun v4 g3 => if v4 = 0 ∨ v4 = 1 then some (v4, g3)
  else none)
  else s_b2 (fQ_fail_1 (3 : Int32) g) fun v6 g5 => if v6 = 0 ∨ v6 = 1 then some (v6, g5)
  else none)
  else s_b2 (fQ_fail_1 (1 : Int32) g) fun v8 g7 => if v8 = 0 ∨ v8 = 1 then some (v8, g7)
  else none
theorem fP_isNewName_10_1_s {g : s_G} {z : Int32 × s_G} (hB : fP_isNewName_10_1 g = some z) : s_Ev 1 s_m31 [.ref 10, .ref 1] (s_hg g) (some (.int z.1)) (s_hg z.2) := by
  unfold fP_isNewName_10_1 at hB
  refine s_Ev.fin ((?_ : ∀ (v : Option Value) (h' : s_H), (fun (z : Int32 × s_G) (v : Option Value) (h' : s_H) => v = some (.int z.1) ∧ h' = s_hg z.2) z v h' → s_Fin 1 s_m31 (0, s_ent [.ref 10, .ref 1] (s_m31).2.2.1, [], s_hg g) v h') _ _ ⟨rfl, rfl⟩)
  intro v h' hr
  refine (show s_Fin 1 s_m31 (0, [some (.ref 10), some (.ref 1)], [], s_hg g) v h' from ?_)
  refine s_Fin.sg 3 (y := (5, [some (.ref 10), some (.ref 1)], [.int (3 : Int32), .int (g.1 1 5)], s_hg g)) rfl ?_
  by_cases hc : (g.1 1 5) = (3 : Int32)
  · rw [if_pos hc] at hB
    refine s_Fin.bt (c := (g.1 1 5) = (3 : Int32)) (tg := 14) (p2 := 5) (L1 := [some (.ref 10), some (.ref 1)]) (st1 := []) hc rfl ?_
    refine s_Fin.sg 3 (y := (19, [some (.ref 10), some (.ref 1)], [.long (g.2.1 1 8), .ref 10], s_hg g)) rfl ?_
    obtain ⟨v1, hp, hB⟩ := s_bd hB
    refine s_Fin.cl (d := 0) (q1 := s_m32) (md := 32) (vs := [.ref 10, .long (g.2.1 1 8)]) (rest := []) (h1 := s_hg g) (u := some (.int v1)) (s_Ev.up (by omega) (fP_boyNamed_10_s hp)) rfl rfl rfl rfl ?_
    refine s_Fin.sg 1 (y := (23, [some (.ref 10), some (.ref 1)], [.int (-1 : Int32), .int v1], s_hg g)) rfl ?_
    by_cases hc : v1 = (-1 : Int32)
    · rw [if_pos hc] at hB
      refine s_Fin.bf (c := ¬ v1 = (-1 : Int32)) (tg := 38) (p2 := 23) (L1 := [some (.ref 10), some (.ref 1)]) (st1 := []) (fun h => h hc) rfl ?_
      refine s_Fin.sg 3 (y := (31, [some (.ref 10), some (.ref 1)], [.long (g.2.1 1 8), .ref 10], s_hg g)) rfl ?_
      obtain ⟨v2, hp, hB⟩ := s_bd hB
      refine s_Fin.cl (d := 0) (q1 := s_m33) (md := 33) (vs := [.ref 10, .long (g.2.1 1 8)]) (rest := []) (h1 := s_hg g) (u := some (.int v2)) (s_Ev.up (by omega) (fP_eventNamed_10_s hp)) rfl rfl rfl rfl ?_
      refine s_Fin.sg 1 (y := (35, [some (.ref 10), some (.ref 1)], [.int (-1 : Int32), .int v2], s_hg g)) rfl ?_
      by_cases hc : v2 = (-1 : Int32)
      · rw [if_pos hc] at hB
        refine s_Fin.bt (c := v2 = (-1 : Int32)) (tg := 44) (p2 := 35) (L1 := [some (.ref 10), some (.ref 1)]) (st1 := []) hc rfl ?_
        refine s_Fin.sg 1 (y := (45, [some (.ref 10), some (.ref 1)], [.int (1 : Int32)], s_hg g)) rfl ?_
        have hB := Option.some.inj hB
        subst hB
        obtain ⟨rfl, rfl⟩ := hr
        exact s_Fin.rt rfl rfl
      · rw [if_neg hc] at hB
        refine s_Fin.bf (c := v2 = (-1 : Int32)) (tg := 44) (p2 := 35) (L1 := [some (.ref 10), some (.ref 1)]) (st1 := []) hc rfl ?_
        refine s_Fin.sg 2 (y := (40, [some (.ref 10), some (.ref 1)], [.int (3 : Int32), .ref 1], s_hg g)) rfl ?_
        obtain ⟨v4, g3, hp, hB⟩ := s_bd2 hB
        refine s_Fin.cl (d := 0) (q1 := s_m30) (md := 30) (vs := [.ref 1, .int (3 : Int32)]) (rest := []) (h1 := s_hg g3) (u := some (.int v4)) (s_Ev.up (by omega) (fQ_fail_1_s hp)) rfl rfl rfl rfl ?_
        have hc : v4 = 0 ∨ v4 = 1 := Classical.byContradiction fun h => (by rw [if_neg h] at hB; cases hB)
        rw [if_pos hc] at hB
        have hB := Option.some.inj hB
        subst hB
        obtain ⟨rfl, rfl⟩ := hr
        exact s_Fin.rt (by rcases hc with hc | hc <;> rw [hc] <;> exact rfl) rfl
    · rw [if_neg hc] at hB
      refine s_Fin.bt (c := ¬ v1 = (-1 : Int32)) (tg := 38) (p2 := 23) (L1 := [some (.ref 10), some (.ref 1)]) (st1 := []) hc rfl ?_
      refine s_Fin.sg 2 (y := (40, [some (.ref 10), some (.ref 1)], [.int (3 : Int32), .ref 1], s_hg g)) rfl ?_
      obtain ⟨v6, g5, hp, hB⟩ := s_bd2 hB
      refine s_Fin.cl (d := 0) (q1 := s_m30) (md := 30) (vs := [.ref 1, .int (3 : Int32)]) (rest := []) (h1 := s_hg g5) (u := some (.int v6)) (s_Ev.up (by omega) (fQ_fail_1_s hp)) rfl rfl rfl rfl ?_
      have hc : v6 = 0 ∨ v6 = 1 := Classical.byContradiction fun h => (by rw [if_neg h] at hB; cases hB)
      rw [if_pos hc] at hB
      have hB := Option.some.inj hB
      subst hB
      obtain ⟨rfl, rfl⟩ := hr
      exact s_Fin.rt (by rcases hc with hc | hc <;> rw [hc] <;> exact rfl) rfl
  · rw [if_neg hc] at hB
    refine s_Fin.bf (c := (g.1 1 5) = (3 : Int32)) (tg := 14) (p2 := 5) (L1 := [some (.ref 10), some (.ref 1)]) (st1 := []) hc rfl ?_
    refine s_Fin.sg 2 (y := (10, [some (.ref 10), some (.ref 1)], [.int (1 : Int32), .ref 1], s_hg g)) rfl ?_
    obtain ⟨v8, g7, hp, hB⟩ := s_bd2 hB
    refine s_Fin.cl (d := 0) (q1 := s_m30) (md := 30) (vs := [.ref 1, .int (1 : Int32)]) (rest := []) (h1 := s_hg g7) (u := some (.int v8)) (s_Ev.up (by omega) (fQ_fail_1_s hp)) rfl rfl rfl rfl ?_
    have hc : v8 = 0 ∨ v8 = 1 := Classical.byContradiction fun h => (by rw [if_neg h] at hB; cases hB)
    rw [if_pos hc] at hB
    have hB := Option.some.inj hB
    subst hB
    obtain ⟨rfl, rfl⟩ := hr
    exact s_Fin.rt (by rcases hc with hc | hc <;> rw [hc] <;> exact rfl) rfl
-- CampAshes$Tape.passNamed
noncomputable def fQ_passNamed_1 (x1 : Int32) (g : s_G) : Option (Int32 × s_G) :=
  if (g.1 1 5) = (3 : Int32) then (if x1 = (-1 : Int32) then (s_b2 (fQ_fail_1 (3 : Int32) g) fun v2 g1 => some ((-1 : Int32), g1))
  else s_b1 (fQ_next_1 g) fun g3 => some (x1, g3))
  else s_b2 (fQ_fail_1 (1 : Int32) g) fun v5 g4 => some ((-1 : Int32), g4)
theorem fQ_passNamed_1_s {x1 : Int32} {g : s_G} {z : Int32 × s_G} (hB : fQ_passNamed_1 x1 g = some z) : s_Ev 2 s_m36 [.ref 1, .int x1] (s_hg g) (some (.int z.1)) (s_hg z.2) := by
  unfold fQ_passNamed_1 at hB
  refine s_Ev.fin ((?_ : ∀ (v : Option Value) (h' : s_H), (fun (z : Int32 × s_G) (v : Option Value) (h' : s_H) => v = some (.int z.1) ∧ h' = s_hg z.2) z v h' → s_Fin 2 s_m36 (0, s_ent [.ref 1, .int x1] (s_m36).2.2.1, [], s_hg g) v h') _ _ ⟨rfl, rfl⟩)
  intro v h' hr
  refine (show s_Fin 2 s_m36 (0, [some (.ref 1), some (.int x1)], [], s_hg g) v h' from ?_)
  refine s_Fin.sg 3 (y := (5, [some (.ref 1), some (.int x1)], [.int (3 : Int32), .int (g.1 1 5)], s_hg g)) rfl ?_
  by_cases hc : (g.1 1 5) = (3 : Int32)
  · rw [if_pos hc] at hB
    refine s_Fin.bt (c := (g.1 1 5) = (3 : Int32)) (tg := 16) (p2 := 5) (L1 := [some (.ref 1), some (.int x1)]) (st1 := []) hc rfl ?_
    refine s_Fin.sg 2 (y := (18, [some (.ref 1), some (.int x1)], [.int (-1 : Int32), .int x1], s_hg g)) rfl ?_
    by_cases hc : x1 = (-1 : Int32)
    · rw [if_pos hc] at hB
      refine s_Fin.bf (c := ¬ x1 = (-1 : Int32)) (tg := 29) (p2 := 18) (L1 := [some (.ref 1), some (.int x1)]) (st1 := []) (fun h => h hc) rfl ?_
      refine s_Fin.sg 2 (y := (23, [some (.ref 1), some (.int x1)], [.int (3 : Int32), .ref 1], s_hg g)) rfl ?_
      obtain ⟨v2, g1, hp, hB⟩ := s_bd2 hB
      refine s_Fin.cl (d := 1) (q1 := s_m30) (md := 30) (vs := [.ref 1, .int (3 : Int32)]) (rest := []) (h1 := s_hg g1) (u := some (.int v2)) (s_Ev.up (by omega) (fQ_fail_1_s hp)) rfl rfl rfl rfl ?_
      refine s_Fin.sg 2 (y := (28, [some (.ref 1), some (.int x1)], [.int (-1 : Int32)], s_hg g1)) rfl ?_
      have hB := Option.some.inj hB
      subst hB
      obtain ⟨rfl, rfl⟩ := hr
      exact s_Fin.rt rfl rfl
    · rw [if_neg hc] at hB
      refine s_Fin.bt (c := ¬ x1 = (-1 : Int32)) (tg := 29) (p2 := 18) (L1 := [some (.ref 1), some (.int x1)]) (st1 := []) hc rfl ?_
      refine s_Fin.sg 1 (y := (30, [some (.ref 1), some (.int x1)], [.ref 1], s_hg g)) rfl ?_
      obtain ⟨g3, hp, hB⟩ := s_bd hB
      refine s_Fin.cl (d := 1) (q1 := s_m20) (md := 20) (vs := [.ref 1]) (rest := []) (h1 := s_hg g3) (u := none) (s_Ev.up (by omega) (fQ_next_1_s hp)) rfl rfl rfl rfl ?_
      refine s_Fin.sg 1 (y := (34, [some (.ref 1), some (.int x1)], [.int x1], s_hg g3)) rfl ?_
      have hB := Option.some.inj hB
      subst hB
      obtain ⟨rfl, rfl⟩ := hr
      exact s_Fin.rt rfl rfl
  · rw [if_neg hc] at hB
    refine s_Fin.bf (c := (g.1 1 5) = (3 : Int32)) (tg := 16) (p2 := 5) (L1 := [some (.ref 1), some (.int x1)]) (st1 := []) hc rfl ?_
    refine s_Fin.sg 2 (y := (10, [some (.ref 1), some (.int x1)], [.int (1 : Int32), .ref 1], s_hg g)) rfl ?_
    obtain ⟨v5, g4, hp, hB⟩ := s_bd2 hB
    refine s_Fin.cl (d := 1) (q1 := s_m30) (md := 30) (vs := [.ref 1, .int (1 : Int32)]) (rest := []) (h1 := s_hg g4) (u := some (.int v5)) (s_Ev.up (by omega) (fQ_fail_1_s hp)) rfl rfl rfl rfl ?_
    refine s_Fin.sg 2 (y := (15, [some (.ref 1), some (.int x1)], [.int (-1 : Int32)], s_hg g4)) rfl ?_
    have hB := Option.some.inj hB
    subst hB
    obtain ⟨rfl, rfl⟩ := hr
    exact s_Fin.rt rfl rfl
-- CampAshes$Camp.readEvent
noncomputable def fP_readEvent_10_1 (g : s_G) : Option (Int32 × s_G) :=
  if (g.1 10 1) < (10 : Int32) then (s_b1 (fQ_next_1 g) fun g1 => s_b2 (fP_isNewName_10_1 g1) fun v3 g2 => if v3 = 0 then (some ((0 : Int32), g2))
  else s_b1 (s_ix 17 ((7 : Int32) + (g2.1 10 1))) fun k5 => s_b1 (fQ_next_1 (s_sl g2 11 k5 (g2.2.1 1 8))) fun g6 => s_b1 (fP_boyNamed_10 (g6.2.1 1 8) g6) fun v7 => s_b2 (fQ_passNamed_1 v7 g6) fun v9 g8 => if v9 = (-1 : Int32) then (some ((0 : Int32), g8))
  else s_b2 (fP_isKind_1 g8) fun v11 g10 => if v11 = 0 then (some ((0 : Int32), g10))
  else s_b1 (g10.2.2 1 9) fun a12 => s_b1 (s_wkd a12) fun v13 => s_b1 (fQ_next_1 g10) fun g14 => s_b2 (fQ_passNumber_1 (1 : Int32) (40 : Int32) g14) fun v16 g15 => if v16 = (-1 : Int32) then (some ((0 : Int32), g15))
  else s_b1 (s_ix 10 (g15.1 10 1)) fun k18 => some ((1 : Int32), (s_si (s_si (s_si (s_si g15 13 k18 v9) 14 k18 v13) 15 k18 v16) 10 1 ((g15.1 10 1) + (1 : Int32)))))
  else s_b2 (fQ_fail_1 (4 : Int32) g) fun v22 g21 => if v22 = 0 ∨ v22 = 1 then some (v22, g21)
  else none
theorem fP_readEvent_10_1_s {g : s_G} {z : Int32 × s_G} (hB : fP_readEvent_10_1 g = some z) : s_Ev 3 s_m35 [.ref 10, .ref 1] (s_hg g) (some (.int z.1)) (s_hg z.2) := by
  unfold fP_readEvent_10_1 at hB
  refine s_Ev.fin ((?_ : ∀ (v : Option Value) (h' : s_H), (fun (z : Int32 × s_G) (v : Option Value) (h' : s_H) => v = some (.int z.1) ∧ h' = s_hg z.2) z v h' → s_Fin 3 s_m35 (0, s_ent [.ref 10, .ref 1] (s_m35).2.2.1, [], s_hg g) v h') _ _ ⟨rfl, rfl⟩)
  intro v h' hr
  refine (show s_Fin 3 s_m35 (0, [some (.ref 10), some (.ref 1), none, none, none], [], s_hg g) v h' from ?_)
  refine s_Fin.sg 3 (y := (6, [some (.ref 10), some (.ref 1), none, none, none], [.int (10 : Int32), .int (g.1 10 1)], s_hg g)) rfl ?_
  by_cases hc : (g.1 10 1) < (10 : Int32)
  · rw [if_pos hc] at hB
    refine s_Fin.bt (c := (g.1 10 1) < (10 : Int32)) (tg := 15) (p2 := 6) (L1 := [some (.ref 10), some (.ref 1), none, none, none]) (st1 := []) hc rfl ?_
    refine s_Fin.sg 1 (y := (16, [some (.ref 10), some (.ref 1), none, none, none], [.ref 1], s_hg g)) rfl ?_
    obtain ⟨g1, hp, hB⟩ := s_bd hB
    refine s_Fin.cl (d := 2) (q1 := s_m20) (md := 20) (vs := [.ref 1]) (rest := []) (h1 := s_hg g1) (u := none) (s_Ev.up (by omega) (fQ_next_1_s hp)) rfl rfl rfl rfl ?_
    refine s_Fin.sg 2 (y := (21, [some (.ref 10), some (.ref 1), none, none, none], [.ref 1, .ref 10], s_hg g1)) rfl ?_
    obtain ⟨v3, g2, hp, hB⟩ := s_bd2 hB
    refine s_Fin.cl (d := 2) (q1 := s_m31) (md := 31) (vs := [.ref 10, .ref 1]) (rest := []) (h1 := s_hg g2) (u := some (.int v3)) (s_Ev.up (by omega) (fP_isNewName_10_1_s hp)) rfl rfl rfl rfl ?_
    by_cases hc : v3 = 0
    · rw [if_pos hc] at hB
      refine s_Fin.bf (c := ¬ v3 = 0) (tg := 29) (p2 := 24) (L1 := [some (.ref 10), some (.ref 1), none, none, none]) (st1 := []) (fun h => h hc) rfl ?_
      refine s_Fin.sg 1 (y := (28, [some (.ref 10), some (.ref 1), none, none, none], [.int (0 : Int32)], s_hg g2)) rfl ?_
      have hB := Option.some.inj hB
      subst hB
      obtain ⟨rfl, rfl⟩ := hr
      exact s_Fin.rt rfl rfl
    · rw [if_neg hc] at hB
      refine s_Fin.bt (c := ¬ v3 = 0) (tg := 29) (p2 := 24) (L1 := [some (.ref 10), some (.ref 1), none, none, none]) (st1 := []) hc rfl ?_
      refine s_Fin.sg 8 (y := (44, [some (.ref 10), some (.ref 1), none, none, none], [.long (g2.2.1 1 8), .int ((7 : Int32) + (g2.1 10 1)), .ref 11], s_hg g2)) rfl ?_
      obtain ⟨k5, hk5, hB⟩ := s_bd hB
      refine s_Fin.ix (n := 17) (i := (7 : Int32) + (g2.1 10 1)) (pc1 := 45) (L1 := [some (.ref 10), some (.ref 1), none, none, none]) (fun j4 => []) (fun j4 => s_hg (s_sl g2 11 j4 (g2.2.1 1 8))) hk5 rfl rfl ?_
      refine s_Fin.sg 1 (y := (46, [some (.ref 10), some (.ref 1), none, none, none], [.ref 1], s_hg (s_sl g2 11 k5 (g2.2.1 1 8)))) rfl ?_
      obtain ⟨g6, hp, hB⟩ := s_bd hB
      refine s_Fin.cl (d := 2) (q1 := s_m20) (md := 20) (vs := [.ref 1]) (rest := []) (h1 := s_hg g6) (u := none) (s_Ev.up (by omega) (fQ_next_1_s hp)) rfl rfl rfl rfl ?_
      refine s_Fin.sg 4 (y := (55, [some (.ref 10), some (.ref 1), none, none, none], [.long (g6.2.1 1 8), .ref 10, .ref 1], s_hg g6)) rfl ?_
      obtain ⟨v7, hp, hB⟩ := s_bd hB
      refine s_Fin.cl (d := 2) (q1 := s_m32) (md := 32) (vs := [.ref 10, .long (g6.2.1 1 8)]) (rest := [.ref 1]) (h1 := s_hg g6) (u := some (.int v7)) (s_Ev.up (by omega) (fP_boyNamed_10_s hp)) rfl rfl rfl rfl ?_
      obtain ⟨v9, g8, hp, hB⟩ := s_bd2 hB
      refine s_Fin.cl (d := 2) (q1 := s_m36) (md := 36) (vs := [.ref 1, .int v7]) (rest := []) (h1 := s_hg g8) (u := some (.int v9)) (s_Ev.up (by omega) (fQ_passNamed_1_s hp)) rfl rfl rfl rfl ?_
      refine s_Fin.sg 3 (y := (64, [some (.ref 10), some (.ref 1), some (.int v9), none, none], [.int (-1 : Int32), .int v9], s_hg g8)) rfl ?_
      by_cases hc : v9 = (-1 : Int32)
      · rw [if_pos hc] at hB
        refine s_Fin.bt (c := v9 = (-1 : Int32)) (tg := 74) (p2 := 64) (L1 := [some (.ref 10), some (.ref 1), some (.int v9), none, none]) (st1 := []) hc rfl ?_
        refine s_Fin.sg 1 (y := (75, [some (.ref 10), some (.ref 1), some (.int v9), none, none], [.int (0 : Int32)], s_hg g8)) rfl ?_
        have hB := Option.some.inj hB
        subst hB
        obtain ⟨rfl, rfl⟩ := hr
        exact s_Fin.rt rfl rfl
      · rw [if_neg hc] at hB
        refine s_Fin.bf (c := v9 = (-1 : Int32)) (tg := 74) (p2 := 64) (L1 := [some (.ref 10), some (.ref 1), some (.int v9), none, none]) (st1 := []) hc rfl ?_
        refine s_Fin.sg 1 (y := (68, [some (.ref 10), some (.ref 1), some (.int v9), none, none], [.ref 1], s_hg g8)) rfl ?_
        obtain ⟨v11, g10, hp, hB⟩ := s_bd2 hB
        refine s_Fin.cl (d := 2) (q1 := s_m37) (md := 37) (vs := [.ref 1]) (rest := []) (h1 := s_hg g10) (u := some (.int v11)) (s_Ev.up (by omega) (fP_isKind_1_s hp)) rfl rfl rfl rfl ?_
        by_cases hc : v11 = 0
        · rw [if_pos hc] at hB
          refine s_Fin.bf (c := ¬ v11 = 0) (tg := 76) (p2 := 71) (L1 := [some (.ref 10), some (.ref 1), some (.int v9), none, none]) (st1 := []) (fun h => h hc) rfl ?_
          refine s_Fin.sg 1 (y := (75, [some (.ref 10), some (.ref 1), some (.int v9), none, none], [.int (0 : Int32)], s_hg g10)) rfl ?_
          have hB := Option.some.inj hB
          subst hB
          obtain ⟨rfl, rfl⟩ := hr
          exact s_Fin.rt rfl rfl
        · rw [if_neg hc] at hB
          refine s_Fin.bt (c := ¬ v11 = 0) (tg := 76) (p2 := 71) (L1 := [some (.ref 10), some (.ref 1), some (.int v9), none, none]) (st1 := []) hc rfl ?_
          refine s_Fin.sg 2 (y := (80, [some (.ref 10), some (.ref 1), some (.int v9), none, none], [va_rf (g10.2.2 1 9)], s_hg g10)) rfl ?_
          obtain ⟨a12, ha, hB⟩ := s_bd hB
          obtain ⟨v13, hu, hB⟩ := s_bd hB
          refine s_Fin.nx (pc1 := 83) (L1 := [some (.ref 10), some (.ref 1), some (.int v9), none, none]) (st1 := [.int v13]) (h1 := s_hg g10) (by rw [ha]; exact (show _ = s_gfw 1 83 [some (.ref 10), some (.ref 1), some (.int v9), none, none] [] (s_hg g10) a12 from rfl).trans (s_wkd_of hu)) rfl ?_
          refine s_Fin.sg 2 (y := (85, [some (.ref 10), some (.ref 1), some (.int v9), some (.int v13), none], [.ref 1], s_hg g10)) rfl ?_
          obtain ⟨g14, hp, hB⟩ := s_bd hB
          refine s_Fin.cl (d := 2) (q1 := s_m20) (md := 20) (vs := [.ref 1]) (rest := []) (h1 := s_hg g14) (u := none) (s_Ev.up (by omega) (fQ_next_1_s hp)) rfl rfl rfl rfl ?_
          refine s_Fin.sg 3 (y := (92, [some (.ref 10), some (.ref 1), some (.int v9), some (.int v13), none], [.int (40 : Int32), .int (1 : Int32), .ref 1], s_hg g14)) rfl ?_
          obtain ⟨v16, g15, hp, hB⟩ := s_bd2 hB
          refine s_Fin.cl (d := 2) (q1 := s_m34) (md := 34) (vs := [.ref 1, .int (1 : Int32), .int (40 : Int32)]) (rest := []) (h1 := s_hg g15) (u := some (.int v16)) (s_Ev.up (by omega) (fQ_passNumber_1_s hp)) rfl rfl rfl rfl ?_
          refine s_Fin.sg 3 (y := (100, [some (.ref 10), some (.ref 1), some (.int v9), some (.int v13), some (.int v16)], [.int (-1 : Int32), .int v16], s_hg g15)) rfl ?_
          by_cases hc : v16 = (-1 : Int32)
          · rw [if_pos hc] at hB
            refine s_Fin.bf (c := ¬ v16 = (-1 : Int32)) (tg := 105) (p2 := 100) (L1 := [some (.ref 10), some (.ref 1), some (.int v9), some (.int v13), some (.int v16)]) (st1 := []) (fun h => h hc) rfl ?_
            refine s_Fin.sg 1 (y := (104, [some (.ref 10), some (.ref 1), some (.int v9), some (.int v13), some (.int v16)], [.int (0 : Int32)], s_hg g15)) rfl ?_
            have hB := Option.some.inj hB
            subst hB
            obtain ⟨rfl, rfl⟩ := hr
            exact s_Fin.rt rfl rfl
          · rw [if_neg hc] at hB
            refine s_Fin.bt (c := ¬ v16 = (-1 : Int32)) (tg := 105) (p2 := 100) (L1 := [some (.ref 10), some (.ref 1), some (.int v9), some (.int v13), some (.int v16)]) (st1 := []) hc rfl ?_
            refine s_Fin.sg 5 (y := (114, [some (.ref 10), some (.ref 1), some (.int v9), some (.int v13), some (.int v16)], [.int v9, .int (g15.1 10 1), .ref 13], s_hg g15)) rfl ?_
            obtain ⟨k18, hk18, hB⟩ := s_bd hB
            refine s_Fin.ix (n := 10) (i := g15.1 10 1) (pc1 := 115) (L1 := [some (.ref 10), some (.ref 1), some (.int v9), some (.int v13), some (.int v16)]) (fun j17 => []) (fun j17 => s_hg (s_si g15 13 j17 v9)) hk18 rfl rfl ?_
            refine s_Fin.sg 5 (y := (124, [some (.ref 10), some (.ref 1), some (.int v9), some (.int v13), some (.int v16)], [.int v13, .int (g15.1 10 1), .ref 14], s_hg (s_si g15 13 k18 v9))) rfl ?_
            refine s_Fin.ix (n := 10) (i := g15.1 10 1) (pc1 := 125) (L1 := [some (.ref 10), some (.ref 1), some (.int v9), some (.int v13), some (.int v16)]) (fun j19 => []) (fun j19 => s_hg (s_si (s_si g15 13 k18 v9) 14 j19 v13)) hk18 rfl rfl ?_
            refine s_Fin.sg 5 (y := (135, [some (.ref 10), some (.ref 1), some (.int v9), some (.int v13), some (.int v16)], [.int v16, .int (g15.1 10 1), .ref 15], s_hg (s_si (s_si g15 13 k18 v9) 14 k18 v13))) rfl ?_
            refine s_Fin.ix (n := 10) (i := g15.1 10 1) (pc1 := 136) (L1 := [some (.ref 10), some (.ref 1), some (.int v9), some (.int v13), some (.int v16)]) (fun j20 => []) (fun j20 => s_hg (s_si (s_si (s_si g15 13 k18 v9) 14 k18 v13) 15 j20 v16)) hk18 rfl rfl ?_
            refine s_Fin.sg 7 (y := (147, [some (.ref 10), some (.ref 1), some (.int v9), some (.int v13), some (.int v16)], [.int (1 : Int32)], s_hg (s_si (s_si (s_si (s_si g15 13 k18 v9) 14 k18 v13) 15 k18 v16) 10 1 ((g15.1 10 1) + (1 : Int32))))) rfl ?_
            have hB := Option.some.inj hB
            subst hB
            obtain ⟨rfl, rfl⟩ := hr
            exact s_Fin.rt rfl rfl
  · rw [if_neg hc] at hB
    refine s_Fin.bf (c := (g.1 10 1) < (10 : Int32)) (tg := 15) (p2 := 6) (L1 := [some (.ref 10), some (.ref 1), none, none, none]) (st1 := []) hc rfl ?_
    refine s_Fin.sg 2 (y := (11, [some (.ref 10), some (.ref 1), none, none, none], [.int (4 : Int32), .ref 1], s_hg g)) rfl ?_
    obtain ⟨v22, g21, hp, hB⟩ := s_bd2 hB
    refine s_Fin.cl (d := 2) (q1 := s_m30) (md := 30) (vs := [.ref 1, .int (4 : Int32)]) (rest := []) (h1 := s_hg g21) (u := some (.int v22)) (s_Ev.up (by omega) (fQ_fail_1_s hp)) rfl rfl rfl rfl ?_
    have hc : v22 = 0 ∨ v22 = 1 := Classical.byContradiction fun h => (by rw [if_neg h] at hB; cases hB)
    rw [if_pos hc] at hB
    have hB := Option.some.inj hB
    subst hB
    obtain ⟨rfl, rfl⟩ := hr
    exact s_Fin.rt (by rcases hc with hc | hc <;> rw [hc] <;> exact rfl) rfl
-- CampAshes$Camp.readBoy
noncomputable def fP_readBoy_10_1 (g : s_G) : Option (Int32 × s_G) :=
  if (g.1 10 0) < (7 : Int32) then (s_b1 (fQ_next_1 g) fun g1 => s_b2 (fP_isNewName_10_1 g1) fun v3 g2 => if v3 = 0 then (some ((0 : Int32), g2))
  else s_b1 (s_ix 17 (g2.1 10 0)) fun k5 => s_b1 (fQ_next_1 (s_sl g2 11 k5 (g2.2.1 1 8))) fun g6 => s_b2 (fQ_passNumber_1 (1 : Int32) (60 : Int32) g6) fun v8 g7 => if v8 = (-1 : Int32) then (some ((0 : Int32), g7))
  else s_b1 (s_ix 7 (g7.1 10 0)) fun k10 => some ((1 : Int32), (s_si (s_si g7 12 k10 v8) 10 0 ((g7.1 10 0) + (1 : Int32)))))
  else s_b2 (fQ_fail_1 (4 : Int32) g) fun v12 g11 => if v12 = 0 ∨ v12 = 1 then some (v12, g11)
  else none
theorem fP_readBoy_10_1_s {g : s_G} {z : Int32 × s_G} (hB : fP_readBoy_10_1 g = some z) : s_Ev 3 s_m29 [.ref 10, .ref 1] (s_hg g) (some (.int z.1)) (s_hg z.2) := by
  unfold fP_readBoy_10_1 at hB
  refine s_Ev.fin ((?_ : ∀ (v : Option Value) (h' : s_H), (fun (z : Int32 × s_G) (v : Option Value) (h' : s_H) => v = some (.int z.1) ∧ h' = s_hg z.2) z v h' → s_Fin 3 s_m29 (0, s_ent [.ref 10, .ref 1] (s_m29).2.2.1, [], s_hg g) v h') _ _ ⟨rfl, rfl⟩)
  intro v h' hr
  refine (show s_Fin 3 s_m29 (0, [some (.ref 10), some (.ref 1), none], [], s_hg g) v h' from ?_)
  refine s_Fin.sg 3 (y := (6, [some (.ref 10), some (.ref 1), none], [.int (7 : Int32), .int (g.1 10 0)], s_hg g)) rfl ?_
  by_cases hc : (g.1 10 0) < (7 : Int32)
  · rw [if_pos hc] at hB
    refine s_Fin.bt (c := (g.1 10 0) < (7 : Int32)) (tg := 15) (p2 := 6) (L1 := [some (.ref 10), some (.ref 1), none]) (st1 := []) hc rfl ?_
    refine s_Fin.sg 1 (y := (16, [some (.ref 10), some (.ref 1), none], [.ref 1], s_hg g)) rfl ?_
    obtain ⟨g1, hp, hB⟩ := s_bd hB
    refine s_Fin.cl (d := 2) (q1 := s_m20) (md := 20) (vs := [.ref 1]) (rest := []) (h1 := s_hg g1) (u := none) (s_Ev.up (by omega) (fQ_next_1_s hp)) rfl rfl rfl rfl ?_
    refine s_Fin.sg 2 (y := (21, [some (.ref 10), some (.ref 1), none], [.ref 1, .ref 10], s_hg g1)) rfl ?_
    obtain ⟨v3, g2, hp, hB⟩ := s_bd2 hB
    refine s_Fin.cl (d := 2) (q1 := s_m31) (md := 31) (vs := [.ref 10, .ref 1]) (rest := []) (h1 := s_hg g2) (u := some (.int v3)) (s_Ev.up (by omega) (fP_isNewName_10_1_s hp)) rfl rfl rfl rfl ?_
    by_cases hc : v3 = 0
    · rw [if_pos hc] at hB
      refine s_Fin.bf (c := ¬ v3 = 0) (tg := 29) (p2 := 24) (L1 := [some (.ref 10), some (.ref 1), none]) (st1 := []) (fun h => h hc) rfl ?_
      refine s_Fin.sg 1 (y := (28, [some (.ref 10), some (.ref 1), none], [.int (0 : Int32)], s_hg g2)) rfl ?_
      have hB := Option.some.inj hB
      subst hB
      obtain ⟨rfl, rfl⟩ := hr
      exact s_Fin.rt rfl rfl
    · rw [if_neg hc] at hB
      refine s_Fin.bt (c := ¬ v3 = 0) (tg := 29) (p2 := 24) (L1 := [some (.ref 10), some (.ref 1), none]) (st1 := []) hc rfl ?_
      refine s_Fin.sg 6 (y := (41, [some (.ref 10), some (.ref 1), none], [.long (g2.2.1 1 8), .int (g2.1 10 0), .ref 11], s_hg g2)) rfl ?_
      obtain ⟨k5, hk5, hB⟩ := s_bd hB
      refine s_Fin.ix (n := 17) (i := g2.1 10 0) (pc1 := 42) (L1 := [some (.ref 10), some (.ref 1), none]) (fun j4 => []) (fun j4 => s_hg (s_sl g2 11 j4 (g2.2.1 1 8))) hk5 rfl rfl ?_
      refine s_Fin.sg 1 (y := (43, [some (.ref 10), some (.ref 1), none], [.ref 1], s_hg (s_sl g2 11 k5 (g2.2.1 1 8)))) rfl ?_
      obtain ⟨g6, hp, hB⟩ := s_bd hB
      refine s_Fin.cl (d := 2) (q1 := s_m20) (md := 20) (vs := [.ref 1]) (rest := []) (h1 := s_hg g6) (u := none) (s_Ev.up (by omega) (fQ_next_1_s hp)) rfl rfl rfl rfl ?_
      refine s_Fin.sg 3 (y := (50, [some (.ref 10), some (.ref 1), none], [.int (60 : Int32), .int (1 : Int32), .ref 1], s_hg g6)) rfl ?_
      obtain ⟨v8, g7, hp, hB⟩ := s_bd2 hB
      refine s_Fin.cl (d := 2) (q1 := s_m34) (md := 34) (vs := [.ref 1, .int (1 : Int32), .int (60 : Int32)]) (rest := []) (h1 := s_hg g7) (u := some (.int v8)) (s_Ev.up (by omega) (fQ_passNumber_1_s hp)) rfl rfl rfl rfl ?_
      refine s_Fin.sg 3 (y := (56, [some (.ref 10), some (.ref 1), some (.int v8)], [.int (-1 : Int32), .int v8], s_hg g7)) rfl ?_
      by_cases hc : v8 = (-1 : Int32)
      · rw [if_pos hc] at hB
        refine s_Fin.bf (c := ¬ v8 = (-1 : Int32)) (tg := 61) (p2 := 56) (L1 := [some (.ref 10), some (.ref 1), some (.int v8)]) (st1 := []) (fun h => h hc) rfl ?_
        refine s_Fin.sg 1 (y := (60, [some (.ref 10), some (.ref 1), some (.int v8)], [.int (0 : Int32)], s_hg g7)) rfl ?_
        have hB := Option.some.inj hB
        subst hB
        obtain ⟨rfl, rfl⟩ := hr
        exact s_Fin.rt rfl rfl
      · rw [if_neg hc] at hB
        refine s_Fin.bt (c := ¬ v8 = (-1 : Int32)) (tg := 61) (p2 := 56) (L1 := [some (.ref 10), some (.ref 1), some (.int v8)]) (st1 := []) hc rfl ?_
        refine s_Fin.sg 5 (y := (70, [some (.ref 10), some (.ref 1), some (.int v8)], [.int v8, .int (g7.1 10 0), .ref 12], s_hg g7)) rfl ?_
        obtain ⟨k10, hk10, hB⟩ := s_bd hB
        refine s_Fin.ix (n := 7) (i := g7.1 10 0) (pc1 := 71) (L1 := [some (.ref 10), some (.ref 1), some (.int v8)]) (fun j9 => []) (fun j9 => s_hg (s_si g7 12 j9 v8)) hk10 rfl rfl ?_
        refine s_Fin.sg 7 (y := (82, [some (.ref 10), some (.ref 1), some (.int v8)], [.int (1 : Int32)], s_hg (s_si (s_si g7 12 k10 v8) 10 0 ((g7.1 10 0) + (1 : Int32))))) rfl ?_
        have hB := Option.some.inj hB
        subst hB
        obtain ⟨rfl, rfl⟩ := hr
        exact s_Fin.rt rfl rfl
  · rw [if_neg hc] at hB
    refine s_Fin.bf (c := (g.1 10 0) < (7 : Int32)) (tg := 15) (p2 := 6) (L1 := [some (.ref 10), some (.ref 1), none]) (st1 := []) hc rfl ?_
    refine s_Fin.sg 2 (y := (11, [some (.ref 10), some (.ref 1), none], [.int (4 : Int32), .ref 1], s_hg g)) rfl ?_
    obtain ⟨v12, g11, hp, hB⟩ := s_bd2 hB
    refine s_Fin.cl (d := 2) (q1 := s_m30) (md := 30) (vs := [.ref 1, .int (4 : Int32)]) (rest := []) (h1 := s_hg g11) (u := some (.int v12)) (s_Ev.up (by omega) (fQ_fail_1_s hp)) rfl rfl rfl rfl ?_
    have hc : v12 = 0 ∨ v12 = 1 := Classical.byContradiction fun h => (by rw [if_neg h] at hB; cases hB)
    rw [if_pos hc] at hB
    have hB := Option.some.inj hB
    subst hB
    obtain ⟨rfl, rfl⟩ := hr
    exact s_Fin.rt (by rcases hc with hc | hc <;> rw [hc] <;> exact rfl) rfl
