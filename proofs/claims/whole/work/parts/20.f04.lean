-- CampAshesModel.readLine
noncomputable def fM_readLine_130 (g : s_G) : Option (Int32 × s_G) :=
  s_b1 (fM_isWord_130 (0 : Int32) g) fun v1 => if v1 = 0 then (s_b1 (fM_isWord_130 (1 : Int32) g) fun v2 => if v2 = 0 then (s_b1 (fM_isWord_130 (2 : Int32) g) fun v3 => if v3 = 0 then (s_b1 (fM_isWord_130 (3 : Int32) g) fun v4 => if v4 = 0 then (s_b1 (fM_isWord_130 (4 : Int32) g) fun v5 => if v5 = 0 then (s_b1 (fM_isWord_130 (5 : Int32) g) fun v6 => if v6 = 0 then (s_b1 (fM_isWord_130 (6 : Int32) g) fun v7 => if v7 = 0 then (s_b2 (fM_bad_130 (1 : Int32) g) fun v9 g8 => if v9 = 0 ∨ v9 = 1 then some (v9, g8)
  else none)
  else s_b2 (fM_readOnce_130 (3 : Int32) (5 : Int32) (2 : Int32) (30 : Int32) g) fun v11 g10 => if v11 = 0 ∨ v11 = 1 then some (v11, g10)
  else none)
  else s_b2 (fM_readOnce_130 (2 : Int32) (4 : Int32) (0 : Int32) (9 : Int32) g) fun v13 g12 => if v13 = 0 ∨ v13 = 1 then some (v13, g12)
  else none)
  else s_b2 (fM_readOnce_130 (1 : Int32) (3 : Int32) (0 : Int32) (20 : Int32) g) fun v15 g14 => if v15 = 0 ∨ v15 = 1 then some (v15, g14)
  else none)
  else s_b2 (fM_readOnce_130 (0 : Int32) (2 : Int32) (0 : Int32) (30 : Int32) g) fun v17 g16 => if v17 = 0 ∨ v17 = 1 then some (v17, g16)
  else none)
  else s_b2 (fM_readTakes_130 g) fun v19 g18 => if v19 = 0 ∨ v19 = 1 then some (v19, g18)
  else none)
  else s_b2 (fM_readEvent_130 g) fun v21 g20 => if v21 = 0 ∨ v21 = 1 then some (v21, g20)
  else none)
  else s_b2 (fM_readBoy_130 g) fun v23 g22 => if v23 = 0 ∨ v23 = 1 then some (v23, g22)
  else none
theorem fM_readLine_130_s {g : s_G} {z : Int32 × s_G} (hB : fM_readLine_130 g = some z) : s_Ev 5 s_m170 [.ref 130] (s_hg g) (some (.int z.1)) (s_hg z.2) := by
  unfold fM_readLine_130 at hB
  refine s_Ev.fin ((?_ : ∀ (v : Option Value) (h' : s_H), (fun (z : Int32 × s_G) (v : Option Value) (h' : s_H) => v = some (.int z.1) ∧ h' = s_hg z.2) z v h' → s_Fin 5 s_m170 (0, s_ent [.ref 130] (s_m170).2.2.1, [], s_hg g) v h') _ _ ⟨rfl, rfl⟩)
  intro v h' hr
  refine (show s_Fin 5 s_m170 (0, [some (.ref 130)], [], s_hg g) v h' from ?_)
  refine s_Fin.sg 2 (y := (2, [some (.ref 130)], [.int (0 : Int32), .ref 130], s_hg g)) rfl ?_
  obtain ⟨v1, hp, hB⟩ := s_bd hB
  refine s_Fin.cl (d := 4) (q1 := s_m171) (md := 171) (vs := [.ref 130, .int (0 : Int32)]) (rest := []) (h1 := s_hg g) (u := some (.int v1)) (s_Ev.up (by omega) (fM_isWord_130_s hp)) rfl rfl rfl rfl ?_
  by_cases hc : v1 = 0
  · rw [if_pos hc] at hB
    refine s_Fin.bt (c := v1 = 0) (tg := 13) (p2 := 5) (L1 := [some (.ref 130)]) (st1 := []) hc rfl ?_
    refine s_Fin.sg 2 (y := (15, [some (.ref 130)], [.int (1 : Int32), .ref 130], s_hg g)) rfl ?_
    obtain ⟨v2, hp, hB⟩ := s_bd hB
    refine s_Fin.cl (d := 4) (q1 := s_m171) (md := 171) (vs := [.ref 130, .int (1 : Int32)]) (rest := []) (h1 := s_hg g) (u := some (.int v2)) (s_Ev.up (by omega) (fM_isWord_130_s hp)) rfl rfl rfl rfl ?_
    by_cases hc : v2 = 0
    · rw [if_pos hc] at hB
      refine s_Fin.bt (c := v2 = 0) (tg := 26) (p2 := 18) (L1 := [some (.ref 130)]) (st1 := []) hc rfl ?_
      refine s_Fin.sg 2 (y := (28, [some (.ref 130)], [.int (2 : Int32), .ref 130], s_hg g)) rfl ?_
      obtain ⟨v3, hp, hB⟩ := s_bd hB
      refine s_Fin.cl (d := 4) (q1 := s_m171) (md := 171) (vs := [.ref 130, .int (2 : Int32)]) (rest := []) (h1 := s_hg g) (u := some (.int v3)) (s_Ev.up (by omega) (fM_isWord_130_s hp)) rfl rfl rfl rfl ?_
      by_cases hc : v3 = 0
      · rw [if_pos hc] at hB
        refine s_Fin.bt (c := v3 = 0) (tg := 39) (p2 := 31) (L1 := [some (.ref 130)]) (st1 := []) hc rfl ?_
        refine s_Fin.sg 2 (y := (41, [some (.ref 130)], [.int (3 : Int32), .ref 130], s_hg g)) rfl ?_
        obtain ⟨v4, hp, hB⟩ := s_bd hB
        refine s_Fin.cl (d := 4) (q1 := s_m171) (md := 171) (vs := [.ref 130, .int (3 : Int32)]) (rest := []) (h1 := s_hg g) (u := some (.int v4)) (s_Ev.up (by omega) (fM_isWord_130_s hp)) rfl rfl rfl rfl ?_
        by_cases hc : v4 = 0
        · rw [if_pos hc] at hB
          refine s_Fin.bt (c := v4 = 0) (tg := 57) (p2 := 44) (L1 := [some (.ref 130)]) (st1 := []) hc rfl ?_
          refine s_Fin.sg 2 (y := (59, [some (.ref 130)], [.int (4 : Int32), .ref 130], s_hg g)) rfl ?_
          obtain ⟨v5, hp, hB⟩ := s_bd hB
          refine s_Fin.cl (d := 4) (q1 := s_m171) (md := 171) (vs := [.ref 130, .int (4 : Int32)]) (rest := []) (h1 := s_hg g) (u := some (.int v5)) (s_Ev.up (by omega) (fM_isWord_130_s hp)) rfl rfl rfl rfl ?_
          by_cases hc : v5 = 0
          · rw [if_pos hc] at hB
            refine s_Fin.bt (c := v5 = 0) (tg := 75) (p2 := 62) (L1 := [some (.ref 130)]) (st1 := []) hc rfl ?_
            refine s_Fin.sg 2 (y := (77, [some (.ref 130)], [.int (5 : Int32), .ref 130], s_hg g)) rfl ?_
            obtain ⟨v6, hp, hB⟩ := s_bd hB
            refine s_Fin.cl (d := 4) (q1 := s_m171) (md := 171) (vs := [.ref 130, .int (5 : Int32)]) (rest := []) (h1 := s_hg g) (u := some (.int v6)) (s_Ev.up (by omega) (fM_isWord_130_s hp)) rfl rfl rfl rfl ?_
            by_cases hc : v6 = 0
            · rw [if_pos hc] at hB
              refine s_Fin.bt (c := v6 = 0) (tg := 93) (p2 := 80) (L1 := [some (.ref 130)]) (st1 := []) hc rfl ?_
              refine s_Fin.sg 2 (y := (96, [some (.ref 130)], [.int (6 : Int32), .ref 130], s_hg g)) rfl ?_
              obtain ⟨v7, hp, hB⟩ := s_bd hB
              refine s_Fin.cl (d := 4) (q1 := s_m171) (md := 171) (vs := [.ref 130, .int (6 : Int32)]) (rest := []) (h1 := s_hg g) (u := some (.int v7)) (s_Ev.up (by omega) (fM_isWord_130_s hp)) rfl rfl rfl rfl ?_
              by_cases hc : v7 = 0
              · rw [if_pos hc] at hB
                refine s_Fin.bt (c := v7 = 0) (tg := 114) (p2 := 99) (L1 := [some (.ref 130)]) (st1 := []) hc rfl ?_
                refine s_Fin.sg 2 (y := (116, [some (.ref 130)], [.int (1 : Int32), .ref 130], s_hg g)) rfl ?_
                obtain ⟨v9, g8, hp, hB⟩ := s_bd2 hB
                refine s_Fin.cl (d := 4) (q1 := s_m176) (md := 176) (vs := [.ref 130, .int (1 : Int32)]) (rest := []) (h1 := s_hg g8) (u := some (.int v9)) (s_Ev.up (by omega) (fM_bad_130_s hp)) rfl rfl rfl rfl ?_
                have hc : v9 = 0 ∨ v9 = 1 := Classical.byContradiction fun h => (by rw [if_neg h] at hB; cases hB)
                rw [if_pos hc] at hB
                have hB := Option.some.inj hB
                subst hB
                obtain ⟨rfl, rfl⟩ := hr
                exact s_Fin.rt (by rcases hc with hc | hc <;> rw [hc] <;> exact rfl) rfl
              · rw [if_neg hc] at hB
                refine s_Fin.bf (c := v7 = 0) (tg := 114) (p2 := 99) (L1 := [some (.ref 130)]) (st1 := []) hc rfl ?_
                refine s_Fin.sg 5 (y := (108, [some (.ref 130)], [.int (30 : Int32), .int (2 : Int32), .int (5 : Int32), .int (3 : Int32), .ref 130], s_hg g)) rfl ?_
                obtain ⟨v11, g10, hp, hB⟩ := s_bd2 hB
                refine s_Fin.cl (d := 4) (q1 := s_m187) (md := 187) (vs := [.ref 130, .int (3 : Int32), .int (5 : Int32), .int (2 : Int32), .int (30 : Int32)]) (rest := []) (h1 := s_hg g10) (u := some (.int v11)) (s_Ev.up (by omega) (fM_readOnce_130_s hp)) rfl rfl rfl rfl ?_
                refine s_Fin.sg 1 (y := (119, [some (.ref 130)], [.int v11], s_hg g10)) rfl ?_
                have hc : v11 = 0 ∨ v11 = 1 := Classical.byContradiction fun h => (by rw [if_neg h] at hB; cases hB)
                rw [if_pos hc] at hB
                have hB := Option.some.inj hB
                subst hB
                obtain ⟨rfl, rfl⟩ := hr
                exact s_Fin.rt (by rcases hc with hc | hc <;> rw [hc] <;> exact rfl) rfl
            · rw [if_neg hc] at hB
              refine s_Fin.bf (c := v6 = 0) (tg := 93) (p2 := 80) (L1 := [some (.ref 130)]) (st1 := []) hc rfl ?_
              refine s_Fin.sg 5 (y := (89, [some (.ref 130)], [.int (9 : Int32), .int (0 : Int32), .int (4 : Int32), .int (2 : Int32), .ref 130], s_hg g)) rfl ?_
              obtain ⟨v13, g12, hp, hB⟩ := s_bd2 hB
              refine s_Fin.cl (d := 4) (q1 := s_m187) (md := 187) (vs := [.ref 130, .int (2 : Int32), .int (4 : Int32), .int (0 : Int32), .int (9 : Int32)]) (rest := []) (h1 := s_hg g12) (u := some (.int v13)) (s_Ev.up (by omega) (fM_readOnce_130_s hp)) rfl rfl rfl rfl ?_
              have hc : v13 = 0 ∨ v13 = 1 := Classical.byContradiction fun h => (by rw [if_neg h] at hB; cases hB)
              rw [if_pos hc] at hB
              have hB := Option.some.inj hB
              subst hB
              obtain ⟨rfl, rfl⟩ := hr
              exact s_Fin.rt (by rcases hc with hc | hc <;> rw [hc] <;> exact rfl) rfl
          · rw [if_neg hc] at hB
            refine s_Fin.bf (c := v5 = 0) (tg := 75) (p2 := 62) (L1 := [some (.ref 130)]) (st1 := []) hc rfl ?_
            refine s_Fin.sg 5 (y := (71, [some (.ref 130)], [.int (20 : Int32), .int (0 : Int32), .int (3 : Int32), .int (1 : Int32), .ref 130], s_hg g)) rfl ?_
            obtain ⟨v15, g14, hp, hB⟩ := s_bd2 hB
            refine s_Fin.cl (d := 4) (q1 := s_m187) (md := 187) (vs := [.ref 130, .int (1 : Int32), .int (3 : Int32), .int (0 : Int32), .int (20 : Int32)]) (rest := []) (h1 := s_hg g14) (u := some (.int v15)) (s_Ev.up (by omega) (fM_readOnce_130_s hp)) rfl rfl rfl rfl ?_
            have hc : v15 = 0 ∨ v15 = 1 := Classical.byContradiction fun h => (by rw [if_neg h] at hB; cases hB)
            rw [if_pos hc] at hB
            have hB := Option.some.inj hB
            subst hB
            obtain ⟨rfl, rfl⟩ := hr
            exact s_Fin.rt (by rcases hc with hc | hc <;> rw [hc] <;> exact rfl) rfl
        · rw [if_neg hc] at hB
          refine s_Fin.bf (c := v4 = 0) (tg := 57) (p2 := 44) (L1 := [some (.ref 130)]) (st1 := []) hc rfl ?_
          refine s_Fin.sg 5 (y := (53, [some (.ref 130)], [.int (30 : Int32), .int (0 : Int32), .int (2 : Int32), .int (0 : Int32), .ref 130], s_hg g)) rfl ?_
          obtain ⟨v17, g16, hp, hB⟩ := s_bd2 hB
          refine s_Fin.cl (d := 4) (q1 := s_m187) (md := 187) (vs := [.ref 130, .int (0 : Int32), .int (2 : Int32), .int (0 : Int32), .int (30 : Int32)]) (rest := []) (h1 := s_hg g16) (u := some (.int v17)) (s_Ev.up (by omega) (fM_readOnce_130_s hp)) rfl rfl rfl rfl ?_
          have hc : v17 = 0 ∨ v17 = 1 := Classical.byContradiction fun h => (by rw [if_neg h] at hB; cases hB)
          rw [if_pos hc] at hB
          have hB := Option.some.inj hB
          subst hB
          obtain ⟨rfl, rfl⟩ := hr
          exact s_Fin.rt (by rcases hc with hc | hc <;> rw [hc] <;> exact rfl) rfl
      · rw [if_neg hc] at hB
        refine s_Fin.bf (c := v3 = 0) (tg := 39) (p2 := 31) (L1 := [some (.ref 130)]) (st1 := []) hc rfl ?_
        refine s_Fin.sg 1 (y := (35, [some (.ref 130)], [.ref 130], s_hg g)) rfl ?_
        obtain ⟨v19, g18, hp, hB⟩ := s_bd2 hB
        refine s_Fin.cl (d := 4) (q1 := s_m186) (md := 186) (vs := [.ref 130]) (rest := []) (h1 := s_hg g18) (u := some (.int v19)) (s_Ev.up (by omega) (fM_readTakes_130_s hp)) rfl rfl rfl rfl ?_
        have hc : v19 = 0 ∨ v19 = 1 := Classical.byContradiction fun h => (by rw [if_neg h] at hB; cases hB)
        rw [if_pos hc] at hB
        have hB := Option.some.inj hB
        subst hB
        obtain ⟨rfl, rfl⟩ := hr
        exact s_Fin.rt (by rcases hc with hc | hc <;> rw [hc] <;> exact rfl) rfl
    · rw [if_neg hc] at hB
      refine s_Fin.bf (c := v2 = 0) (tg := 26) (p2 := 18) (L1 := [some (.ref 130)]) (st1 := []) hc rfl ?_
      refine s_Fin.sg 1 (y := (22, [some (.ref 130)], [.ref 130], s_hg g)) rfl ?_
      obtain ⟨v21, g20, hp, hB⟩ := s_bd2 hB
      refine s_Fin.cl (d := 4) (q1 := s_m183) (md := 183) (vs := [.ref 130]) (rest := []) (h1 := s_hg g20) (u := some (.int v21)) (s_Ev.up (by omega) (fM_readEvent_130_s hp)) rfl rfl rfl rfl ?_
      have hc : v21 = 0 ∨ v21 = 1 := Classical.byContradiction fun h => (by rw [if_neg h] at hB; cases hB)
      rw [if_pos hc] at hB
      have hB := Option.some.inj hB
      subst hB
      obtain ⟨rfl, rfl⟩ := hr
      exact s_Fin.rt (by rcases hc with hc | hc <;> rw [hc] <;> exact rfl) rfl
  · rw [if_neg hc] at hB
    refine s_Fin.bf (c := v1 = 0) (tg := 13) (p2 := 5) (L1 := [some (.ref 130)]) (st1 := []) hc rfl ?_
    refine s_Fin.sg 1 (y := (9, [some (.ref 130)], [.ref 130], s_hg g)) rfl ?_
    obtain ⟨v23, g22, hp, hB⟩ := s_bd2 hB
    refine s_Fin.cl (d := 4) (q1 := s_m174) (md := 174) (vs := [.ref 130]) (rest := []) (h1 := s_hg g22) (u := some (.int v23)) (s_Ev.up (by omega) (fM_readBoy_130_s hp)) rfl rfl rfl rfl ?_
    have hc : v23 = 0 ∨ v23 = 1 := Classical.byContradiction fun h => (by rw [if_neg h] at hB; cases hB)
    rw [if_pos hc] at hB
    have hB := Option.some.inj hB
    subst hB
    obtain ⟨rfl, rfl⟩ := hr
    exact s_Fin.rt (by rcases hc with hc | hc <;> rw [hc] <;> exact rfl) rfl
-- CampAshesModel.isSign
noncomputable def fM_isSign_130 (x1 : Int32) (g : s_G) : Option (Int32) :=
  if (g.1 130 7) = (4 : Int32) then (if (g.1 130 9) = x1 then (some (1 : Int32))
  else some (0 : Int32))
  else some (0 : Int32)
theorem fM_isSign_130_s {x1 : Int32} {g : s_G} {z : Int32} (hB : fM_isSign_130 x1 g = some z) : s_Ev 0 s_m189 [.ref 130, .int x1] (s_hg g) (some (.int z)) (s_hg g) := by
  unfold fM_isSign_130 at hB
  refine s_Ev.fin ((?_ : ∀ (v : Option Value) (h' : s_H), (fun (z : Int32) (v : Option Value) (h' : s_H) => v = some (.int z) ∧ h' = s_hg g) z v h' → s_Fin 0 s_m189 (0, s_ent [.ref 130, .int x1] (s_m189).2.2.1, [], s_hg g) v h') _ _ ⟨rfl, rfl⟩)
  intro v h' hr
  refine (show s_Fin 0 s_m189 (0, [some (.ref 130), some (.int x1)], [], s_hg g) v h' from ?_)
  refine s_Fin.sg 3 (y := (5, [some (.ref 130), some (.int x1)], [.int (4 : Int32), .int (g.1 130 7)], s_hg g)) rfl ?_
  by_cases hc : (g.1 130 7) = (4 : Int32)
  · rw [if_pos hc] at hB
    refine s_Fin.bf (c := ¬ (g.1 130 7) = (4 : Int32)) (tg := 20) (p2 := 5) (L1 := [some (.ref 130), some (.int x1)]) (st1 := []) (fun h => h hc) rfl ?_
    refine s_Fin.sg 3 (y := (13, [some (.ref 130), some (.int x1)], [.int x1, .int (g.1 130 9)], s_hg g)) rfl ?_
    by_cases hc : (g.1 130 9) = x1
    · rw [if_pos hc] at hB
      refine s_Fin.bf (c := ¬ (g.1 130 9) = x1) (tg := 20) (p2 := 13) (L1 := [some (.ref 130), some (.int x1)]) (st1 := []) (fun h => h hc) rfl ?_
      refine s_Fin.sg 2 (y := (21, [some (.ref 130), some (.int x1)], [.int (1 : Int32)], s_hg g)) rfl ?_
      have hB := Option.some.inj hB
      subst hB
      obtain ⟨rfl, rfl⟩ := hr
      exact s_Fin.rt rfl rfl
    · rw [if_neg hc] at hB
      refine s_Fin.bt (c := ¬ (g.1 130 9) = x1) (tg := 20) (p2 := 13) (L1 := [some (.ref 130), some (.int x1)]) (st1 := []) hc rfl ?_
      refine s_Fin.sg 1 (y := (21, [some (.ref 130), some (.int x1)], [.int (0 : Int32)], s_hg g)) rfl ?_
      have hB := Option.some.inj hB
      subst hB
      obtain ⟨rfl, rfl⟩ := hr
      exact s_Fin.rt rfl rfl
  · rw [if_neg hc] at hB
    refine s_Fin.bt (c := ¬ (g.1 130 7) = (4 : Int32)) (tg := 20) (p2 := 5) (L1 := [some (.ref 130), some (.int x1)]) (st1 := []) hc rfl ?_
    refine s_Fin.sg 1 (y := (21, [some (.ref 130), some (.int x1)], [.int (0 : Int32)], s_hg g)) rfl ?_
    have hB := Option.some.inj hB
    subst hB
    obtain ⟨rfl, rfl⟩ := hr
    exact s_Fin.rt rfl rfl
-- CampAshesModel.readEnd
noncomputable def fM_readEnd_130 (g : s_G) : Option (Int32 × s_G) :=
  s_b1 (fM_isSign_130 (59 : Int32) g) fun v1 => if v1 = 0 then (s_b2 (fM_bad_130 (1 : Int32) g) fun v3 g2 => if v3 = 0 ∨ v3 = 1 then some (v3, g2)
  else none)
  else s_b1 (fM_go_130 g) fun g4 => some ((1 : Int32), g4)
theorem fM_readEnd_130_s {g : s_G} {z : Int32 × s_G} (hB : fM_readEnd_130 g = some z) : s_Ev 2 s_m188 [.ref 130] (s_hg g) (some (.int z.1)) (s_hg z.2) := by
  unfold fM_readEnd_130 at hB
  refine s_Ev.fin ((?_ : ∀ (v : Option Value) (h' : s_H), (fun (z : Int32 × s_G) (v : Option Value) (h' : s_H) => v = some (.int z.1) ∧ h' = s_hg z.2) z v h' → s_Fin 2 s_m188 (0, s_ent [.ref 130] (s_m188).2.2.1, [], s_hg g) v h') _ _ ⟨rfl, rfl⟩)
  intro v h' hr
  refine (show s_Fin 2 s_m188 (0, [some (.ref 130)], [], s_hg g) v h' from ?_)
  refine s_Fin.sg 2 (y := (3, [some (.ref 130)], [.int (59 : Int32), .ref 130], s_hg g)) rfl ?_
  obtain ⟨v1, hp, hB⟩ := s_bd hB
  refine s_Fin.cl (d := 1) (q1 := s_m189) (md := 189) (vs := [.ref 130, .int (59 : Int32)]) (rest := []) (h1 := s_hg g) (u := some (.int v1)) (s_Ev.up (by omega) (fM_isSign_130_s hp)) rfl rfl rfl rfl ?_
  by_cases hc : v1 = 0
  · rw [if_pos hc] at hB
    refine s_Fin.bf (c := ¬ v1 = 0) (tg := 15) (p2 := 6) (L1 := [some (.ref 130)]) (st1 := []) (fun h => h hc) rfl ?_
    refine s_Fin.sg 2 (y := (11, [some (.ref 130)], [.int (1 : Int32), .ref 130], s_hg g)) rfl ?_
    obtain ⟨v3, g2, hp, hB⟩ := s_bd2 hB
    refine s_Fin.cl (d := 1) (q1 := s_m176) (md := 176) (vs := [.ref 130, .int (1 : Int32)]) (rest := []) (h1 := s_hg g2) (u := some (.int v3)) (s_Ev.up (by omega) (fM_bad_130_s hp)) rfl rfl rfl rfl ?_
    have hc : v3 = 0 ∨ v3 = 1 := Classical.byContradiction fun h => (by rw [if_neg h] at hB; cases hB)
    rw [if_pos hc] at hB
    have hB := Option.some.inj hB
    subst hB
    obtain ⟨rfl, rfl⟩ := hr
    exact s_Fin.rt (by rcases hc with hc | hc <;> rw [hc] <;> exact rfl) rfl
  · rw [if_neg hc] at hB
    refine s_Fin.bt (c := ¬ v1 = 0) (tg := 15) (p2 := 6) (L1 := [some (.ref 130)]) (st1 := []) hc rfl ?_
    refine s_Fin.sg 1 (y := (16, [some (.ref 130)], [.ref 130], s_hg g)) rfl ?_
    obtain ⟨g4, hp, hB⟩ := s_bd hB
    refine s_Fin.cl (d := 1) (q1 := s_m166) (md := 166) (vs := [.ref 130]) (rest := []) (h1 := s_hg g4) (u := none) (s_Ev.up (by omega) (fM_go_130_s hp)) rfl rfl rfl rfl ?_
    refine s_Fin.sg 1 (y := (20, [some (.ref 130)], [.int (1 : Int32)], s_hg g4)) rfl ?_
    have hB := Option.some.inj hB
    subst hB
    obtain ⟨rfl, rfl⟩ := hr
    exact s_Fin.rt rfl rfl
-- CampAshesModel.camp
noncomputable def fM_camp_130_75 (x1 : Int32) (x2 : Int32) (g : s_G) : Option ((Int32 × s_G) ⊕ (Int32 × s_G)) :=
  if x2 < (17 : Int32) then (s_b1 (s_ix 17 x2) fun k8 => some (.inl (x2 + (1 : Int32), (s_sl g 137 k8 (g.2.1 138 k8)))))
  else s_in (s_b1 (fM_startSo_130 g) fun g10 => some (x1, (s_si g10 130 25 (0 : Int32))))
theorem fM_camp_130_75_s {x1 : Int32} {x2 : Int32} {g : s_G} {z : (Int32 × s_G) ⊕ (Int32 × s_G)} (hB : fM_camp_130_75 x1 x2 g = some z) {v : Option Value} {h' : s_H} (hr : (s_sm (fun (x : Int32 × s_G) (v : Option Value) (h' : s_H) => s_Fin 6 s_m163 (75, [some (.ref 130), some (.int x1), some (.int x.1)], [], s_hg x.2) v h') (fun (z : Int32 × s_G) (v : Option Value) (h' : s_H) => v = some (.int z.1) ∧ h' = s_hg z.2)) z v h') : s_Fin 6 s_m163 (75, [some (.ref 130), some (.int x1), some (.int x2)], [], s_hg g) v h' := by
  unfold fM_camp_130_75 at hB
  refine s_Fin.sg 2 (y := (78, [some (.ref 130), some (.int x1), some (.int x2)], [.int (17 : Int32), .int x2], s_hg g)) rfl ?_
  by_cases hc : x2 < (17 : Int32)
  · rw [if_pos hc] at hB
    refine s_Fin.bf (c := (17 : Int32) ≤ x2) (tg := 99) (p2 := 78) (L1 := [some (.ref 130), some (.int x1), some (.int x2)]) (st1 := []) (Int32.not_le.mpr hc) rfl ?_
    refine s_Fin.sg 6 (y := (91, [some (.ref 130), some (.int x1), some (.int x2)], [.int x2, .ref 138, .int x2, .ref 137], s_hg g)) rfl ?_
    obtain ⟨k8, hk8, hB⟩ := s_bd hB
    refine s_Fin.ix (n := 17) (i := x2) (pc1 := 92) (L1 := [some (.ref 130), some (.int x1), some (.int x2)]) (fun j7 => [.long (g.2.1 138 j7), .int x2, .ref 137]) (fun j7 => s_hg g) hk8 rfl rfl ?_
    refine s_Fin.ix (n := 17) (i := x2) (pc1 := 93) (L1 := [some (.ref 130), some (.int x1), some (.int x2)]) (fun j9 => []) (fun j9 => s_hg (s_sl g 137 j9 (g.2.1 138 k8))) hk8 rfl rfl ?_
    refine s_Fin.sg 2 (y := (75, [some (.ref 130), some (.int x1), some (.int (x2 + (1 : Int32)))], [], s_hg (s_sl g 137 k8 (g.2.1 138 k8)))) rfl ?_
    have hB := Option.some.inj hB
    subst hB
    exact s_Fin.more (L := [some (.ref 130), some (.int x1), some (.int (x2 + (1 : Int32)))]) ⟨Or.inr rfl, Or.inr rfl, Or.inr rfl, trivial⟩ hr
  · rw [if_neg hc] at hB
    refine s_Fin.bt (c := (17 : Int32) ≤ x2) (tg := 99) (p2 := 78) (L1 := [some (.ref 130), some (.int x1), some (.int x2)]) (st1 := []) (Int32.not_lt.mp hc) rfl ?_
    obtain ⟨_, hN, hz⟩ := s_in_of hB
    subst hz
    have hB := hN
    refine s_Fin.sg 1 (y := (100, [some (.ref 130), some (.int x1), some (.int x2)], [.ref 130], s_hg g)) rfl ?_
    obtain ⟨g10, hp, hB⟩ := s_bd hB
    refine s_Fin.cl (d := 5) (q1 := s_m162) (md := 162) (vs := [.ref 130]) (rest := []) (h1 := s_hg g10) (u := none) (s_Ev.up (by omega) (fM_startSo_130_s hp)) rfl rfl rfl rfl ?_
    refine s_Fin.sg 4 (y := (109, [some (.ref 130), some (.int x1), some (.int x2)], [.int x1], s_hg (s_si g10 130 25 (0 : Int32)))) rfl ?_
    have hB := Option.some.inj hB
    subst hB
    obtain ⟨rfl, rfl⟩ := hr
    exact s_Fin.rt rfl rfl
noncomputable def fM_camp_130_49 (x1 : Int32) (x2 : Int32) (g : s_G) : Option ((Int32 × s_G) ⊕ (Int32 × s_G)) :=
  if x2 < (47 : Int32) then (s_b1 (s_ix 47 x2) fun k4 => s_b1 (s_ix 375 x2) fun k6 => some (.inl (x2 + (1 : Int32), (s_si g 132 k6 (g.1 133 k4)))))
  else s_in (s_lp (fun x => fM_camp_130_75 x1 x.1 x.2) ((0 : Int32), g))
theorem fM_camp_130_49_s {x1 : Int32} {x2 : Int32} {g : s_G} {z : (Int32 × s_G) ⊕ (Int32 × s_G)} (hB : fM_camp_130_49 x1 x2 g = some z) {v : Option Value} {h' : s_H} (hr : (s_sm (fun (x : Int32 × s_G) (v : Option Value) (h' : s_H) => s_Fin 6 s_m163 (49, [some (.ref 130), some (.int x1), some (.int x.1)], [], s_hg x.2) v h') (fun (z : Int32 × s_G) (v : Option Value) (h' : s_H) => v = some (.int z.1) ∧ h' = s_hg z.2)) z v h') : s_Fin 6 s_m163 (49, [some (.ref 130), some (.int x1), some (.int x2)], [], s_hg g) v h' := by
  unfold fM_camp_130_49 at hB
  refine s_Fin.sg 2 (y := (52, [some (.ref 130), some (.int x1), some (.int x2)], [.int (47 : Int32), .int x2], s_hg g)) rfl ?_
  by_cases hc : x2 < (47 : Int32)
  · rw [if_pos hc] at hB
    refine s_Fin.bf (c := (47 : Int32) ≤ x2) (tg := 73) (p2 := 52) (L1 := [some (.ref 130), some (.int x1), some (.int x2)]) (st1 := []) (Int32.not_le.mpr hc) rfl ?_
    refine s_Fin.sg 6 (y := (65, [some (.ref 130), some (.int x1), some (.int x2)], [.int x2, .ref 133, .int x2, .ref 132], s_hg g)) rfl ?_
    obtain ⟨k4, hk4, hB⟩ := s_bd hB
    refine s_Fin.ix (n := 47) (i := x2) (pc1 := 66) (L1 := [some (.ref 130), some (.int x1), some (.int x2)]) (fun j3 => [.int (g.1 133 j3), .int x2, .ref 132]) (fun j3 => s_hg g) hk4 rfl rfl ?_
    obtain ⟨k6, hk6, hB⟩ := s_bd hB
    refine s_Fin.ix (n := 375) (i := x2) (pc1 := 67) (L1 := [some (.ref 130), some (.int x1), some (.int x2)]) (fun j5 => []) (fun j5 => s_hg (s_si g 132 j5 (g.1 133 k4))) hk6 rfl rfl ?_
    refine s_Fin.sg 2 (y := (49, [some (.ref 130), some (.int x1), some (.int (x2 + (1 : Int32)))], [], s_hg (s_si g 132 k6 (g.1 133 k4)))) rfl ?_
    have hB := Option.some.inj hB
    subst hB
    exact s_Fin.more (L := [some (.ref 130), some (.int x1), some (.int (x2 + (1 : Int32)))]) ⟨Or.inr rfl, Or.inr rfl, Or.inr rfl, trivial⟩ hr
  · rw [if_neg hc] at hB
    refine s_Fin.bt (c := (47 : Int32) ≤ x2) (tg := 73) (p2 := 52) (L1 := [some (.ref 130), some (.int x1), some (.int x2)]) (st1 := []) (Int32.not_lt.mp hc) rfl ?_
    obtain ⟨_, hN, hz⟩ := s_in_of hB
    subst hz
    have hB := hN
    refine s_Fin.sg 2 (y := (75, [some (.ref 130), some (.int x1), some (.int (0 : Int32))], [], s_hg g)) rfl ?_
    exact s_Fin.more (L := [some (.ref 130), some (.int x1), some (.int (0 : Int32))]) ⟨Or.inr rfl, Or.inr rfl, Or.inr rfl, trivial⟩ (s_lp_s (P := (fun (x : Int32 × s_G) (v : Option Value) (h' : s_H) => s_Fin 6 s_m163 (75, [some (.ref 130), some (.int x1), some (.int x.1)], [], s_hg x.2) v h')) (Q := (fun (z : Int32 × s_G) (v : Option Value) (h' : s_H) => v = some (.int z.1) ∧ h' = s_hg z.2)) (fun x z hB v h' hr => fM_camp_130_75_s hB hr) hB _ _ hr)
noncomputable def fM_camp_130_13 (x1 : Int32) (g : s_G) : Option ((Int32 × s_G) ⊕ (Int32 × s_G)) :=
  if (g.1 130 7) = 0 then (s_in (s_lp (fun x => fM_camp_130_49 x1 x.1 x.2) ((0 : Int32), g)))
  else s_b2 (fM_readLine_130 g) fun v12 g11 => if v12 = 0 then (s_in (some ((-1 : Int32) - (g11.1 130 11), g11)))
  else s_b2 (fM_readEnd_130 g11) fun v14 g13 => if v14 = 0 then (s_in (some ((-1 : Int32) - (g13.1 130 11), g13)))
  else some (.inl (x1 + (1 : Int32), g13))
theorem fM_camp_130_13_s {x1 : Int32} {g : s_G} {z : (Int32 × s_G) ⊕ (Int32 × s_G)} (hB : fM_camp_130_13 x1 g = some z) {v : Option Value} {h' : s_H} (hr : (s_sm (fun (x : Int32 × s_G) (v : Option Value) (h' : s_H) => s_Fin 6 s_m163 (13, [some (.ref 130), some (.int x.1), none], [], s_hg x.2) v h') (fun (z : Int32 × s_G) (v : Option Value) (h' : s_H) => v = some (.int z.1) ∧ h' = s_hg z.2)) z v h') : s_Fin 6 s_m163 (13, [some (.ref 130), some (.int x1), none], [], s_hg g) v h' := by
  unfold fM_camp_130_13 at hB
  refine s_Fin.sg 2 (y := (17, [some (.ref 130), some (.int x1), none], [.int (g.1 130 7)], s_hg g)) rfl ?_
  by_cases hc : (g.1 130 7) = 0
  · rw [if_pos hc] at hB
    refine s_Fin.bt (c := (g.1 130 7) = 0) (tg := 47) (p2 := 17) (L1 := [some (.ref 130), some (.int x1), none]) (st1 := []) hc rfl ?_
    obtain ⟨_, hN, hz⟩ := s_in_of hB
    subst hz
    have hB := hN
    refine s_Fin.sg 2 (y := (49, [some (.ref 130), some (.int x1), some (.int (0 : Int32))], [], s_hg g)) rfl ?_
    exact s_Fin.more (L := [some (.ref 130), some (.int x1), some (.int (0 : Int32))]) ⟨Or.inr rfl, Or.inr rfl, Or.inr rfl, trivial⟩ (s_lp_s (P := (fun (x : Int32 × s_G) (v : Option Value) (h' : s_H) => s_Fin 6 s_m163 (49, [some (.ref 130), some (.int x1), some (.int x.1)], [], s_hg x.2) v h')) (Q := (fun (z : Int32 × s_G) (v : Option Value) (h' : s_H) => v = some (.int z.1) ∧ h' = s_hg z.2)) (fun x z hB v h' hr => fM_camp_130_49_s hB hr) hB _ _ hr)
  · rw [if_neg hc] at hB
    refine s_Fin.bf (c := (g.1 130 7) = 0) (tg := 47) (p2 := 17) (L1 := [some (.ref 130), some (.int x1), none]) (st1 := []) hc rfl ?_
    refine s_Fin.sg 1 (y := (21, [some (.ref 130), some (.int x1), none], [.ref 130], s_hg g)) rfl ?_
    obtain ⟨v12, g11, hp, hB⟩ := s_bd2 hB
    refine s_Fin.cl (d := 5) (q1 := s_m170) (md := 170) (vs := [.ref 130]) (rest := []) (h1 := s_hg g11) (u := some (.int v12)) (s_Ev.up (by omega) (fM_readLine_130_s hp)) rfl rfl rfl rfl ?_
    by_cases hc : v12 = 0
    · rw [if_pos hc] at hB
      refine s_Fin.bt (c := v12 = 0) (tg := 34) (p2 := 24) (L1 := [some (.ref 130), some (.int x1), none]) (st1 := []) hc rfl ?_
      obtain ⟨_, hN, hz⟩ := s_in_of hB
      subst hz
      have hB := hN
      refine s_Fin.sg 4 (y := (40, [some (.ref 130), some (.int x1), none], [.int ((-1 : Int32) - (g11.1 130 11))], s_hg g11)) rfl ?_
      have hB := Option.some.inj hB
      subst hB
      obtain ⟨rfl, rfl⟩ := hr
      exact s_Fin.rt rfl rfl
    · rw [if_neg hc] at hB
      refine s_Fin.bf (c := v12 = 0) (tg := 34) (p2 := 24) (L1 := [some (.ref 130), some (.int x1), none]) (st1 := []) hc rfl ?_
      refine s_Fin.sg 1 (y := (28, [some (.ref 130), some (.int x1), none], [.ref 130], s_hg g11)) rfl ?_
      obtain ⟨v14, g13, hp, hB⟩ := s_bd2 hB
      refine s_Fin.cl (d := 5) (q1 := s_m188) (md := 188) (vs := [.ref 130]) (rest := []) (h1 := s_hg g13) (u := some (.int v14)) (s_Ev.up (by omega) (fM_readEnd_130_s hp)) rfl rfl rfl rfl ?_
      by_cases hc : v14 = 0
      · rw [if_pos hc] at hB
        refine s_Fin.bf (c := ¬ v14 = 0) (tg := 41) (p2 := 31) (L1 := [some (.ref 130), some (.int x1), none]) (st1 := []) (fun h => h hc) rfl ?_
        obtain ⟨_, hN, hz⟩ := s_in_of hB
        subst hz
        have hB := hN
        refine s_Fin.sg 4 (y := (40, [some (.ref 130), some (.int x1), none], [.int ((-1 : Int32) - (g13.1 130 11))], s_hg g13)) rfl ?_
        have hB := Option.some.inj hB
        subst hB
        obtain ⟨rfl, rfl⟩ := hr
        exact s_Fin.rt rfl rfl
      · rw [if_neg hc] at hB
        refine s_Fin.bt (c := ¬ v14 = 0) (tg := 41) (p2 := 31) (L1 := [some (.ref 130), some (.int x1), none]) (st1 := []) hc rfl ?_
        refine s_Fin.sg 2 (y := (13, [some (.ref 130), some (.int (x1 + (1 : Int32))), none], [], s_hg g13)) rfl ?_
        have hB := Option.some.inj hB
        subst hB
        exact s_Fin.more (L := [some (.ref 130), some (.int (x1 + (1 : Int32))), none]) ⟨Or.inr rfl, Or.inr rfl, Or.inl rfl, trivial⟩ hr
noncomputable def fM_camp_130 (g : s_G) : Option (Int32 × s_G) :=
  s_b1 (fM_begin_130 (900 : Int32) g) fun g1 => s_b1 (fM_startRead_130 g1) fun g2 => s_lp (fun x => fM_camp_130_13 x.1 x.2) ((0 : Int32), g2)
theorem fM_camp_130_s {g : s_G} {z : Int32 × s_G} (hB : fM_camp_130 g = some z) : s_Ev 6 s_m163 [.ref 130] (s_hg g) (some (.int z.1)) (s_hg z.2) := by
  unfold fM_camp_130 at hB
  refine s_Ev.fin ((?_ : ∀ (v : Option Value) (h' : s_H), (fun (z : Int32 × s_G) (v : Option Value) (h' : s_H) => v = some (.int z.1) ∧ h' = s_hg z.2) z v h' → s_Fin 6 s_m163 (0, s_ent [.ref 130] (s_m163).2.2.1, [], s_hg g) v h') _ _ ⟨rfl, rfl⟩)
  intro v h' hr
  refine (show s_Fin 6 s_m163 (0, [some (.ref 130), none, none], [], s_hg g) v h' from ?_)
  refine s_Fin.sg 2 (y := (4, [some (.ref 130), none, none], [.int (900 : Int32), .ref 130], s_hg g)) rfl ?_
  obtain ⟨g1, hp, hB⟩ := s_bd hB
  refine s_Fin.cl (d := 5) (q1 := s_m164) (md := 164) (vs := [.ref 130, .int (900 : Int32)]) (rest := []) (h1 := s_hg g1) (u := none) (s_Ev.up (by omega) (fM_begin_130_s hp)) rfl rfl rfl rfl ?_
  refine s_Fin.sg 1 (y := (8, [some (.ref 130), none, none], [.ref 130], s_hg g1)) rfl ?_
  obtain ⟨g2, hp, hB⟩ := s_bd hB
  refine s_Fin.cl (d := 5) (q1 := s_m161) (md := 161) (vs := [.ref 130]) (rest := []) (h1 := s_hg g2) (u := none) (s_Ev.up (by omega) (fM_startRead_130_s hp)) rfl rfl rfl rfl ?_
  refine s_Fin.sg 2 (y := (13, [some (.ref 130), some (.int (0 : Int32)), none], [], s_hg g2)) rfl ?_
  exact s_Fin.more (L := [some (.ref 130), some (.int (0 : Int32)), none]) ⟨Or.inr rfl, Or.inr rfl, Or.inl rfl, trivial⟩ (s_lp_s (P := (fun (x : Int32 × s_G) (v : Option Value) (h' : s_H) => s_Fin 6 s_m163 (13, [some (.ref 130), some (.int x.1), none], [], s_hg x.2) v h')) (Q := (fun (z : Int32 × s_G) (v : Option Value) (h' : s_H) => v = some (.int z.1) ∧ h' = s_hg z.2)) (fun x z hB v h' hr => fM_camp_130_13_s hB hr) hB _ _ hr)
-- CampAshes$Tape.readRun
noncomputable def fQ_readRun_1_58 (x1 : Int32) (x2 : Int32) (g : s_G) : Option ((Int32 × s_G) ⊕ (Int32 × s_G)) :=
  if x2 < (48 : Int32) then (s_in (some (x1, g)))
  else if (57 : Int32) < x2 then (s_in (some (x1, g)))
  else some (.inl (x1 + (1 : Int32), (s_si (s_si g 1 7 (((g.1 1 7) * (10 : Int32)) + (x2 - (48 : Int32)))) 1 4 ((g.1 1 4) + (1 : Int32)))))
theorem fQ_readRun_1_58_s {x1 : Int32} {x2 : Int32} {g : s_G} {z : (Int32 × s_G) ⊕ (Int32 × s_G)} (hB : fQ_readRun_1_58 x1 x2 g = some z) {v : Option Value} {h' : s_H} (hr : (s_sm (fun (x : Int32 × s_G) (v : Option Value) (h' : s_H) => s_Fin 0 s_m22 (2, [some (.ref 1), some (.int x.1), none], [], s_hg x.2) v h') (fun (z : Int32 × s_G) (v : Option Value) (h' : s_H) => v = some (.int z.1) ∧ h' = s_hg z.2)) z v h') : s_Fin 0 s_m22 (58, [some (.ref 1), some (.int x1), some (.int x2)], [], s_hg g) v h' := by
  unfold fQ_readRun_1_58 at hB
  refine s_Fin.sg 2 (y := (61, [some (.ref 1), some (.int x1), some (.int x2)], [.int (48 : Int32), .int x2], s_hg g)) rfl ?_
  by_cases hc : x2 < (48 : Int32)
  · rw [if_pos hc] at hB
    refine s_Fin.bt (c := x2 < (48 : Int32)) (tg := 102) (p2 := 61) (L1 := [some (.ref 1), some (.int x1), some (.int x2)]) (st1 := []) hc rfl ?_
    obtain ⟨_, hN, hz⟩ := s_in_of hB
    subst hz
    have hB := hN
    refine s_Fin.sg 1 (y := (103, [some (.ref 1), some (.int x1), some (.int x2)], [.int x1], s_hg g)) rfl ?_
    have hB := Option.some.inj hB
    subst hB
    obtain ⟨rfl, rfl⟩ := hr
    exact s_Fin.rt rfl rfl
  · rw [if_neg hc] at hB
    refine s_Fin.bf (c := x2 < (48 : Int32)) (tg := 102) (p2 := 61) (L1 := [some (.ref 1), some (.int x1), some (.int x2)]) (st1 := []) hc rfl ?_
    refine s_Fin.sg 2 (y := (67, [some (.ref 1), some (.int x1), some (.int x2)], [.int (57 : Int32), .int x2], s_hg g)) rfl ?_
    by_cases hc : (57 : Int32) < x2
    · rw [if_pos hc] at hB
      refine s_Fin.bt (c := (57 : Int32) < x2) (tg := 102) (p2 := 67) (L1 := [some (.ref 1), some (.int x1), some (.int x2)]) (st1 := []) hc rfl ?_
      obtain ⟨_, hN, hz⟩ := s_in_of hB
      subst hz
      have hB := hN
      refine s_Fin.sg 1 (y := (103, [some (.ref 1), some (.int x1), some (.int x2)], [.int x1], s_hg g)) rfl ?_
      have hB := Option.some.inj hB
      subst hB
      obtain ⟨rfl, rfl⟩ := hr
      exact s_Fin.rt rfl rfl
    · rw [if_neg hc] at hB
      refine s_Fin.bf (c := (57 : Int32) < x2) (tg := 102) (p2 := 67) (L1 := [some (.ref 1), some (.int x1), some (.int x2)]) (st1 := []) hc rfl ?_
      refine s_Fin.sg 18 (y := (2, [some (.ref 1), some (.int (x1 + (1 : Int32))), some (.int x2)], [], s_hg (s_si (s_si g 1 7 (((g.1 1 7) * (10 : Int32)) + (x2 - (48 : Int32)))) 1 4 ((g.1 1 4) + (1 : Int32))))) rfl ?_
      have hB := Option.some.inj hB
      subst hB
      exact s_Fin.more (L := [some (.ref 1), some (.int (x1 + (1 : Int32))), none]) ⟨Or.inr rfl, Or.inr rfl, Or.inl rfl, trivial⟩ hr
noncomputable def fQ_readRun_1_2 (x1 : Int32) (g : s_G) : Option ((Int32 × s_G) ⊕ (Int32 × s_G)) :=
  if (g.1 1 4) < (g.1 1 2) then (s_b1 (s_ix 940 (g.1 1 4)) fun k2 => if (g.1 2 k2) < (97 : Int32) then (fQ_readRun_1_58 x1 (g.1 2 k2) g)
  else if (122 : Int32) < (g.1 2 k2) then (fQ_readRun_1_58 x1 (g.1 2 k2) g)
  else some (.inl (x1, (s_si (s_sl g 1 8 (((g.2.1 1 8) * (32 : Int64)) + ((((g.1 2 k2) - (97 : Int32)) + (1 : Int32)).toInt64))) 1 4 ((g.1 1 4) + (1 : Int32))))))
  else s_in (some (x1, g))
theorem fQ_readRun_1_2_s {x1 : Int32} {g : s_G} {z : (Int32 × s_G) ⊕ (Int32 × s_G)} (hB : fQ_readRun_1_2 x1 g = some z) {v : Option Value} {h' : s_H} (hr : (s_sm (fun (x : Int32 × s_G) (v : Option Value) (h' : s_H) => s_Fin 0 s_m22 (2, [some (.ref 1), some (.int x.1), none], [], s_hg x.2) v h') (fun (z : Int32 × s_G) (v : Option Value) (h' : s_H) => v = some (.int z.1) ∧ h' = s_hg z.2)) z v h') : s_Fin 0 s_m22 (2, [some (.ref 1), some (.int x1), none], [], s_hg g) v h' := by
  unfold fQ_readRun_1_2 at hB
  refine s_Fin.sg 4 (y := (10, [some (.ref 1), some (.int x1), none], [.int (g.1 1 2), .int (g.1 1 4)], s_hg g)) rfl ?_
  by_cases hc : (g.1 1 4) < (g.1 1 2)
  · rw [if_pos hc] at hB
    refine s_Fin.bf (c := (g.1 1 2) ≤ (g.1 1 4)) (tg := 102) (p2 := 10) (L1 := [some (.ref 1), some (.int x1), none]) (st1 := []) (Int32.not_le.mpr hc) rfl ?_
    refine s_Fin.sg 4 (y := (21, [some (.ref 1), some (.int x1), none], [.int (g.1 1 4), .ref 2], s_hg g)) rfl ?_
    obtain ⟨k2, hk2, hB⟩ := s_bd hB
    refine s_Fin.ix (n := 940) (i := g.1 1 4) (pc1 := 22) (L1 := [some (.ref 1), some (.int x1), none]) (fun j1 => [.int (g.1 2 j1)]) (fun j1 => s_hg g) hk2 rfl rfl ?_
    refine s_Fin.sg 3 (y := (26, [some (.ref 1), some (.int x1), some (.int (g.1 2 k2))], [.int (97 : Int32), .int (g.1 2 k2)], s_hg g)) rfl ?_
    by_cases hc : (g.1 2 k2) < (97 : Int32)
    · rw [if_pos hc] at hB
      refine s_Fin.bt (c := (g.1 2 k2) < (97 : Int32)) (tg := 58) (p2 := 26) (L1 := [some (.ref 1), some (.int x1), some (.int (g.1 2 k2))]) (st1 := []) hc rfl ?_
      exact s_Fin.more (L := [some (.ref 1), some (.int x1), some (.int (g.1 2 k2))]) ⟨Or.inr rfl, Or.inr rfl, Or.inr rfl, trivial⟩ (fQ_readRun_1_58_s hB hr)
    · rw [if_neg hc] at hB
      refine s_Fin.bf (c := (g.1 2 k2) < (97 : Int32)) (tg := 58) (p2 := 26) (L1 := [some (.ref 1), some (.int x1), some (.int (g.1 2 k2))]) (st1 := []) hc rfl ?_
      refine s_Fin.sg 2 (y := (32, [some (.ref 1), some (.int x1), some (.int (g.1 2 k2))], [.int (122 : Int32), .int (g.1 2 k2)], s_hg g)) rfl ?_
      by_cases hc : (122 : Int32) < (g.1 2 k2)
      · rw [if_pos hc] at hB
        refine s_Fin.bt (c := (122 : Int32) < (g.1 2 k2)) (tg := 58) (p2 := 32) (L1 := [some (.ref 1), some (.int x1), some (.int (g.1 2 k2))]) (st1 := []) hc rfl ?_
        exact s_Fin.more (L := [some (.ref 1), some (.int x1), some (.int (g.1 2 k2))]) ⟨Or.inr rfl, Or.inr rfl, Or.inr rfl, trivial⟩ (fQ_readRun_1_58_s hB hr)
      · rw [if_neg hc] at hB
        refine s_Fin.bf (c := (122 : Int32) < (g.1 2 k2)) (tg := 58) (p2 := 32) (L1 := [some (.ref 1), some (.int x1), some (.int (g.1 2 k2))]) (st1 := []) hc rfl ?_
        refine s_Fin.sg 21 (y := (2, [some (.ref 1), some (.int x1), some (.int (g.1 2 k2))], [], s_hg (s_si (s_sl g 1 8 (((g.2.1 1 8) * (32 : Int64)) + ((((g.1 2 k2) - (97 : Int32)) + (1 : Int32)).toInt64))) 1 4 ((g.1 1 4) + (1 : Int32))))) rfl ?_
        have hB := Option.some.inj hB
        subst hB
        exact s_Fin.more (L := [some (.ref 1), some (.int x1), none]) ⟨Or.inr rfl, Or.inr rfl, Or.inl rfl, trivial⟩ hr
  · rw [if_neg hc] at hB
    refine s_Fin.bt (c := (g.1 1 2) ≤ (g.1 1 4)) (tg := 102) (p2 := 10) (L1 := [some (.ref 1), some (.int x1), none]) (st1 := []) (Int32.not_lt.mp hc) rfl ?_
    obtain ⟨_, hN, hz⟩ := s_in_of hB
    subst hz
    have hB := hN
    refine s_Fin.sg 1 (y := (103, [some (.ref 1), some (.int x1), none], [.int x1], s_hg g)) rfl ?_
    have hB := Option.some.inj hB
    subst hB
    obtain ⟨rfl, rfl⟩ := hr
    exact s_Fin.rt rfl rfl
noncomputable def fQ_readRun_1 (g : s_G) : Option (Int32 × s_G) :=
  s_lp (fun x => fQ_readRun_1_2 x.1 x.2) ((0 : Int32), g)
theorem fQ_readRun_1_s {g : s_G} {z : Int32 × s_G} (hB : fQ_readRun_1 g = some z) : s_Ev 0 s_m22 [.ref 1] (s_hg g) (some (.int z.1)) (s_hg z.2) := by
  unfold fQ_readRun_1 at hB
  refine s_Ev.fin ((?_ : ∀ (v : Option Value) (h' : s_H), (fun (z : Int32 × s_G) (v : Option Value) (h' : s_H) => v = some (.int z.1) ∧ h' = s_hg z.2) z v h' → s_Fin 0 s_m22 (0, s_ent [.ref 1] (s_m22).2.2.1, [], s_hg g) v h') _ _ ⟨rfl, rfl⟩)
  intro v h' hr
  refine (show s_Fin 0 s_m22 (0, [some (.ref 1), none, none], [], s_hg g) v h' from ?_)
  refine s_Fin.sg 2 (y := (2, [some (.ref 1), some (.int (0 : Int32)), none], [], s_hg g)) rfl ?_
  exact s_Fin.more (L := [some (.ref 1), some (.int (0 : Int32)), none]) ⟨Or.inr rfl, Or.inr rfl, Or.inl rfl, trivial⟩ (s_lp_s (P := (fun (x : Int32 × s_G) (v : Option Value) (h' : s_H) => s_Fin 0 s_m22 (2, [some (.ref 1), some (.int x.1), none], [], s_hg x.2) v h')) (Q := (fun (z : Int32 × s_G) (v : Option Value) (h' : s_H) => v = some (.int z.1) ∧ h' = s_hg z.2)) (fun x z hB v h' hr => fQ_readRun_1_2_s hB hr) hB _ _ hr)
-- CampAshes$Tape.readSign
noncomputable def fQ_readSign_1_83 (t0 : Int32) (g : s_G) : Option (s_G) :=
  some (s_si (s_si g 1 5 t0) 1 4 ((g.1 1 4) + (1 : Int32)))
theorem fQ_readSign_1_83_s {t0 : Int32} {g : s_G} {z : s_G} (hB : fQ_readSign_1_83 t0 g = some z) {v : Option Value} {h' : s_H} (hr : (fun (z : s_G) (v : Option Value) (h' : s_H) => v = none ∧ h' = s_hg z) z v h') : s_Fin 0 s_m23 (83, [some (.ref 1), none], [.int t0, .ref 1], s_hg g) v h' := by
  unfold fQ_readSign_1_83 at hB
  refine s_Fin.sg 7 (y := (96, [some (.ref 1), none], [], s_hg (s_si (s_si g 1 5 t0) 1 4 ((g.1 1 4) + (1 : Int32))))) rfl ?_
  have hB := Option.some.inj hB
  subst hB
  obtain ⟨rfl, rfl⟩ := hr
  exact s_Fin.rt rfl rfl
noncomputable def fQ_readSign_1_72 (t0 : Int32) (g : s_G) : Option (s_G) :=
  if t0 = 0 then (fQ_readSign_1_83 (1 : Int32) g)
  else fQ_readSign_1_83 (5 : Int32) g
theorem fQ_readSign_1_72_s {t0 : Int32} {g : s_G} {z : s_G} (hB : fQ_readSign_1_72 t0 g = some z) {v : Option Value} {h' : s_H} (hr : (fun (z : s_G) (v : Option Value) (h' : s_H) => v = none ∧ h' = s_hg z) z v h') : s_Fin 0 s_m23 (72, [some (.ref 1), none], [.int t0], s_hg g) v h' := by
  unfold fQ_readSign_1_72 at hB
  refine s_Fin.sg 3 (y := (75, [some (.ref 1), some (.int t0)], [.int t0, .ref 1], s_hg g)) rfl ?_
  by_cases hc : t0 = 0
  · rw [if_pos hc] at hB
    refine s_Fin.bt (c := t0 = 0) (tg := 82) (p2 := 75) (L1 := [some (.ref 1), some (.int t0)]) (st1 := [.ref 1]) hc rfl ?_
    refine s_Fin.sg 1 (y := (83, [some (.ref 1), some (.int t0)], [.int (1 : Int32), .ref 1], s_hg g)) rfl ?_
    exact s_Fin.more (L := [some (.ref 1), none]) ⟨Or.inr rfl, Or.inl rfl, trivial⟩ (fQ_readSign_1_83_s hB hr)
  · rw [if_neg hc] at hB
    refine s_Fin.bf (c := t0 = 0) (tg := 82) (p2 := 75) (L1 := [some (.ref 1), some (.int t0)]) (st1 := [.ref 1]) hc rfl ?_
    refine s_Fin.sg 2 (y := (83, [some (.ref 1), some (.int t0)], [.int (5 : Int32), .ref 1], s_hg g)) rfl ?_
    exact s_Fin.more (L := [some (.ref 1), none]) ⟨Or.inr rfl, Or.inl rfl, trivial⟩ (fQ_readSign_1_83_s hB hr)
noncomputable def fQ_readSign_1_67 (g : s_G) : Option (s_G) :=
  fQ_readSign_1_72 (1 : Int32) g
theorem fQ_readSign_1_67_s {g : s_G} {z : s_G} (hB : fQ_readSign_1_67 g = some z) {v : Option Value} {h' : s_H} (hr : (fun (z : s_G) (v : Option Value) (h' : s_H) => v = none ∧ h' = s_hg z) z v h') : s_Fin 0 s_m23 (67, [some (.ref 1), none], [], s_hg g) v h' := by
  unfold fQ_readSign_1_67 at hB
  refine s_Fin.sg 2 (y := (72, [some (.ref 1), none], [.int (1 : Int32)], s_hg g)) rfl ?_
  exact s_Fin.more (L := [some (.ref 1), none]) ⟨Or.inr rfl, Or.inl rfl, trivial⟩ (fQ_readSign_1_72_s hB hr)
noncomputable def fQ_readSign_1 (g : s_G) : Option (s_G) :=
  s_b1 (s_ix 940 (g.1 1 4)) fun k2 => if (g.1 2 k2) = (59 : Int32) then (fQ_readSign_1_67 (s_si g 1 7 (g.1 2 k2)))
  else if (g.1 2 k2) = (60 : Int32) then (fQ_readSign_1_67 (s_si g 1 7 (g.1 2 k2)))
  else if (g.1 2 k2) = (61 : Int32) then (fQ_readSign_1_67 (s_si g 1 7 (g.1 2 k2)))
  else if (g.1 2 k2) = (62 : Int32) then (fQ_readSign_1_67 (s_si g 1 7 (g.1 2 k2)))
  else if (g.1 2 k2) = (40 : Int32) then (fQ_readSign_1_67 (s_si g 1 7 (g.1 2 k2)))
  else if (g.1 2 k2) = (41 : Int32) then (fQ_readSign_1_67 (s_si g 1 7 (g.1 2 k2)))
  else fQ_readSign_1_72 (0 : Int32) (s_si g 1 7 (g.1 2 k2))
theorem fQ_readSign_1_s {g : s_G} {z : s_G} (hB : fQ_readSign_1 g = some z) : s_Ev 0 s_m23 [.ref 1] (s_hg g) (none) (s_hg z) := by
  unfold fQ_readSign_1 at hB
  refine s_Ev.fin ((?_ : ∀ (v : Option Value) (h' : s_H), (fun (z : s_G) (v : Option Value) (h' : s_H) => v = none ∧ h' = s_hg z) z v h' → s_Fin 0 s_m23 (0, s_ent [.ref 1] (s_m23).2.2.1, [], s_hg g) v h') _ _ ⟨rfl, rfl⟩)
  intro v h' hr
  refine (show s_Fin 0 s_m23 (0, [some (.ref 1), none], [], s_hg g) v h' from ?_)
  refine s_Fin.sg 5 (y := (9, [some (.ref 1), none], [.int (g.1 1 4), .ref 2, .ref 1], s_hg g)) rfl ?_
  obtain ⟨k2, hk2, hB⟩ := s_bd hB
  refine s_Fin.ix (n := 940) (i := g.1 1 4) (pc1 := 10) (L1 := [some (.ref 1), none]) (fun j1 => [.int (g.1 2 j1), .ref 1]) (fun j1 => s_hg g) hk2 rfl rfl ?_
  refine s_Fin.sg 4 (y := (19, [some (.ref 1), none], [.int (59 : Int32), .int (g.1 2 k2)], s_hg (s_si g 1 7 (g.1 2 k2)))) rfl ?_
  by_cases hc : (g.1 2 k2) = (59 : Int32)
  · rw [if_pos hc] at hB
    refine s_Fin.bt (c := (g.1 2 k2) = (59 : Int32)) (tg := 67) (p2 := 19) (L1 := [some (.ref 1), none]) (st1 := []) hc rfl ?_
    exact s_Fin.more (L := [some (.ref 1), none]) ⟨Or.inr rfl, Or.inl rfl, trivial⟩ (fQ_readSign_1_67_s hB hr)
  · rw [if_neg hc] at hB
    refine s_Fin.bf (c := (g.1 2 k2) = (59 : Int32)) (tg := 67) (p2 := 19) (L1 := [some (.ref 1), none]) (st1 := []) hc rfl ?_
    refine s_Fin.sg 3 (y := (28, [some (.ref 1), none], [.int (60 : Int32), .int (g.1 2 k2)], s_hg (s_si g 1 7 (g.1 2 k2)))) rfl ?_
    by_cases hc : (g.1 2 k2) = (60 : Int32)
    · rw [if_pos hc] at hB
      refine s_Fin.bt (c := (g.1 2 k2) = (60 : Int32)) (tg := 67) (p2 := 28) (L1 := [some (.ref 1), none]) (st1 := []) hc rfl ?_
      exact s_Fin.more (L := [some (.ref 1), none]) ⟨Or.inr rfl, Or.inl rfl, trivial⟩ (fQ_readSign_1_67_s hB hr)
    · rw [if_neg hc] at hB
      refine s_Fin.bf (c := (g.1 2 k2) = (60 : Int32)) (tg := 67) (p2 := 28) (L1 := [some (.ref 1), none]) (st1 := []) hc rfl ?_
      refine s_Fin.sg 3 (y := (37, [some (.ref 1), none], [.int (61 : Int32), .int (g.1 2 k2)], s_hg (s_si g 1 7 (g.1 2 k2)))) rfl ?_
      by_cases hc : (g.1 2 k2) = (61 : Int32)
      · rw [if_pos hc] at hB
        refine s_Fin.bt (c := (g.1 2 k2) = (61 : Int32)) (tg := 67) (p2 := 37) (L1 := [some (.ref 1), none]) (st1 := []) hc rfl ?_
        exact s_Fin.more (L := [some (.ref 1), none]) ⟨Or.inr rfl, Or.inl rfl, trivial⟩ (fQ_readSign_1_67_s hB hr)
      · rw [if_neg hc] at hB
        refine s_Fin.bf (c := (g.1 2 k2) = (61 : Int32)) (tg := 67) (p2 := 37) (L1 := [some (.ref 1), none]) (st1 := []) hc rfl ?_
        refine s_Fin.sg 3 (y := (46, [some (.ref 1), none], [.int (62 : Int32), .int (g.1 2 k2)], s_hg (s_si g 1 7 (g.1 2 k2)))) rfl ?_
        by_cases hc : (g.1 2 k2) = (62 : Int32)
        · rw [if_pos hc] at hB
          refine s_Fin.bt (c := (g.1 2 k2) = (62 : Int32)) (tg := 67) (p2 := 46) (L1 := [some (.ref 1), none]) (st1 := []) hc rfl ?_
          exact s_Fin.more (L := [some (.ref 1), none]) ⟨Or.inr rfl, Or.inl rfl, trivial⟩ (fQ_readSign_1_67_s hB hr)
        · rw [if_neg hc] at hB
          refine s_Fin.bf (c := (g.1 2 k2) = (62 : Int32)) (tg := 67) (p2 := 46) (L1 := [some (.ref 1), none]) (st1 := []) hc rfl ?_
          refine s_Fin.sg 3 (y := (55, [some (.ref 1), none], [.int (40 : Int32), .int (g.1 2 k2)], s_hg (s_si g 1 7 (g.1 2 k2)))) rfl ?_
          by_cases hc : (g.1 2 k2) = (40 : Int32)
          · rw [if_pos hc] at hB
            refine s_Fin.bt (c := (g.1 2 k2) = (40 : Int32)) (tg := 67) (p2 := 55) (L1 := [some (.ref 1), none]) (st1 := []) hc rfl ?_
            exact s_Fin.more (L := [some (.ref 1), none]) ⟨Or.inr rfl, Or.inl rfl, trivial⟩ (fQ_readSign_1_67_s hB hr)
          · rw [if_neg hc] at hB
            refine s_Fin.bf (c := (g.1 2 k2) = (40 : Int32)) (tg := 67) (p2 := 55) (L1 := [some (.ref 1), none]) (st1 := []) hc rfl ?_
            refine s_Fin.sg 3 (y := (64, [some (.ref 1), none], [.int (41 : Int32), .int (g.1 2 k2)], s_hg (s_si g 1 7 (g.1 2 k2)))) rfl ?_
            by_cases hc : (g.1 2 k2) = (41 : Int32)
            · rw [if_pos hc] at hB
              refine s_Fin.bf (c := ¬ (g.1 2 k2) = (41 : Int32)) (tg := 71) (p2 := 64) (L1 := [some (.ref 1), none]) (st1 := []) (fun h => h hc) rfl ?_
              exact s_Fin.more (L := [some (.ref 1), none]) ⟨Or.inr rfl, Or.inl rfl, trivial⟩ (fQ_readSign_1_67_s hB hr)
            · rw [if_neg hc] at hB
              refine s_Fin.bt (c := ¬ (g.1 2 k2) = (41 : Int32)) (tg := 71) (p2 := 64) (L1 := [some (.ref 1), none]) (st1 := []) hc rfl ?_
              refine s_Fin.sg 1 (y := (72, [some (.ref 1), none], [.int (0 : Int32)], s_hg (s_si g 1 7 (g.1 2 k2)))) rfl ?_
              exact s_Fin.more (L := [some (.ref 1), none]) ⟨Or.inr rfl, Or.inl rfl, trivial⟩ (fQ_readSign_1_72_s hB hr)
-- CampAshes$Word.spelt
noncomputable def fW_spelt_s_10 (x0 : Int64) (x3 : Int32) (x4 : Int32) (g : s_G) : Option ((Int32) ⊕ (Option Nat)) :=
  if x4 < x3 then (s_b1 (s_ix 29 x4) fun k2 => s_b1 (s_wlt (1000 + k2)) fun v3 => if (lg_cmp v3 x0) = 0 then (s_in (some (some (1000 + k2))))
  else some (.inl (x4 + (1 : Int32))))
  else s_in (some none)
theorem fW_spelt_s_10_s {x0 : Int64} {x3 : Int32} {x4 : Int32} {g : s_G} {z : (Int32) ⊕ (Option Nat)} (hB : fW_spelt_s_10 x0 x3 x4 g = some z) {v : Option Value} {h' : s_H} (hr : (s_sm (fun (x : Int32) (v : Option Value) (h' : s_H) => s_Fin 0 s_m24 (10, [some (.long x0), none, some (.ref 1100), some (.int x3), some (.int x), none], [], s_hg g) v h') (fun (z : Option Nat) (v : Option Value) (h' : s_H) => v = some (va_rf z) ∧ h' = s_hg g)) z v h') : s_Fin 0 s_m24 (10, [some (.long x0), none, some (.ref 1100), some (.int x3), some (.int x4), none], [], s_hg g) v h' := by
  unfold fW_spelt_s_10 at hB
  refine s_Fin.sg 2 (y := (13, [some (.long x0), none, some (.ref 1100), some (.int x3), some (.int x4), none], [.int x3, .int x4], s_hg g)) rfl ?_
  by_cases hc : x4 < x3
  · rw [if_pos hc] at hB
    refine s_Fin.bf (c := x3 ≤ x4) (tg := 41) (p2 := 13) (L1 := [some (.long x0), none, some (.ref 1100), some (.int x3), some (.int x4), none]) (st1 := []) (Int32.not_le.mpr hc) rfl ?_
    refine s_Fin.sg 2 (y := (19, [some (.long x0), none, some (.ref 1100), some (.int x3), some (.int x4), none], [.int x4, .ref 1100], s_hg g)) rfl ?_
    obtain ⟨k2, hk2, hB⟩ := s_bd hB
    refine s_Fin.ix (n := 29) (i := x4) (pc1 := 20) (L1 := [some (.long x0), none, some (.ref 1100), some (.int x3), some (.int x4), none]) (fun j1 => [.ref (1000 + j1)]) (fun j1 => s_hg g) hk2 rfl rfl ?_
    refine s_Fin.sg 2 (y := (24, [some (.long x0), none, some (.ref 1100), some (.int x3), some (.int x4), some (.ref (1000 + k2))], [.ref (1000 + k2)], s_hg g)) rfl ?_
    obtain ⟨v3, hu, hB⟩ := s_bd hB
    refine s_Fin.nx (pc1 := 27) (L1 := [some (.long x0), none, some (.ref 1100), some (.int x3), some (.int x4), some (.ref (1000 + k2))]) (st1 := [.long v3]) (h1 := s_hg g) ((show _ = s_gfw 0 27 [some (.long x0), none, some (.ref 1100), some (.int x3), some (.int x4), some (.ref (1000 + k2))] [] (s_hg g) (1000 + k2) from rfl).trans (s_wlt_of hu)) rfl ?_
    refine s_Fin.sg 2 (y := (29, [some (.long x0), none, some (.ref 1100), some (.int x3), some (.int x4), some (.ref (1000 + k2))], [.int (lg_cmp v3 x0)], s_hg g)) rfl ?_
    by_cases hc : (lg_cmp v3 x0) = 0
    · rw [if_pos hc] at hB
      refine s_Fin.bf (c := ¬ (lg_cmp v3 x0) = 0) (tg := 35) (p2 := 29) (L1 := [some (.long x0), none, some (.ref 1100), some (.int x3), some (.int x4), some (.ref (1000 + k2))]) (st1 := []) (fun h => h hc) rfl ?_
      obtain ⟨_, hN, hz⟩ := s_in_of hB
      subst hz
      have hB := hN
      refine s_Fin.sg 1 (y := (34, [some (.long x0), none, some (.ref 1100), some (.int x3), some (.int x4), some (.ref (1000 + k2))], [.ref (1000 + k2)], s_hg g)) rfl ?_
      have hB := Option.some.inj hB
      subst hB
      obtain ⟨rfl, rfl⟩ := hr
      exact s_Fin.rt rfl rfl
    · rw [if_neg hc] at hB
      refine s_Fin.bt (c := ¬ (lg_cmp v3 x0) = 0) (tg := 35) (p2 := 29) (L1 := [some (.long x0), none, some (.ref 1100), some (.int x3), some (.int x4), some (.ref (1000 + k2))]) (st1 := []) hc rfl ?_
      refine s_Fin.sg 2 (y := (10, [some (.long x0), none, some (.ref 1100), some (.int x3), some (.int (x4 + (1 : Int32))), some (.ref (1000 + k2))], [], s_hg g)) rfl ?_
      have hB := Option.some.inj hB
      subst hB
      exact s_Fin.more (L := [some (.long x0), none, some (.ref 1100), some (.int x3), some (.int (x4 + (1 : Int32))), none]) ⟨Or.inr rfl, Or.inl rfl, Or.inr rfl, Or.inr rfl, Or.inr rfl, Or.inl rfl, trivial⟩ hr
  · rw [if_neg hc] at hB
    refine s_Fin.bt (c := x3 ≤ x4) (tg := 41) (p2 := 13) (L1 := [some (.long x0), none, some (.ref 1100), some (.int x3), some (.int x4), none]) (st1 := []) (Int32.not_lt.mp hc) rfl ?_
    obtain ⟨_, hN, hz⟩ := s_in_of hB
    subst hz
    have hB := hN
    refine s_Fin.sg 1 (y := (42, [some (.long x0), none, some (.ref 1100), some (.int x3), some (.int x4), none], [.null], s_hg g)) rfl ?_
    have hB := Option.some.inj hB
    subst hB
    obtain ⟨rfl, rfl⟩ := hr
    exact s_Fin.rt rfl rfl
noncomputable def fW_spelt_s (x0 : Int64) (g : s_G) : Option (Option Nat) :=
  s_lp (fun x => fW_spelt_s_10 x0 (29 : Int32) x g) (0 : Int32)
theorem fW_spelt_s_s {x0 : Int64} {g : s_G} {z : Option Nat} (hB : fW_spelt_s x0 g = some z) : s_Ev 0 s_m24 [.long x0] (s_hg g) (some (va_rf z)) (s_hg g) := by
  unfold fW_spelt_s at hB
  refine s_Ev.fin ((?_ : ∀ (v : Option Value) (h' : s_H), (fun (z : Option Nat) (v : Option Value) (h' : s_H) => v = some (va_rf z) ∧ h' = s_hg g) z v h' → s_Fin 0 s_m24 (0, s_ent [.long x0] (s_m24).2.2.1, [], s_hg g) v h') _ _ ⟨rfl, rfl⟩)
  intro v h' hr
  refine (show s_Fin 0 s_m24 (0, [some (.long x0), none, none, none, none, none], [], s_hg g) v h' from ?_)
  refine s_Fin.sg 7 (y := (10, [some (.long x0), none, some (.ref 1100), some (.int (29 : Int32)), some (.int (0 : Int32)), none], [], s_hg g)) rfl ?_
  exact s_Fin.more (L := [some (.long x0), none, some (.ref 1100), some (.int (29 : Int32)), some (.int (0 : Int32)), none]) ⟨Or.inr rfl, Or.inl rfl, Or.inr rfl, Or.inr rfl, Or.inr rfl, Or.inl rfl, trivial⟩ (s_lp_s (P := (fun (x : Int32) (v : Option Value) (h' : s_H) => s_Fin 0 s_m24 (10, [some (.long x0), none, some (.ref 1100), some (.int (29 : Int32)), some (.int x), none], [], s_hg g) v h')) (Q := (fun (z : Option Nat) (v : Option Value) (h' : s_H) => v = some (va_rf z) ∧ h' = s_hg g)) (fun x z hB v h' hr => fW_spelt_s_10_s hB hr) hB _ _ hr)
