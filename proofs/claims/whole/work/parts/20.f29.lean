-- CampAshes$Sentence.readOne
noncomputable def fS_readOne_32_1_3_151 (K : Int32 → s_G → Option (Int32 × s_G)) (x4 : Option Nat) (g : s_G) : Option (Int32 × s_G) :=
  s_b1 (fP_eventNamed_3 (g.2.1 1 8) g) fun v15 => s_b2 (fQ_passNamed_1 v15 g) fun v17 g16 => s_b1 (fS_addStep_32 x4 (0 : Int32) v17 g16) fun g18 => if v17 = (-1 : Int32) then (some ((0 : Int32), g18))
  else some ((1 : Int32), g18)
theorem fS_readOne_32_1_3_151_s {K : Int32 → s_G → Option (Int32 × s_G)} {e : Nat} (he : 40 ≤ e) (hK : ∀ (x3 : Int32) (g : s_G) (z : Int32 × s_G), K x3 g = some z → s_Ev e s_m139 [.ref 32, .ref 1, .ref 3, .int x3] (s_hg g) (some (.int z.1)) (s_hg z.2)) {x4 : Option Nat} {g : s_G} {z : Int32 × s_G} (hB : fS_readOne_32_1_3_151 K x4 g = some z) {v : Option Value} {h' : s_H} (hr : (fun (z : Int32 × s_G) (v : Option Value) (h' : s_H) => v = some (.int z.1) ∧ h' = s_hg z.2) z v h') : s_Fin (e + 3) s_m139 (151, [some (.ref 32), some (.ref 1), some (.ref 3), none, some (va_rf x4), none], [], s_hg g) v h' := by
  unfold fS_readOne_32_1_3_151 at hB
  refine s_Fin.sg 4 (y := (157, [some (.ref 32), some (.ref 1), some (.ref 3), none, some (va_rf x4), none], [.long (g.2.1 1 8), .ref 3, .ref 1], s_hg g)) rfl ?_
  obtain ⟨v15, hp, hB⟩ := s_bd hB
  refine s_Fin.cl (d := e + 2) (q1 := s_m33) (md := 33) (vs := [.ref 3, .long (g.2.1 1 8)]) (rest := [.ref 1]) (h1 := s_hg g) (u := some (.int v15)) (s_Ev.up (by omega) (fP_eventNamed_3_s hp)) rfl rfl rfl rfl ?_
  obtain ⟨v17, g16, hp, hB⟩ := s_bd2 hB
  refine s_Fin.cl (d := e + 2) (q1 := s_m36) (md := 36) (vs := [.ref 1, .int v15]) (rest := []) (h1 := s_hg g16) (u := some (.int v17)) (s_Ev.up (by omega) (fQ_passNamed_1_s hp)) rfl rfl rfl rfl ?_
  refine s_Fin.nx (pc1 := 165) (L1 := [some (.ref 32), some (.ref 1), some (.ref 3), none, some (va_rf x4), some (.int v17)]) (st1 := []) (h1 := s_hg g16) (by generalize x4 = w; cases w <;> exact rfl) rfl ?_
  refine s_Fin.sg 1 (y := (166, [some (.ref 32), some (.ref 1), some (.ref 3), none, some (va_rf x4), some (.int v17)], [.ref 32], s_hg g16)) rfl ?_
  refine s_Fin.nx (pc1 := 168) (L1 := [some (.ref 32), some (.ref 1), some (.ref 3), none, some (va_rf x4), some (.int v17)]) (st1 := [va_rf x4, .ref 32]) (h1 := s_hg g16) (by generalize x4 = w; cases w <;> exact rfl) rfl ?_
  refine s_Fin.sg 2 (y := (171, [some (.ref 32), some (.ref 1), some (.ref 3), none, some (va_rf x4), some (.int v17)], [.int v17, .int (0 : Int32), va_rf x4, .ref 32], s_hg g16)) rfl ?_
  obtain ⟨g18, hp, hB⟩ := s_bd hB
  refine s_Fin.cl (d := e + 2) (q1 := s_m142) (md := 142) (vs := [.ref 32, va_rf x4, .int (0 : Int32), .int v17]) (rest := []) (h1 := s_hg g18) (u := none) (s_Ev.up (by omega) (fS_addStep_32_s hp)) rfl rfl rfl (by generalize x4 = w1; cases w1 <;> rfl) ?_
  refine s_Fin.sg 2 (y := (177, [some (.ref 32), some (.ref 1), some (.ref 3), none, some (va_rf x4), some (.int v17)], [.int (-1 : Int32), .int v17], s_hg g18)) rfl ?_
  by_cases hc : v17 = (-1 : Int32)
  · rw [if_pos hc] at hB
    refine s_Fin.bt (c := v17 = (-1 : Int32)) (tg := 184) (p2 := 177) (L1 := [some (.ref 32), some (.ref 1), some (.ref 3), none, some (va_rf x4), some (.int v17)]) (st1 := []) hc rfl ?_
    refine s_Fin.sg 1 (y := (185, [some (.ref 32), some (.ref 1), some (.ref 3), none, some (va_rf x4), some (.int v17)], [.int (0 : Int32)], s_hg g18)) rfl ?_
    have hB := Option.some.inj hB
    subst hB
    obtain ⟨rfl, rfl⟩ := hr
    exact s_Fin.rt rfl rfl
  · rw [if_neg hc] at hB
    refine s_Fin.bf (c := v17 = (-1 : Int32)) (tg := 184) (p2 := 177) (L1 := [some (.ref 32), some (.ref 1), some (.ref 3), none, some (va_rf x4), some (.int v17)]) (st1 := []) hc rfl ?_
    refine s_Fin.sg 2 (y := (185, [some (.ref 32), some (.ref 1), some (.ref 3), none, some (va_rf x4), some (.int v17)], [.int (1 : Int32)], s_hg g18)) rfl ?_
    have hB := Option.some.inj hB
    subst hB
    obtain ⟨rfl, rfl⟩ := hr
    exact s_Fin.rt rfl rfl
noncomputable def fS_readOne_32_1_3 (K : Int32 → s_G → Option (Int32 × s_G)) (x3 : Int32) (g : s_G) : Option (Int32 × s_G) :=
  s_b1 (fS_beginsOne_1 g) fun v1 => if v1 = 0 then (s_b2 (fQ_fail_1 (1 : Int32) g) fun v3 g2 => if v3 = 0 ∨ v3 = 1 then some (v3, g2)
  else none)
  else if (g.1 32 5) < (20 : Int32) then (if (8 : Int32) < x3 then (s_b2 (fQ_fail_1 (4 : Int32) g) fun v5 g4 => if v5 = 0 ∨ v5 = 1 then some (v5, g4)
  else none)
  else s_b1 (fQ_next_1 (s_si g 32 5 ((g.1 32 5) + (1 : Int32)))) fun g6 => if (g.2.2 1 9) = none then (s_b2 (fS_readCond_32_1_3 K (x3 + (1 : Int32)) g6) fun v8 g7 => if v8 = 0 then (some ((0 : Int32), g7))
  else s_b2 (fQ_passSign_1 (41 : Int32) g7) fun v10 g9 => if v10 = 0 then (some ((0 : Int32), g9))
  else some ((1 : Int32), g9))
  else if s_okw (g.2.2 1 9) = true then (if (g.2.2 1 9) = some 1019 then (s_b2 (K (x3 + (1 : Int32)) g6) fun v12 g11 => s_b1 (fS_addStep_32_1019 (0 : Int32) (0 : Int32) g11) fun g13 => if v12 = 0 ∨ v12 = 1 then some (v12, g13)
  else none)
  else s_b1 (fS_isPlain_s (g.2.2 1 9) g6) fun v14 => if v14 = 0 then (if s_okw (g.2.2 1 9) = true then (if (g.2.2 1 9) = some 1023 then (fS_readOne_32_1_3_151 K (g.2.2 1 9) g6)
  else if s_okw (g.2.2 1 9) = true then (if (g.2.2 1 9) = some 1024 then (fS_readOne_32_1_3_151 K (g.2.2 1 9) g6)
  else s_b2 (fS_readComparison_32_1 (g.2.2 1 9) g6) fun v20 g19 => if v20 = 0 ∨ v20 = 1 then some (v20, g19)
  else none) else none) else none)
  else s_b1 (fS_addStep_32 (g.2.2 1 9) (0 : Int32) (0 : Int32) g6) fun g21 => some ((1 : Int32), g21)) else none)
  else s_b2 (fQ_fail_1 (4 : Int32) g) fun v23 g22 => if v23 = 0 ∨ v23 = 1 then some (v23, g22)
  else none
theorem fS_readOne_32_1_3_s {K : Int32 → s_G → Option (Int32 × s_G)} {e : Nat} (he : 40 ≤ e) (hK : ∀ (x3 : Int32) (g : s_G) (z : Int32 × s_G), K x3 g = some z → s_Ev e s_m139 [.ref 32, .ref 1, .ref 3, .int x3] (s_hg g) (some (.int z.1)) (s_hg z.2)) {x3 : Int32} {g : s_G} {z : Int32 × s_G} (hB : fS_readOne_32_1_3 K x3 g = some z) : s_Ev (e + 3) s_m139 [.ref 32, .ref 1, .ref 3, .int x3] (s_hg g) (some (.int z.1)) (s_hg z.2) := by
  unfold fS_readOne_32_1_3 at hB
  refine s_Ev.fin ((?_ : ∀ (v : Option Value) (h' : s_H), (fun (z : Int32 × s_G) (v : Option Value) (h' : s_H) => v = some (.int z.1) ∧ h' = s_hg z.2) z v h' → s_Fin (e + 3) s_m139 (0, s_ent [.ref 32, .ref 1, .ref 3, .int x3] (s_m139).2.2.1, [], s_hg g) v h') _ _ ⟨rfl, rfl⟩)
  intro v h' hr
  refine (show s_Fin (e + 3) s_m139 (0, [some (.ref 32), some (.ref 1), some (.ref 3), some (.int x3), none, none], [], s_hg g) v h' from ?_)
  refine s_Fin.sg 1 (y := (1, [some (.ref 32), some (.ref 1), some (.ref 3), some (.int x3), none, none], [.ref 1], s_hg g)) rfl ?_
  obtain ⟨v1, hp, hB⟩ := s_bd hB
  refine s_Fin.cl (d := e + 2) (q1 := s_m140) (md := 140) (vs := [.ref 1]) (rest := []) (h1 := s_hg g) (u := some (.int v1)) (s_Ev.up (by omega) (fS_beginsOne_1_s hp)) rfl rfl rfl rfl ?_
  by_cases hc : v1 = 0
  · rw [if_pos hc] at hB
    refine s_Fin.bf (c := ¬ v1 = 0) (tg := 13) (p2 := 4) (L1 := [some (.ref 32), some (.ref 1), some (.ref 3), some (.int x3), none, none]) (st1 := []) (fun h => h hc) rfl ?_
    refine s_Fin.sg 2 (y := (9, [some (.ref 32), some (.ref 1), some (.ref 3), some (.int x3), none, none], [.int (1 : Int32), .ref 1], s_hg g)) rfl ?_
    obtain ⟨v3, g2, hp, hB⟩ := s_bd2 hB
    refine s_Fin.cl (d := e + 2) (q1 := s_m30) (md := 30) (vs := [.ref 1, .int (1 : Int32)]) (rest := []) (h1 := s_hg g2) (u := some (.int v3)) (s_Ev.up (by omega) (fQ_fail_1_s hp)) rfl rfl rfl rfl ?_
    have hc : v3 = 0 ∨ v3 = 1 := Classical.byContradiction fun h => (by rw [if_neg h] at hB; cases hB)
    rw [if_pos hc] at hB
    have hB := Option.some.inj hB
    subst hB
    obtain ⟨rfl, rfl⟩ := hr
    exact s_Fin.rt (by rcases hc with hc | hc <;> rw [hc] <;> exact rfl) rfl
  · rw [if_neg hc] at hB
    refine s_Fin.bt (c := ¬ v1 = 0) (tg := 13) (p2 := 4) (L1 := [some (.ref 32), some (.ref 1), some (.ref 3), some (.int x3), none, none]) (st1 := []) hc rfl ?_
    refine s_Fin.sg 3 (y := (19, [some (.ref 32), some (.ref 1), some (.ref 3), some (.int x3), none, none], [.int (20 : Int32), .int (g.1 32 5)], s_hg g)) rfl ?_
    by_cases hc : (g.1 32 5) < (20 : Int32)
    · rw [if_pos hc] at hB
      refine s_Fin.bf (c := (20 : Int32) ≤ (g.1 32 5)) (tg := 28) (p2 := 19) (L1 := [some (.ref 32), some (.ref 1), some (.ref 3), some (.int x3), none, none]) (st1 := []) (Int32.not_le.mpr hc) rfl ?_
      refine s_Fin.sg 2 (y := (25, [some (.ref 32), some (.ref 1), some (.ref 3), some (.int x3), none, none], [.int (8 : Int32), .int x3], s_hg g)) rfl ?_
      by_cases hc : (8 : Int32) < x3
      · rw [if_pos hc] at hB
        refine s_Fin.bf (c := x3 ≤ (8 : Int32)) (tg := 34) (p2 := 25) (L1 := [some (.ref 32), some (.ref 1), some (.ref 3), some (.int x3), none, none]) (st1 := []) (Int32.not_le.mpr hc) rfl ?_
        refine s_Fin.sg 2 (y := (30, [some (.ref 32), some (.ref 1), some (.ref 3), some (.int x3), none, none], [.int (4 : Int32), .ref 1], s_hg g)) rfl ?_
        obtain ⟨v5, g4, hp, hB⟩ := s_bd2 hB
        refine s_Fin.cl (d := e + 2) (q1 := s_m30) (md := 30) (vs := [.ref 1, .int (4 : Int32)]) (rest := []) (h1 := s_hg g4) (u := some (.int v5)) (s_Ev.up (by omega) (fQ_fail_1_s hp)) rfl rfl rfl rfl ?_
        have hc : v5 = 0 ∨ v5 = 1 := Classical.byContradiction fun h => (by rw [if_neg h] at hB; cases hB)
        rw [if_pos hc] at hB
        have hB := Option.some.inj hB
        subst hB
        obtain ⟨rfl, rfl⟩ := hr
        exact s_Fin.rt (by rcases hc with hc | hc <;> rw [hc] <;> exact rfl) rfl
      · rw [if_neg hc] at hB
        refine s_Fin.bt (c := x3 ≤ (8 : Int32)) (tg := 34) (p2 := 25) (L1 := [some (.ref 32), some (.ref 1), some (.ref 3), some (.int x3), none, none]) (st1 := []) (Int32.not_lt.mp hc) rfl ?_
        refine s_Fin.sg 8 (y := (48, [some (.ref 32), some (.ref 1), some (.ref 3), some (.int x3), none, none], [va_rf (g.2.2 1 9)], s_hg (s_si g 32 5 ((g.1 32 5) + (1 : Int32))))) rfl ?_
        refine s_Fin.nx (pc1 := 50) (L1 := [some (.ref 32), some (.ref 1), some (.ref 3), some (.int x3), some (va_rf (g.2.2 1 9)), none]) (st1 := []) (h1 := s_hg (s_si g 32 5 ((g.1 32 5) + (1 : Int32)))) (by generalize (g.2.2 1 9) = w; cases w <;> exact rfl) rfl ?_
        refine s_Fin.sg 1 (y := (51, [some (.ref 32), some (.ref 1), some (.ref 3), some (.int x3), some (va_rf (g.2.2 1 9)), none], [.ref 1], s_hg (s_si g 32 5 ((g.1 32 5) + (1 : Int32))))) rfl ?_
        obtain ⟨g6, hp, hB⟩ := s_bd hB
        refine s_Fin.cl (d := e + 2) (q1 := s_m20) (md := 20) (vs := [.ref 1]) (rest := []) (h1 := s_hg g6) (u := none) (s_Ev.up (by omega) (fQ_next_1_s hp)) rfl rfl rfl rfl ?_
        refine s_Fin.nx (pc1 := 56) (L1 := [some (.ref 32), some (.ref 1), some (.ref 3), some (.int x3), some (va_rf (g.2.2 1 9)), none]) (st1 := [va_rf (g.2.2 1 9)]) (h1 := s_hg g6) (by generalize (g.2.2 1 9) = w; cases w <;> exact rfl) rfl ?_
        by_cases hc : (g.2.2 1 9) = none
        · rw [if_pos hc] at hB
          refine s_Fin.nx (pc1 := 59) (L1 := [some (.ref 32), some (.ref 1), some (.ref 3), some (.int x3), some (va_rf (g.2.2 1 9)), none]) (st1 := []) (h1 := s_hg g6) (by rw [hc]; exact rfl) rfl ?_
          refine s_Fin.sg 6 (y := (65, [some (.ref 32), some (.ref 1), some (.ref 3), some (.int x3), some (va_rf (g.2.2 1 9)), none], [.int (x3 + (1 : Int32)), .ref 3, .ref 1, .ref 32], s_hg g6)) rfl ?_
          obtain ⟨v8, g7, hp, hB⟩ := s_bd2 hB
          refine s_Fin.cl (d := e + 2) (q1 := s_m137) (md := 137) (vs := [.ref 32, .ref 1, .ref 3, .int (x3 + (1 : Int32))]) (rest := []) (h1 := s_hg g7) (u := some (.int v8)) (s_Ev.up (by omega) (fS_readCond_32_1_3_s he hK hp)) rfl rfl rfl rfl ?_
          by_cases hc : v8 = 0
          · rw [if_pos hc] at hB
            refine s_Fin.bt (c := v8 = 0) (tg := 84) (p2 := 68) (L1 := [some (.ref 32), some (.ref 1), some (.ref 3), some (.int x3), some (va_rf (g.2.2 1 9)), none]) (st1 := []) hc rfl ?_
            refine s_Fin.sg 1 (y := (85, [some (.ref 32), some (.ref 1), some (.ref 3), some (.int x3), some (va_rf (g.2.2 1 9)), none], [.int (0 : Int32)], s_hg g7)) rfl ?_
            have hB := Option.some.inj hB
            subst hB
            obtain ⟨rfl, rfl⟩ := hr
            exact s_Fin.rt rfl rfl
          · rw [if_neg hc] at hB
            refine s_Fin.bf (c := v8 = 0) (tg := 84) (p2 := 68) (L1 := [some (.ref 32), some (.ref 1), some (.ref 3), some (.int x3), some (va_rf (g.2.2 1 9)), none]) (st1 := []) hc rfl ?_
            refine s_Fin.sg 2 (y := (74, [some (.ref 32), some (.ref 1), some (.ref 3), some (.int x3), some (va_rf (g.2.2 1 9)), none], [.int (41 : Int32), .ref 1], s_hg g7)) rfl ?_
            obtain ⟨v10, g9, hp, hB⟩ := s_bd2 hB
            refine s_Fin.cl (d := e + 2) (q1 := s_m41) (md := 41) (vs := [.ref 1, .int (41 : Int32)]) (rest := []) (h1 := s_hg g9) (u := some (.int v10)) (s_Ev.up (by omega) (fQ_passSign_1_s hp)) rfl rfl rfl rfl ?_
            by_cases hc : v10 = 0
            · rw [if_pos hc] at hB
              refine s_Fin.bt (c := v10 = 0) (tg := 84) (p2 := 77) (L1 := [some (.ref 32), some (.ref 1), some (.ref 3), some (.int x3), some (va_rf (g.2.2 1 9)), none]) (st1 := []) hc rfl ?_
              refine s_Fin.sg 1 (y := (85, [some (.ref 32), some (.ref 1), some (.ref 3), some (.int x3), some (va_rf (g.2.2 1 9)), none], [.int (0 : Int32)], s_hg g9)) rfl ?_
              have hB := Option.some.inj hB
              subst hB
              obtain ⟨rfl, rfl⟩ := hr
              exact s_Fin.rt rfl rfl
            · rw [if_neg hc] at hB
              refine s_Fin.bf (c := v10 = 0) (tg := 84) (p2 := 77) (L1 := [some (.ref 32), some (.ref 1), some (.ref 3), some (.int x3), some (va_rf (g.2.2 1 9)), none]) (st1 := []) hc rfl ?_
              refine s_Fin.sg 2 (y := (85, [some (.ref 32), some (.ref 1), some (.ref 3), some (.int x3), some (va_rf (g.2.2 1 9)), none], [.int (1 : Int32)], s_hg g9)) rfl ?_
              have hB := Option.some.inj hB
              subst hB
              obtain ⟨rfl, rfl⟩ := hr
              exact s_Fin.rt rfl rfl
        · rw [if_neg hc] at hB
          refine s_Fin.nx (pc1 := 86) (L1 := [some (.ref 32), some (.ref 1), some (.ref 3), some (.int x3), some (va_rf (g.2.2 1 9)), none]) (st1 := []) (h1 := s_hg g6) (by generalize (g.2.2 1 9) = w at hc ⊢; cases w with
      | none => exact absurd rfl hc
      | some a => exact rfl) rfl ?_
          refine s_Fin.nx (pc1 := 88) (L1 := [some (.ref 32), some (.ref 1), some (.ref 3), some (.int x3), some (va_rf (g.2.2 1 9)), none]) (st1 := [va_rf (g.2.2 1 9)]) (h1 := s_hg g6) (by generalize (g.2.2 1 9) = w; cases w <;> exact rfl) rfl ?_
          refine s_Fin.sg 1 (y := (91, [some (.ref 32), some (.ref 1), some (.ref 3), some (.int x3), some (va_rf (g.2.2 1 9)), none], [.ref 1019, va_rf (g.2.2 1 9)], s_hg g6)) rfl ?_
          have hw : s_okw (g.2.2 1 9) = true := Classical.byContradiction fun h => (by rw [if_neg h] at hB; cases hB)
          rw [if_pos hw] at hB
          by_cases hc : (g.2.2 1 9) = some 1019
          · rw [if_pos hc] at hB
            refine s_Fin.nx (pc1 := 94) (L1 := [some (.ref 32), some (.ref 1), some (.ref 3), some (.int x3), some (va_rf (g.2.2 1 9)), none]) (st1 := []) (h1 := s_hg g6) ((show _ = s_acN 117 91 [some (.ref 32), some (.ref 1), some (.ref 3), some (.int x3), some (va_rf (g.2.2 1 9)), none] [] (s_hg g6) (.ref 1019) (va_rf (g.2.2 1 9)) from rfl).trans (s_acN_t hw rfl hc)) rfl ?_
            refine s_Fin.sg 6 (y := (100, [some (.ref 32), some (.ref 1), some (.ref 3), some (.int x3), some (va_rf (g.2.2 1 9)), none], [.int (x3 + (1 : Int32)), .ref 3, .ref 1, .ref 32], s_hg g6)) rfl ?_
            obtain ⟨v12, g11, hp, hB⟩ := s_bd2 hB
            refine s_Fin.cl (d := e + 2) (q1 := s_m139) (md := 139) (vs := [.ref 32, .ref 1, .ref 3, .int (x3 + (1 : Int32))]) (rest := []) (h1 := s_hg g11) (u := some (.int v12)) (s_Ev.up (by omega) (hK _ _ _ hp)) rfl rfl rfl rfl ?_
            refine s_Fin.nx (pc1 := 105) (L1 := [some (.ref 32), some (.ref 1), some (.ref 3), some (.int x3), some (va_rf (g.2.2 1 9)), some (.int v12)]) (st1 := []) (h1 := s_hg g11) (by generalize (g.2.2 1 9) = w; cases w <;> exact rfl) rfl ?_
            refine s_Fin.sg 4 (y := (111, [some (.ref 32), some (.ref 1), some (.ref 3), some (.int x3), some (va_rf (g.2.2 1 9)), some (.int v12)], [.int (0 : Int32), .int (0 : Int32), .ref 1019, .ref 32], s_hg g11)) rfl ?_
            obtain ⟨g13, hp, hB⟩ := s_bd hB
            refine s_Fin.cl (d := e + 2) (q1 := s_m142) (md := 142) (vs := [.ref 32, .ref 1019, .int (0 : Int32), .int (0 : Int32)]) (rest := []) (h1 := s_hg g13) (u := none) (s_Ev.up (by omega) (fS_addStep_32_1019_s hp)) rfl rfl rfl rfl ?_
            refine s_Fin.sg 1 (y := (116, [some (.ref 32), some (.ref 1), some (.ref 3), some (.int x3), some (va_rf (g.2.2 1 9)), some (.int v12)], [.int v12], s_hg g13)) rfl ?_
            have hc : v12 = 0 ∨ v12 = 1 := Classical.byContradiction fun h => (by rw [if_neg h] at hB; cases hB)
            rw [if_pos hc] at hB
            have hB := Option.some.inj hB
            subst hB
            obtain ⟨rfl, rfl⟩ := hr
            exact s_Fin.rt (by rcases hc with hc | hc <;> rw [hc] <;> exact rfl) rfl
          · rw [if_neg hc] at hB
            refine s_Fin.nx (pc1 := 117) (L1 := [some (.ref 32), some (.ref 1), some (.ref 3), some (.int x3), some (va_rf (g.2.2 1 9)), none]) (st1 := []) (h1 := s_hg g6) ((show _ = s_acN 117 91 [some (.ref 32), some (.ref 1), some (.ref 3), some (.int x3), some (va_rf (g.2.2 1 9)), none] [] (s_hg g6) (.ref 1019) (va_rf (g.2.2 1 9)) from rfl).trans (s_acN_f hw rfl hc)) rfl ?_
            refine s_Fin.nx (pc1 := 119) (L1 := [some (.ref 32), some (.ref 1), some (.ref 3), some (.int x3), some (va_rf (g.2.2 1 9)), none]) (st1 := [va_rf (g.2.2 1 9)]) (h1 := s_hg g6) (by generalize (g.2.2 1 9) = w; cases w <;> exact rfl) rfl ?_
            obtain ⟨v14, hp, hB⟩ := s_bd hB
            refine s_Fin.cl (d := e + 2) (q1 := s_m141) (md := 141) (vs := [va_rf (g.2.2 1 9)]) (rest := []) (h1 := s_hg g6) (u := some (.int v14)) (s_Ev.up (by omega) (fS_isPlain_s_s hp)) rfl rfl rfl (by generalize (g.2.2 1 9) = w0; cases w0 <;> rfl) ?_
            by_cases hc : v14 = 0
            · rw [if_pos hc] at hB
              refine s_Fin.bt (c := v14 = 0) (tg := 135) (p2 := 122) (L1 := [some (.ref 32), some (.ref 1), some (.ref 3), some (.int x3), some (va_rf (g.2.2 1 9)), none]) (st1 := []) hc rfl ?_
              refine s_Fin.nx (pc1 := 137) (L1 := [some (.ref 32), some (.ref 1), some (.ref 3), some (.int x3), some (va_rf (g.2.2 1 9)), none]) (st1 := [va_rf (g.2.2 1 9)]) (h1 := s_hg g6) (by generalize (g.2.2 1 9) = w; cases w <;> exact rfl) rfl ?_
              refine s_Fin.sg 1 (y := (140, [some (.ref 32), some (.ref 1), some (.ref 3), some (.int x3), some (va_rf (g.2.2 1 9)), none], [.ref 1023, va_rf (g.2.2 1 9)], s_hg g6)) rfl ?_
              have hw : s_okw (g.2.2 1 9) = true := Classical.byContradiction fun h => (by rw [if_neg h] at hB; cases hB)
              rw [if_pos hw] at hB
              by_cases hc : (g.2.2 1 9) = some 1023
              · rw [if_pos hc] at hB
                refine s_Fin.nx (pc1 := 151) (L1 := [some (.ref 32), some (.ref 1), some (.ref 3), some (.int x3), some (va_rf (g.2.2 1 9)), none]) (st1 := []) (h1 := s_hg g6) ((show _ = s_acE 151 140 [some (.ref 32), some (.ref 1), some (.ref 3), some (.int x3), some (va_rf (g.2.2 1 9)), none] [] (s_hg g6) (.ref 1023) (va_rf (g.2.2 1 9)) from rfl).trans (s_acE_t hw rfl hc)) rfl ?_
                exact s_Fin.more (L := [some (.ref 32), some (.ref 1), some (.ref 3), none, some (va_rf (g.2.2 1 9)), none]) ⟨Or.inr rfl, Or.inr rfl, Or.inr rfl, Or.inl rfl, Or.inr rfl, Or.inl rfl, trivial⟩ (fS_readOne_32_1_3_151_s he hK hB hr)
              · rw [if_neg hc] at hB
                refine s_Fin.nx (pc1 := 143) (L1 := [some (.ref 32), some (.ref 1), some (.ref 3), some (.int x3), some (va_rf (g.2.2 1 9)), none]) (st1 := []) (h1 := s_hg g6) ((show _ = s_acE 151 140 [some (.ref 32), some (.ref 1), some (.ref 3), some (.int x3), some (va_rf (g.2.2 1 9)), none] [] (s_hg g6) (.ref 1023) (va_rf (g.2.2 1 9)) from rfl).trans (s_acE_f hw rfl hc)) rfl ?_
                refine s_Fin.nx (pc1 := 145) (L1 := [some (.ref 32), some (.ref 1), some (.ref 3), some (.int x3), some (va_rf (g.2.2 1 9)), none]) (st1 := [va_rf (g.2.2 1 9)]) (h1 := s_hg g6) (by generalize (g.2.2 1 9) = w; cases w <;> exact rfl) rfl ?_
                refine s_Fin.sg 1 (y := (148, [some (.ref 32), some (.ref 1), some (.ref 3), some (.int x3), some (va_rf (g.2.2 1 9)), none], [.ref 1024, va_rf (g.2.2 1 9)], s_hg g6)) rfl ?_
                have hw : s_okw (g.2.2 1 9) = true := Classical.byContradiction fun h => (by rw [if_neg h] at hB; cases hB)
                rw [if_pos hw] at hB
                by_cases hc : (g.2.2 1 9) = some 1024
                · rw [if_pos hc] at hB
                  refine s_Fin.nx (pc1 := 151) (L1 := [some (.ref 32), some (.ref 1), some (.ref 3), some (.int x3), some (va_rf (g.2.2 1 9)), none]) (st1 := []) (h1 := s_hg g6) ((show _ = s_acN 186 148 [some (.ref 32), some (.ref 1), some (.ref 3), some (.int x3), some (va_rf (g.2.2 1 9)), none] [] (s_hg g6) (.ref 1024) (va_rf (g.2.2 1 9)) from rfl).trans (s_acN_t hw rfl hc)) rfl ?_
                  exact s_Fin.more (L := [some (.ref 32), some (.ref 1), some (.ref 3), none, some (va_rf (g.2.2 1 9)), none]) ⟨Or.inr rfl, Or.inr rfl, Or.inr rfl, Or.inl rfl, Or.inr rfl, Or.inl rfl, trivial⟩ (fS_readOne_32_1_3_151_s he hK hB hr)
                · rw [if_neg hc] at hB
                  refine s_Fin.nx (pc1 := 186) (L1 := [some (.ref 32), some (.ref 1), some (.ref 3), some (.int x3), some (va_rf (g.2.2 1 9)), none]) (st1 := []) (h1 := s_hg g6) ((show _ = s_acN 186 148 [some (.ref 32), some (.ref 1), some (.ref 3), some (.int x3), some (va_rf (g.2.2 1 9)), none] [] (s_hg g6) (.ref 1024) (va_rf (g.2.2 1 9)) from rfl).trans (s_acN_f hw rfl hc)) rfl ?_
                  refine s_Fin.sg 2 (y := (188, [some (.ref 32), some (.ref 1), some (.ref 3), some (.int x3), some (va_rf (g.2.2 1 9)), none], [.ref 1, .ref 32], s_hg g6)) rfl ?_
                  refine s_Fin.nx (pc1 := 190) (L1 := [some (.ref 32), some (.ref 1), some (.ref 3), some (.int x3), some (va_rf (g.2.2 1 9)), none]) (st1 := [va_rf (g.2.2 1 9), .ref 1, .ref 32]) (h1 := s_hg g6) (by generalize (g.2.2 1 9) = w; cases w <;> exact rfl) rfl ?_
                  obtain ⟨v20, g19, hp, hB⟩ := s_bd2 hB
                  refine s_Fin.cl (d := e + 2) (q1 := s_m143) (md := 143) (vs := [.ref 32, .ref 1, va_rf (g.2.2 1 9)]) (rest := []) (h1 := s_hg g19) (u := some (.int v20)) (s_Ev.up (by omega) (fS_readComparison_32_1_s hp)) rfl rfl rfl (by generalize (g.2.2 1 9) = w2; cases w2 <;> rfl) ?_
                  have hc : v20 = 0 ∨ v20 = 1 := Classical.byContradiction fun h => (by rw [if_neg h] at hB; cases hB)
                  rw [if_pos hc] at hB
                  have hB := Option.some.inj hB
                  subst hB
                  obtain ⟨rfl, rfl⟩ := hr
                  exact s_Fin.rt (by rcases hc with hc | hc <;> rw [hc] <;> exact rfl) rfl
            · rw [if_neg hc] at hB
              refine s_Fin.bf (c := v14 = 0) (tg := 135) (p2 := 122) (L1 := [some (.ref 32), some (.ref 1), some (.ref 3), some (.int x3), some (va_rf (g.2.2 1 9)), none]) (st1 := []) hc rfl ?_
              refine s_Fin.sg 1 (y := (126, [some (.ref 32), some (.ref 1), some (.ref 3), some (.int x3), some (va_rf (g.2.2 1 9)), none], [.ref 32], s_hg g6)) rfl ?_
              refine s_Fin.nx (pc1 := 128) (L1 := [some (.ref 32), some (.ref 1), some (.ref 3), some (.int x3), some (va_rf (g.2.2 1 9)), none]) (st1 := [va_rf (g.2.2 1 9), .ref 32]) (h1 := s_hg g6) (by generalize (g.2.2 1 9) = w; cases w <;> exact rfl) rfl ?_
              refine s_Fin.sg 2 (y := (130, [some (.ref 32), some (.ref 1), some (.ref 3), some (.int x3), some (va_rf (g.2.2 1 9)), none], [.int (0 : Int32), .int (0 : Int32), va_rf (g.2.2 1 9), .ref 32], s_hg g6)) rfl ?_
              obtain ⟨g21, hp, hB⟩ := s_bd hB
              refine s_Fin.cl (d := e + 2) (q1 := s_m142) (md := 142) (vs := [.ref 32, va_rf (g.2.2 1 9), .int (0 : Int32), .int (0 : Int32)]) (rest := []) (h1 := s_hg g21) (u := none) (s_Ev.up (by omega) (fS_addStep_32_s hp)) rfl rfl rfl (by generalize (g.2.2 1 9) = w1; cases w1 <;> rfl) ?_
              refine s_Fin.sg 1 (y := (134, [some (.ref 32), some (.ref 1), some (.ref 3), some (.int x3), some (va_rf (g.2.2 1 9)), none], [.int (1 : Int32)], s_hg g21)) rfl ?_
              have hB := Option.some.inj hB
              subst hB
              obtain ⟨rfl, rfl⟩ := hr
              exact s_Fin.rt rfl rfl
    · rw [if_neg hc] at hB
      refine s_Fin.bt (c := (20 : Int32) ≤ (g.1 32 5)) (tg := 28) (p2 := 19) (L1 := [some (.ref 32), some (.ref 1), some (.ref 3), some (.int x3), none, none]) (st1 := []) (Int32.not_lt.mp hc) rfl ?_
      refine s_Fin.sg 2 (y := (30, [some (.ref 32), some (.ref 1), some (.ref 3), some (.int x3), none, none], [.int (4 : Int32), .ref 1], s_hg g)) rfl ?_
      obtain ⟨v23, g22, hp, hB⟩ := s_bd2 hB
      refine s_Fin.cl (d := e + 2) (q1 := s_m30) (md := 30) (vs := [.ref 1, .int (4 : Int32)]) (rest := []) (h1 := s_hg g22) (u := some (.int v23)) (s_Ev.up (by omega) (fQ_fail_1_s hp)) rfl rfl rfl rfl ?_
      have hc : v23 = 0 ∨ v23 = 1 := Classical.byContradiction fun h => (by rw [if_neg h] at hB; cases hB)
      rw [if_pos hc] at hB
      have hB := Option.some.inj hB
      subst hB
      obtain ⟨rfl, rfl⟩ := hr
      exact s_Fin.rt (by rcases hc with hc | hc <;> rw [hc] <;> exact rfl) rfl
noncomputable def fS_readOne_32_1_3_k : Nat → Int32 → s_G → Option (Int32 × s_G)
  | 0 => fun _ _ => none
  | n + 1 => fun x3 g => fS_readOne_32_1_3 (fS_readOne_32_1_3_k n) x3 g
theorem fS_readOne_32_1_3_k_s : ∀ (n : Nat) (x3 : Int32) (g : s_G) (z : Int32 × s_G), fS_readOne_32_1_3_k n x3 g = some z → s_Ev (40 + 3 * n) s_m139 [.ref 32, .ref 1, .ref 3, .int x3] (s_hg g) (some (.int z.1)) (s_hg z.2)
  | 0, _, _, _, h => nomatch h
  | n + 1, x3, g, z, h => s_Ev.up (by omega) (fS_readOne_32_1_3_s (e := 40 + 3 * n) (by omega) (fS_readOne_32_1_3_k_s n) h)
-- CampAshes$Sentence.readText
noncomputable def fS_readText_32_1_3 (g : s_G) : Option (Int32 × s_G) :=
  s_b1 (fS_clear_32 g) fun g1 => s_b2 (fS_readCond_32_1_3 (fS_readOne_32_1_3_k 12) (1 : Int32) g1) fun v3 g2 => if v3 = 0 then (some ((0 : Int32), g2))
  else s_b1 (fQ_hasEnded_1 g2) fun v4 => if v4 = 0 then (s_b2 (fQ_fail_1 (1 : Int32) g2) fun v6 g5 => if v6 = 0 ∨ v6 = 1 then some (v6, g5)
  else none)
  else some ((1 : Int32), (s_si g2 32 6 (1 : Int32)))
theorem fS_readText_32_1_3_s {g : s_G} {z : Int32 × s_G} (hB : fS_readText_32_1_3 g = some z) : s_Ev 79 s_m136 [.ref 32, .ref 1, .ref 3] (s_hg g) (some (.int z.1)) (s_hg z.2) := by
  unfold fS_readText_32_1_3 at hB
  refine s_Ev.fin ((?_ : ∀ (v : Option Value) (h' : s_H), (fun (z : Int32 × s_G) (v : Option Value) (h' : s_H) => v = some (.int z.1) ∧ h' = s_hg z.2) z v h' → s_Fin 79 s_m136 (0, s_ent [.ref 32, .ref 1, .ref 3] (s_m136).2.2.1, [], s_hg g) v h') _ _ ⟨rfl, rfl⟩)
  intro v h' hr
  refine (show s_Fin 79 s_m136 (0, [some (.ref 32), some (.ref 1), some (.ref 3)], [], s_hg g) v h' from ?_)
  refine s_Fin.sg 1 (y := (1, [some (.ref 32), some (.ref 1), some (.ref 3)], [.ref 32], s_hg g)) rfl ?_
  obtain ⟨g1, hp, hB⟩ := s_bd hB
  refine s_Fin.cl (d := 78) (q1 := s_m44) (md := 44) (vs := [.ref 32]) (rest := []) (h1 := s_hg g1) (u := none) (s_Ev.up (by omega) (fS_clear_32_s hp)) rfl rfl rfl rfl ?_
  refine s_Fin.sg 4 (y := (8, [some (.ref 32), some (.ref 1), some (.ref 3)], [.int (1 : Int32), .ref 3, .ref 1, .ref 32], s_hg g1)) rfl ?_
  obtain ⟨v3, g2, hp, hB⟩ := s_bd2 hB
  refine s_Fin.cl (d := 78) (q1 := s_m137) (md := 137) (vs := [.ref 32, .ref 1, .ref 3, .int (1 : Int32)]) (rest := []) (h1 := s_hg g2) (u := some (.int v3)) (s_Ev.up (by omega) (fS_readCond_32_1_3_s (by omega) (fS_readOne_32_1_3_k_s 12) hp)) rfl rfl rfl rfl ?_
  by_cases hc : v3 = 0
  · rw [if_pos hc] at hB
    refine s_Fin.bf (c := ¬ v3 = 0) (tg := 16) (p2 := 11) (L1 := [some (.ref 32), some (.ref 1), some (.ref 3)]) (st1 := []) (fun h => h hc) rfl ?_
    refine s_Fin.sg 1 (y := (15, [some (.ref 32), some (.ref 1), some (.ref 3)], [.int (0 : Int32)], s_hg g2)) rfl ?_
    have hB := Option.some.inj hB
    subst hB
    obtain ⟨rfl, rfl⟩ := hr
    exact s_Fin.rt rfl rfl
  · rw [if_neg hc] at hB
    refine s_Fin.bt (c := ¬ v3 = 0) (tg := 16) (p2 := 11) (L1 := [some (.ref 32), some (.ref 1), some (.ref 3)]) (st1 := []) hc rfl ?_
    refine s_Fin.sg 1 (y := (17, [some (.ref 32), some (.ref 1), some (.ref 3)], [.ref 1], s_hg g2)) rfl ?_
    obtain ⟨v4, hp, hB⟩ := s_bd hB
    refine s_Fin.cl (d := 78) (q1 := s_m26) (md := 26) (vs := [.ref 1]) (rest := []) (h1 := s_hg g2) (u := some (.int v4)) (s_Ev.up (by omega) (fQ_hasEnded_1_s hp)) rfl rfl rfl rfl ?_
    by_cases hc : v4 = 0
    · rw [if_pos hc] at hB
      refine s_Fin.bf (c := ¬ v4 = 0) (tg := 29) (p2 := 20) (L1 := [some (.ref 32), some (.ref 1), some (.ref 3)]) (st1 := []) (fun h => h hc) rfl ?_
      refine s_Fin.sg 2 (y := (25, [some (.ref 32), some (.ref 1), some (.ref 3)], [.int (1 : Int32), .ref 1], s_hg g2)) rfl ?_
      obtain ⟨v6, g5, hp, hB⟩ := s_bd2 hB
      refine s_Fin.cl (d := 78) (q1 := s_m30) (md := 30) (vs := [.ref 1, .int (1 : Int32)]) (rest := []) (h1 := s_hg g5) (u := some (.int v6)) (s_Ev.up (by omega) (fQ_fail_1_s hp)) rfl rfl rfl rfl ?_
      have hc : v6 = 0 ∨ v6 = 1 := Classical.byContradiction fun h => (by rw [if_neg h] at hB; cases hB)
      rw [if_pos hc] at hB
      have hB := Option.some.inj hB
      subst hB
      obtain ⟨rfl, rfl⟩ := hr
      exact s_Fin.rt (by rcases hc with hc | hc <;> rw [hc] <;> exact rfl) rfl
    · rw [if_neg hc] at hB
      refine s_Fin.bt (c := ¬ v4 = 0) (tg := 29) (p2 := 20) (L1 := [some (.ref 32), some (.ref 1), some (.ref 3)]) (st1 := []) hc rfl ?_
      refine s_Fin.sg 4 (y := (35, [some (.ref 32), some (.ref 1), some (.ref 3)], [.int (1 : Int32)], s_hg (s_si g2 32 6 (1 : Int32)))) rfl ?_
      have hB := Option.some.inj hB
      subst hB
      obtain ⟨rfl, rfl⟩ := hr
      exact s_Fin.rt rfl rfl
-- CampAshes$Sentence.copyFrom
noncomputable def fS_copyFrom_27_32_2 (x2 : Int32) (g : s_G) : Option ((Int32 × s_G) ⊕ (s_G)) :=
  if x2 < (40 : Int32) then (s_b1 (s_ix 40 x2) fun k2 => if s_okw (g.2.2 33 k2) = true then s_b1 (s_ix 40 x2) fun k4 => some (.inl (x2 + (1 : Int32), (s_sr g 28 k4 (g.2.2 33 k2))))
  else none)
  else s_in (if (g.1 32 6) = 0 ∨ (g.1 32 6) = 1 then (some (s_si (s_si (s_si (s_ci (s_ci g 34 29 0 0 40) 35 30 0 0 40) 27 4 (g.1 32 4)) 27 5 (g.1 32 5)) 27 6 (g.1 32 6)))
  else none)
theorem fS_copyFrom_27_32_2_s {x2 : Int32} {g : s_G} {z : (Int32 × s_G) ⊕ (s_G)} (hB : fS_copyFrom_27_32_2 x2 g = some z) {v : Option Value} {h' : s_H} (hr : (s_sm (fun (x : Int32 × s_G) (v : Option Value) (h' : s_H) => s_Fin 0 s_m144 (2, [some (.ref 27), some (.ref 32), some (.int x.1)], [], s_hg x.2) v h') (fun (z : s_G) (v : Option Value) (h' : s_H) => v = none ∧ h' = s_hg z)) z v h') : s_Fin 0 s_m144 (2, [some (.ref 27), some (.ref 32), some (.int x2)], [], s_hg g) v h' := by
  unfold fS_copyFrom_27_32_2 at hB
  refine s_Fin.sg 2 (y := (5, [some (.ref 27), some (.ref 32), some (.int x2)], [.int (40 : Int32), .int x2], s_hg g)) rfl ?_
  by_cases hc : x2 < (40 : Int32)
  · rw [if_pos hc] at hB
    refine s_Fin.bf (c := (40 : Int32) ≤ x2) (tg := 26) (p2 := 5) (L1 := [some (.ref 27), some (.ref 32), some (.int x2)]) (st1 := []) (Int32.not_le.mpr hc) rfl ?_
    refine s_Fin.sg 6 (y := (18, [some (.ref 27), some (.ref 32), some (.int x2)], [.int x2, .ref 33, .int x2, .ref 28], s_hg g)) rfl ?_
    obtain ⟨k2, hk2, hB⟩ := s_bd hB
    refine s_Fin.ix (n := 40) (i := x2) (pc1 := 19) (L1 := [some (.ref 27), some (.ref 32), some (.int x2)]) (fun j1 => [va_rf (g.2.2 33 j1), .int x2, .ref 28]) (fun j1 => s_hg g) hk2 rfl rfl ?_
    have hw : s_okw (g.2.2 33 k2) = true := Classical.byContradiction fun h => (by rw [if_neg h] at hB; cases hB)
    rw [if_pos hw] at hB
    obtain ⟨k4, hk, hB⟩ := s_bd hB
    refine s_Fin.nx (pc1 := 20) (L1 := [some (.ref 27), some (.ref 32), some (.int x2)]) (st1 := []) (h1 := s_hg (s_sr g 28 k4 (g.2.2 33 k2))) ((show _ = s_aaw 28 40 20 [some (.ref 27), some (.ref 32), some (.int x2)] [] (s_hg g) x2 (va_rf (g.2.2 33 k2)) from rfl).trans (s_aaw_of (k := k4) rfl rfl hw hk (fun k => s_wR_hg rfl))) rfl ?_
    refine s_Fin.sg 2 (y := (2, [some (.ref 27), some (.ref 32), some (.int (x2 + (1 : Int32)))], [], s_hg (s_sr g 28 k4 (g.2.2 33 k2)))) rfl ?_
    have hB := Option.some.inj hB
    subst hB
    exact s_Fin.more (L := [some (.ref 27), some (.ref 32), some (.int (x2 + (1 : Int32)))]) ⟨Or.inr rfl, Or.inr rfl, Or.inr rfl, trivial⟩ hr
  · rw [if_neg hc] at hB
    refine s_Fin.bt (c := (40 : Int32) ≤ x2) (tg := 26) (p2 := 5) (L1 := [some (.ref 27), some (.ref 32), some (.int x2)]) (st1 := []) (Int32.not_lt.mp hc) rfl ?_
    obtain ⟨_, hN, hz⟩ := s_in_of hB
    subst hz
    have hB := hN
    refine s_Fin.sg 27 (y := (77, [some (.ref 27), some (.ref 32), some (.int x2)], [.int (g.1 32 6), .ref 27], s_hg (s_si (s_si (s_ci (s_ci g 34 29 0 0 40) 35 30 0 0 40) 27 4 (g.1 32 4)) 27 5 (g.1 32 5)))) rfl ?_
    have hc : (g.1 32 6) = 0 ∨ (g.1 32 6) = 1 := Classical.byContradiction fun h => (by rw [if_neg h] at hB; cases hB)
    rw [if_pos hc] at hB
    refine s_Fin.nx (pc1 := 80) (L1 := [some (.ref 27), some (.ref 32), some (.int x2)]) (st1 := []) (h1 := s_hg (s_si (s_si (s_si (s_ci (s_ci g 34 29 0 0 40) 35 30 0 0 40) 27 4 (g.1 32 4)) 27 5 (g.1 32 5)) 27 6 (g.1 32 6))) (by rcases hc with hc | hc <;> rw [hc] <;> exact rfl) rfl ?_
    have hB := Option.some.inj hB
    subst hB
    obtain ⟨rfl, rfl⟩ := hr
    exact s_Fin.rt rfl rfl
noncomputable def fS_copyFrom_27_32 (g : s_G) : Option (s_G) :=
  s_lp (fun x => fS_copyFrom_27_32_2 x.1 x.2) ((0 : Int32), g)
theorem fS_copyFrom_27_32_s {g : s_G} {z : s_G} (hB : fS_copyFrom_27_32 g = some z) : s_Ev 0 s_m144 [.ref 27, .ref 32] (s_hg g) (none) (s_hg z) := by
  unfold fS_copyFrom_27_32 at hB
  refine s_Ev.fin ((?_ : ∀ (v : Option Value) (h' : s_H), (fun (z : s_G) (v : Option Value) (h' : s_H) => v = none ∧ h' = s_hg z) z v h' → s_Fin 0 s_m144 (0, s_ent [.ref 27, .ref 32] (s_m144).2.2.1, [], s_hg g) v h') _ _ ⟨rfl, rfl⟩)
  intro v h' hr
  refine (show s_Fin 0 s_m144 (0, [some (.ref 27), some (.ref 32), none], [], s_hg g) v h' from ?_)
  refine s_Fin.sg 2 (y := (2, [some (.ref 27), some (.ref 32), some (.int (0 : Int32))], [], s_hg g)) rfl ?_
  exact s_Fin.more (L := [some (.ref 27), some (.ref 32), some (.int (0 : Int32))]) ⟨Or.inr rfl, Or.inr rfl, Or.inr rfl, trivial⟩ (s_lp_s (P := (fun (x : Int32 × s_G) (v : Option Value) (h' : s_H) => s_Fin 0 s_m144 (2, [some (.ref 27), some (.ref 32), some (.int x.1)], [], s_hg x.2) v h')) (Q := (fun (z : s_G) (v : Option Value) (h' : s_H) => v = none ∧ h' = s_hg z)) (fun x z hB v h' hr => fS_copyFrom_27_32_2_s hB hr) hB _ _ hr)
-- CampAshes.sentence
noncomputable def fC_sentence_0 (g : s_G) : Option (Int32 × s_G) :=
  s_b1 (fQ_startText_1 (200 : Int32) g) fun g1 => s_b2 (fS_readText_32_1_3 g1) fun v3 g2 => if v3 = 0 then (some ((-1 : Int32) - (g2.1 1 11), (s_si g2 0 1 (g2.1 1 10))))
  else s_b1 (fS_copyFrom_27_32 (s_si g2 0 1 (g2.1 1 10))) fun g4 => some (g4.1 27 5, g4)
theorem fC_sentence_0_s {g : s_G} {z : Int32 × s_G} (hB : fC_sentence_0 g = some z) : s_Ev 80 s_m135 [.ref 0] (s_hg g) (some (.int z.1)) (s_hg z.2) := by
  unfold fC_sentence_0 at hB
  refine s_Ev.fin ((?_ : ∀ (v : Option Value) (h' : s_H), (fun (z : Int32 × s_G) (v : Option Value) (h' : s_H) => v = some (.int z.1) ∧ h' = s_hg z.2) z v h' → s_Fin 80 s_m135 (0, s_ent [.ref 0] (s_m135).2.2.1, [], s_hg g) v h') _ _ ⟨rfl, rfl⟩)
  intro v h' hr
  refine (show s_Fin 80 s_m135 (0, [some (.ref 0), none], [], s_hg g) v h' from ?_)
  refine s_Fin.sg 3 (y := (7, [some (.ref 0), none], [.int (200 : Int32), .ref 1], s_hg g)) rfl ?_
  obtain ⟨g1, hp, hB⟩ := s_bd hB
  refine s_Fin.cl (d := 79) (q1 := s_m19) (md := 19) (vs := [.ref 1, .int (200 : Int32)]) (rest := []) (h1 := s_hg g1) (u := none) (s_Ev.up (by omega) (fQ_startText_1_s hp)) rfl rfl rfl rfl ?_
  refine s_Fin.sg 6 (y := (22, [some (.ref 0), none], [.ref 3, .ref 1, .ref 32], s_hg g1)) rfl ?_
  obtain ⟨v3, g2, hp, hB⟩ := s_bd2 hB
  refine s_Fin.cl (d := 79) (q1 := s_m136) (md := 136) (vs := [.ref 32, .ref 1, .ref 3]) (rest := []) (h1 := s_hg g2) (u := some (.int v3)) (s_Ev.up (by omega) (fS_readText_32_1_3_s hp)) rfl rfl rfl rfl ?_
  refine s_Fin.sg 7 (y := (38, [some (.ref 0), some (.int v3)], [.int v3], s_hg (s_si g2 0 1 (g2.1 1 10)))) rfl ?_
  by_cases hc : v3 = 0
  · rw [if_pos hc] at hB
    refine s_Fin.bf (c := ¬ v3 = 0) (tg := 51) (p2 := 38) (L1 := [some (.ref 0), some (.int v3)]) (st1 := []) (fun h => h hc) rfl ?_
    refine s_Fin.sg 5 (y := (50, [some (.ref 0), some (.int v3)], [.int ((-1 : Int32) - (g2.1 1 11))], s_hg (s_si g2 0 1 (g2.1 1 10)))) rfl ?_
    have hB := Option.some.inj hB
    subst hB
    obtain ⟨rfl, rfl⟩ := hr
    exact s_Fin.rt rfl rfl
  · rw [if_neg hc] at hB
    refine s_Fin.bt (c := ¬ v3 = 0) (tg := 51) (p2 := 38) (L1 := [some (.ref 0), some (.int v3)]) (st1 := []) hc rfl ?_
    refine s_Fin.sg 4 (y := (59, [some (.ref 0), some (.int v3)], [.ref 32, .ref 27], s_hg (s_si g2 0 1 (g2.1 1 10)))) rfl ?_
    obtain ⟨g4, hp, hB⟩ := s_bd hB
    refine s_Fin.cl (d := 79) (q1 := s_m144) (md := 144) (vs := [.ref 27, .ref 32]) (rest := []) (h1 := s_hg g4) (u := none) (s_Ev.up (by omega) (fS_copyFrom_27_32_s hp)) rfl rfl rfl rfl ?_
    refine s_Fin.sg 3 (y := (69, [some (.ref 0), some (.int v3)], [.int (g4.1 27 5)], s_hg g4)) rfl ?_
    have hB := Option.some.inj hB
    subst hB
    obtain ⟨rfl, rfl⟩ := hr
    exact s_Fin.rt rfl rfl
