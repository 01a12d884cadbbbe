-- CampAshes$Sentence.holds
noncomputable def fS_holds_27_17 (x2 : Int32) (x3 : Int32) (g : s_G) : Option (Int32) :=
  s_b1 (s_ix 40 x2) fun k2 => if s_okw (g.2.2 28 k2) = true then (if (g.2.2 28 k2) = some 1020 then (s_b1 (fT_isOver_17 x3 g) fun v4 => if v4 = 0 ∨ v4 = 1 then some v4
  else none)
  else if s_okw (g.2.2 28 k2) = true then (if (g.2.2 28 k2) = some 1021 then (s_b1 (fT_isHushed_17 x3 g) fun v5 => if v5 = 0 ∨ v5 = 1 then some v5
  else none)
  else if s_okw (g.2.2 28 k2) = true then (if (g.2.2 28 k2) = some 1022 then (s_b1 (s_ix 7 x3) fun k7 => if (g.1 19 k7) = 0 then (some (1 : Int32))
  else some (0 : Int32))
  else if s_okw (g.2.2 28 k2) = true then (if (g.2.2 28 k2) = some 1023 then (s_b1 (fP_hasEvent_3 (g.1 30 k2) g) fun v8 => if v8 = 0 then (some (0 : Int32))
  else s_b1 (fT_onBoy_17 (g.1 30 k2) x3 g) fun v9 => if 0 < v9 then (some (1 : Int32))
  else some (0 : Int32))
  else if s_okw (g.2.2 28 k2) = true then (if (g.2.2 28 k2) = some 1024 then (s_b1 (fP_hasEvent_3 (g.1 30 k2) g) fun v10 => if v10 = 0 then (some (0 : Int32))
  else s_b1 (s_ix 10 (g.1 30 k2)) fun k12 => if (g.1 6 k12) = x3 then (some (1 : Int32))
  else some (0 : Int32))
  else s_b1 (fS_measure_17 (g.2.2 28 k2) x3 g) fun v13 => if (g.1 29 k2) = (60 : Int32) then (if v13 < (g.1 30 k2) then (some (1 : Int32))
  else some (0 : Int32))
  else if (g.1 29 k2) = (62 : Int32) then (if (g.1 30 k2) < v13 then (some (1 : Int32))
  else some (0 : Int32))
  else if v13 = (g.1 30 k2) then (some (1 : Int32))
  else some (0 : Int32)) else none) else none) else none) else none) else none
theorem fS_holds_27_17_s {x2 : Int32} {x3 : Int32} {g : s_G} {z : Int32} (hB : fS_holds_27_17 x2 x3 g = some z) : s_Ev 1 s_m148 [.ref 27, .ref 17, .int x2, .int x3] (s_hg g) (some (.int z)) (s_hg g) := by
  unfold fS_holds_27_17 at hB
  refine s_Ev.fin ((?_ : ∀ (v : Option Value) (h' : s_H), (fun (z : Int32) (v : Option Value) (h' : s_H) => v = some (.int z) ∧ h' = s_hg g) z v h' → s_Fin 1 s_m148 (0, s_ent [.ref 27, .ref 17, .int x2, .int x3] (s_m148).2.2.1, [], s_hg g) v h') _ _ ⟨rfl, rfl⟩)
  intro v h' hr
  refine (show s_Fin 1 s_m148 (0, [some (.ref 27), some (.ref 17), some (.int x2), some (.int x3), none, none, none], [], s_hg g) v h' from ?_)
  refine s_Fin.sg 3 (y := (5, [some (.ref 27), some (.ref 17), some (.int x2), some (.int x3), none, none, none], [.int x2, .ref 28], s_hg g)) rfl ?_
  obtain ⟨k2, hk2, hB⟩ := s_bd hB
  refine s_Fin.ix (n := 40) (i := x2) (pc1 := 6) (L1 := [some (.ref 27), some (.ref 17), some (.int x2), some (.int x3), none, none, none]) (fun j1 => [va_rf (g.2.2 28 j1)]) (fun j1 => s_hg g) hk2 rfl rfl ?_
  refine s_Fin.nx (pc1 := 8) (L1 := [some (.ref 27), some (.ref 17), some (.int x2), some (.int x3), some (va_rf (g.2.2 28 k2)), none, none]) (st1 := []) (h1 := s_hg g) (by generalize (g.2.2 28 k2) = w; cases w <;> exact rfl) rfl ?_
  refine s_Fin.sg 3 (y := (13, [some (.ref 27), some (.ref 17), some (.int x2), some (.int x3), some (va_rf (g.2.2 28 k2)), none, none], [.int x2, .ref 30], s_hg g)) rfl ?_
  refine s_Fin.ix (n := 40) (i := x2) (pc1 := 14) (L1 := [some (.ref 27), some (.ref 17), some (.int x2), some (.int x3), some (va_rf (g.2.2 28 k2)), none, none]) (fun j3 => [.int (g.1 30 j3)]) (fun j3 => s_hg g) hk2 rfl rfl ?_
  refine s_Fin.nx (pc1 := 16) (L1 := [some (.ref 27), some (.ref 17), some (.int x2), some (.int x3), some (va_rf (g.2.2 28 k2)), some (.int (g.1 30 k2)), none]) (st1 := []) (h1 := s_hg g) (by generalize (g.2.2 28 k2) = w; cases w <;> exact rfl) rfl ?_
  refine s_Fin.nx (pc1 := 18) (L1 := [some (.ref 27), some (.ref 17), some (.int x2), some (.int x3), some (va_rf (g.2.2 28 k2)), some (.int (g.1 30 k2)), none]) (st1 := [va_rf (g.2.2 28 k2)]) (h1 := s_hg g) (by generalize (g.2.2 28 k2) = w; cases w <;> exact rfl) rfl ?_
  refine s_Fin.sg 1 (y := (21, [some (.ref 27), some (.ref 17), some (.int x2), some (.int x3), some (va_rf (g.2.2 28 k2)), some (.int (g.1 30 k2)), none], [.ref 1020, va_rf (g.2.2 28 k2)], s_hg g)) rfl ?_
  have hw : s_okw (g.2.2 28 k2) = true := Classical.byContradiction fun h => (by rw [if_neg h] at hB; cases hB)
  rw [if_pos hw] at hB
  by_cases hc : (g.2.2 28 k2) = some 1020
  · rw [if_pos hc] at hB
    refine s_Fin.nx (pc1 := 24) (L1 := [some (.ref 27), some (.ref 17), some (.int x2), some (.int x3), some (va_rf (g.2.2 28 k2)), some (.int (g.1 30 k2)), none]) (st1 := []) (h1 := s_hg g) ((show _ = s_acN 30 21 [some (.ref 27), some (.ref 17), some (.int x2), some (.int x3), some (va_rf (g.2.2 28 k2)), some (.int (g.1 30 k2)), none] [] (s_hg g) (.ref 1020) (va_rf (g.2.2 28 k2)) from rfl).trans (s_acN_t hw rfl hc)) rfl ?_
    refine s_Fin.sg 2 (y := (26, [some (.ref 27), some (.ref 17), some (.int x2), some (.int x3), some (va_rf (g.2.2 28 k2)), some (.int (g.1 30 k2)), none], [.int x3, .ref 17], s_hg g)) rfl ?_
    obtain ⟨v4, hp, hB⟩ := s_bd hB
    refine s_Fin.cl (d := 0) (q1 := s_m59) (md := 59) (vs := [.ref 17, .int x3]) (rest := []) (h1 := s_hg g) (u := some (.int v4)) (s_Ev.up (by omega) (fT_isOver_17_s hp)) rfl rfl rfl rfl ?_
    have hc : v4 = 0 ∨ v4 = 1 := Classical.byContradiction fun h => (by rw [if_neg h] at hB; cases hB)
    rw [if_pos hc] at hB
    have hB := Option.some.inj hB
    subst hB
    obtain ⟨rfl, rfl⟩ := hr
    exact s_Fin.rt (by rcases hc with hc | hc <;> rw [hc] <;> exact rfl) rfl
  · rw [if_neg hc] at hB
    refine s_Fin.nx (pc1 := 30) (L1 := [some (.ref 27), some (.ref 17), some (.int x2), some (.int x3), some (va_rf (g.2.2 28 k2)), some (.int (g.1 30 k2)), none]) (st1 := []) (h1 := s_hg g) ((show _ = s_acN 30 21 [some (.ref 27), some (.ref 17), some (.int x2), some (.int x3), some (va_rf (g.2.2 28 k2)), some (.int (g.1 30 k2)), none] [] (s_hg g) (.ref 1020) (va_rf (g.2.2 28 k2)) from rfl).trans (s_acN_f hw rfl hc)) rfl ?_
    refine s_Fin.nx (pc1 := 32) (L1 := [some (.ref 27), some (.ref 17), some (.int x2), some (.int x3), some (va_rf (g.2.2 28 k2)), some (.int (g.1 30 k2)), none]) (st1 := [va_rf (g.2.2 28 k2)]) (h1 := s_hg g) (by generalize (g.2.2 28 k2) = w; cases w <;> exact rfl) rfl ?_
    refine s_Fin.sg 1 (y := (35, [some (.ref 27), some (.ref 17), some (.int x2), some (.int x3), some (va_rf (g.2.2 28 k2)), some (.int (g.1 30 k2)), none], [.ref 1021, va_rf (g.2.2 28 k2)], s_hg g)) rfl ?_
    have hw : s_okw (g.2.2 28 k2) = true := Classical.byContradiction fun h => (by rw [if_neg h] at hB; cases hB)
    rw [if_pos hw] at hB
    by_cases hc : (g.2.2 28 k2) = some 1021
    · rw [if_pos hc] at hB
      refine s_Fin.nx (pc1 := 38) (L1 := [some (.ref 27), some (.ref 17), some (.int x2), some (.int x3), some (va_rf (g.2.2 28 k2)), some (.int (g.1 30 k2)), none]) (st1 := []) (h1 := s_hg g) ((show _ = s_acN 44 35 [some (.ref 27), some (.ref 17), some (.int x2), some (.int x3), some (va_rf (g.2.2 28 k2)), some (.int (g.1 30 k2)), none] [] (s_hg g) (.ref 1021) (va_rf (g.2.2 28 k2)) from rfl).trans (s_acN_t hw rfl hc)) rfl ?_
      refine s_Fin.sg 2 (y := (40, [some (.ref 27), some (.ref 17), some (.int x2), some (.int x3), some (va_rf (g.2.2 28 k2)), some (.int (g.1 30 k2)), none], [.int x3, .ref 17], s_hg g)) rfl ?_
      obtain ⟨v5, hp, hB⟩ := s_bd hB
      refine s_Fin.cl (d := 0) (q1 := s_m65) (md := 65) (vs := [.ref 17, .int x3]) (rest := []) (h1 := s_hg g) (u := some (.int v5)) (s_Ev.up (by omega) (fT_isHushed_17_s hp)) rfl rfl rfl rfl ?_
      have hc : v5 = 0 ∨ v5 = 1 := Classical.byContradiction fun h => (by rw [if_neg h] at hB; cases hB)
      rw [if_pos hc] at hB
      have hB := Option.some.inj hB
      subst hB
      obtain ⟨rfl, rfl⟩ := hr
      exact s_Fin.rt (by rcases hc with hc | hc <;> rw [hc] <;> exact rfl) rfl
    · rw [if_neg hc] at hB
      refine s_Fin.nx (pc1 := 44) (L1 := [some (.ref 27), some (.ref 17), some (.int x2), some (.int x3), some (va_rf (g.2.2 28 k2)), some (.int (g.1 30 k2)), none]) (st1 := []) (h1 := s_hg g) ((show _ = s_acN 44 35 [some (.ref 27), some (.ref 17), some (.int x2), some (.int x3), some (va_rf (g.2.2 28 k2)), some (.int (g.1 30 k2)), none] [] (s_hg g) (.ref 1021) (va_rf (g.2.2 28 k2)) from rfl).trans (s_acN_f hw rfl hc)) rfl ?_
      refine s_Fin.nx (pc1 := 46) (L1 := [some (.ref 27), some (.ref 17), some (.int x2), some (.int x3), some (va_rf (g.2.2 28 k2)), some (.int (g.1 30 k2)), none]) (st1 := [va_rf (g.2.2 28 k2)]) (h1 := s_hg g) (by generalize (g.2.2 28 k2) = w; cases w <;> exact rfl) rfl ?_
      refine s_Fin.sg 1 (y := (49, [some (.ref 27), some (.ref 17), some (.int x2), some (.int x3), some (va_rf (g.2.2 28 k2)), some (.int (g.1 30 k2)), none], [.ref 1022, va_rf (g.2.2 28 k2)], s_hg g)) rfl ?_
      have hw : s_okw (g.2.2 28 k2) = true := Classical.byContradiction fun h => (by rw [if_neg h] at hB; cases hB)
      rw [if_pos hw] at hB
      by_cases hc : (g.2.2 28 k2) = some 1022
      · rw [if_pos hc] at hB
        refine s_Fin.nx (pc1 := 52) (L1 := [some (.ref 27), some (.ref 17), some (.int x2), some (.int x3), some (va_rf (g.2.2 28 k2)), some (.int (g.1 30 k2)), none]) (st1 := []) (h1 := s_hg g) ((show _ = s_acN 67 49 [some (.ref 27), some (.ref 17), some (.int x2), some (.int x3), some (va_rf (g.2.2 28 k2)), some (.int (g.1 30 k2)), none] [] (s_hg g) (.ref 1022) (va_rf (g.2.2 28 k2)) from rfl).trans (s_acN_t hw rfl hc)) rfl ?_
        refine s_Fin.sg 3 (y := (57, [some (.ref 27), some (.ref 17), some (.int x2), some (.int x3), some (va_rf (g.2.2 28 k2)), some (.int (g.1 30 k2)), none], [.int x3, .ref 19], s_hg g)) rfl ?_
        obtain ⟨k7, hk7, hB⟩ := s_bd hB
        refine s_Fin.ix (n := 7) (i := x3) (pc1 := 58) (L1 := [some (.ref 27), some (.ref 17), some (.int x2), some (.int x3), some (va_rf (g.2.2 28 k2)), some (.int (g.1 30 k2)), none]) (fun j6 => [.int (g.1 19 j6)]) (fun j6 => s_hg g) hk7 rfl rfl ?_
        by_cases hc : (g.1 19 k7) = 0
        · rw [if_pos hc] at hB
          refine s_Fin.bf (c := ¬ (g.1 19 k7) = 0) (tg := 65) (p2 := 58) (L1 := [some (.ref 27), some (.ref 17), some (.int x2), some (.int x3), some (va_rf (g.2.2 28 k2)), some (.int (g.1 30 k2)), none]) (st1 := []) (fun h => h hc) rfl ?_
          refine s_Fin.sg 2 (y := (66, [some (.ref 27), some (.ref 17), some (.int x2), some (.int x3), some (va_rf (g.2.2 28 k2)), some (.int (g.1 30 k2)), none], [.int (1 : Int32)], s_hg g)) rfl ?_
          have hB := Option.some.inj hB
          subst hB
          obtain ⟨rfl, rfl⟩ := hr
          exact s_Fin.rt rfl rfl
        · rw [if_neg hc] at hB
          refine s_Fin.bt (c := ¬ (g.1 19 k7) = 0) (tg := 65) (p2 := 58) (L1 := [some (.ref 27), some (.ref 17), some (.int x2), some (.int x3), some (va_rf (g.2.2 28 k2)), some (.int (g.1 30 k2)), none]) (st1 := []) hc rfl ?_
          refine s_Fin.sg 1 (y := (66, [some (.ref 27), some (.ref 17), some (.int x2), some (.int x3), some (va_rf (g.2.2 28 k2)), some (.int (g.1 30 k2)), none], [.int (0 : Int32)], s_hg g)) rfl ?_
          have hB := Option.some.inj hB
          subst hB
          obtain ⟨rfl, rfl⟩ := hr
          exact s_Fin.rt rfl rfl
      · rw [if_neg hc] at hB
        refine s_Fin.nx (pc1 := 67) (L1 := [some (.ref 27), some (.ref 17), some (.int x2), some (.int x3), some (va_rf (g.2.2 28 k2)), some (.int (g.1 30 k2)), none]) (st1 := []) (h1 := s_hg g) ((show _ = s_acN 67 49 [some (.ref 27), some (.ref 17), some (.int x2), some (.int x3), some (va_rf (g.2.2 28 k2)), some (.int (g.1 30 k2)), none] [] (s_hg g) (.ref 1022) (va_rf (g.2.2 28 k2)) from rfl).trans (s_acN_f hw rfl hc)) rfl ?_
        refine s_Fin.nx (pc1 := 69) (L1 := [some (.ref 27), some (.ref 17), some (.int x2), some (.int x3), some (va_rf (g.2.2 28 k2)), some (.int (g.1 30 k2)), none]) (st1 := [va_rf (g.2.2 28 k2)]) (h1 := s_hg g) (by generalize (g.2.2 28 k2) = w; cases w <;> exact rfl) rfl ?_
        refine s_Fin.sg 1 (y := (72, [some (.ref 27), some (.ref 17), some (.int x2), some (.int x3), some (va_rf (g.2.2 28 k2)), some (.int (g.1 30 k2)), none], [.ref 1023, va_rf (g.2.2 28 k2)], s_hg g)) rfl ?_
        have hw : s_okw (g.2.2 28 k2) = true := Classical.byContradiction fun h => (by rw [if_neg h] at hB; cases hB)
        rw [if_pos hw] at hB
        by_cases hc : (g.2.2 28 k2) = some 1023
        · rw [if_pos hc] at hB
          refine s_Fin.nx (pc1 := 75) (L1 := [some (.ref 27), some (.ref 17), some (.int x2), some (.int x3), some (va_rf (g.2.2 28 k2)), some (.int (g.1 30 k2)), none]) (st1 := []) (h1 := s_hg g) ((show _ = s_acN 103 72 [some (.ref 27), some (.ref 17), some (.int x2), some (.int x3), some (va_rf (g.2.2 28 k2)), some (.int (g.1 30 k2)), none] [] (s_hg g) (.ref 1023) (va_rf (g.2.2 28 k2)) from rfl).trans (s_acN_t hw rfl hc)) rfl ?_
          refine s_Fin.sg 3 (y := (81, [some (.ref 27), some (.ref 17), some (.int x2), some (.int x3), some (va_rf (g.2.2 28 k2)), some (.int (g.1 30 k2)), none], [.int (g.1 30 k2), .ref 3], s_hg g)) rfl ?_
          obtain ⟨v8, hp, hB⟩ := s_bd hB
          refine s_Fin.cl (d := 0) (q1 := s_m48) (md := 48) (vs := [.ref 3, .int (g.1 30 k2)]) (rest := []) (h1 := s_hg g) (u := some (.int v8)) (s_Ev.up (by omega) (fP_hasEvent_3_s hp)) rfl rfl rfl rfl ?_
          by_cases hc : v8 = 0
          · rw [if_pos hc] at hB
            refine s_Fin.bt (c := v8 = 0) (tg := 101) (p2 := 84) (L1 := [some (.ref 27), some (.ref 17), some (.int x2), some (.int x3), some (va_rf (g.2.2 28 k2)), some (.int (g.1 30 k2)), none]) (st1 := []) hc rfl ?_
            refine s_Fin.sg 1 (y := (102, [some (.ref 27), some (.ref 17), some (.int x2), some (.int x3), some (va_rf (g.2.2 28 k2)), some (.int (g.1 30 k2)), none], [.int (0 : Int32)], s_hg g)) rfl ?_
            have hB := Option.some.inj hB
            subst hB
            obtain ⟨rfl, rfl⟩ := hr
            exact s_Fin.rt rfl rfl
          · rw [if_neg hc] at hB
            refine s_Fin.bf (c := v8 = 0) (tg := 101) (p2 := 84) (L1 := [some (.ref 27), some (.ref 17), some (.int x2), some (.int x3), some (va_rf (g.2.2 28 k2)), some (.int (g.1 30 k2)), none]) (st1 := []) hc rfl ?_
            refine s_Fin.sg 3 (y := (91, [some (.ref 27), some (.ref 17), some (.int x2), some (.int x3), some (va_rf (g.2.2 28 k2)), some (.int (g.1 30 k2)), none], [.int x3, .int (g.1 30 k2), .ref 17], s_hg g)) rfl ?_
            obtain ⟨v9, hp, hB⟩ := s_bd hB
            refine s_Fin.cl (d := 0) (q1 := s_m50) (md := 50) (vs := [.ref 17, .int (g.1 30 k2), .int x3]) (rest := []) (h1 := s_hg g) (u := some (.int v9)) (s_Ev.up (by omega) (fT_onBoy_17_s hp)) rfl rfl rfl rfl ?_
            by_cases hc : 0 < v9
            · rw [if_pos hc] at hB
              refine s_Fin.bf (c := v9 ≤ 0) (tg := 101) (p2 := 94) (L1 := [some (.ref 27), some (.ref 17), some (.int x2), some (.int x3), some (va_rf (g.2.2 28 k2)), some (.int (g.1 30 k2)), none]) (st1 := []) (Int32.not_le.mpr hc) rfl ?_
              refine s_Fin.sg 2 (y := (102, [some (.ref 27), some (.ref 17), some (.int x2), some (.int x3), some (va_rf (g.2.2 28 k2)), some (.int (g.1 30 k2)), none], [.int (1 : Int32)], s_hg g)) rfl ?_
              have hB := Option.some.inj hB
              subst hB
              obtain ⟨rfl, rfl⟩ := hr
              exact s_Fin.rt rfl rfl
            · rw [if_neg hc] at hB
              refine s_Fin.bt (c := v9 ≤ 0) (tg := 101) (p2 := 94) (L1 := [some (.ref 27), some (.ref 17), some (.int x2), some (.int x3), some (va_rf (g.2.2 28 k2)), some (.int (g.1 30 k2)), none]) (st1 := []) (Int32.not_lt.mp hc) rfl ?_
              refine s_Fin.sg 1 (y := (102, [some (.ref 27), some (.ref 17), some (.int x2), some (.int x3), some (va_rf (g.2.2 28 k2)), some (.int (g.1 30 k2)), none], [.int (0 : Int32)], s_hg g)) rfl ?_
              have hB := Option.some.inj hB
              subst hB
              obtain ⟨rfl, rfl⟩ := hr
              exact s_Fin.rt rfl rfl
        · rw [if_neg hc] at hB
          refine s_Fin.nx (pc1 := 103) (L1 := [some (.ref 27), some (.ref 17), some (.int x2), some (.int x3), some (va_rf (g.2.2 28 k2)), some (.int (g.1 30 k2)), none]) (st1 := []) (h1 := s_hg g) ((show _ = s_acN 103 72 [some (.ref 27), some (.ref 17), some (.int x2), some (.int x3), some (va_rf (g.2.2 28 k2)), some (.int (g.1 30 k2)), none] [] (s_hg g) (.ref 1023) (va_rf (g.2.2 28 k2)) from rfl).trans (s_acN_f hw rfl hc)) rfl ?_
          refine s_Fin.nx (pc1 := 105) (L1 := [some (.ref 27), some (.ref 17), some (.int x2), some (.int x3), some (va_rf (g.2.2 28 k2)), some (.int (g.1 30 k2)), none]) (st1 := [va_rf (g.2.2 28 k2)]) (h1 := s_hg g) (by generalize (g.2.2 28 k2) = w; cases w <;> exact rfl) rfl ?_
          refine s_Fin.sg 1 (y := (108, [some (.ref 27), some (.ref 17), some (.int x2), some (.int x3), some (va_rf (g.2.2 28 k2)), some (.int (g.1 30 k2)), none], [.ref 1024, va_rf (g.2.2 28 k2)], s_hg g)) rfl ?_
          have hw : s_okw (g.2.2 28 k2) = true := Classical.byContradiction fun h => (by rw [if_neg h] at hB; cases hB)
          rw [if_pos hw] at hB
          by_cases hc : (g.2.2 28 k2) = some 1024
          · rw [if_pos hc] at hB
            refine s_Fin.nx (pc1 := 111) (L1 := [some (.ref 27), some (.ref 17), some (.int x2), some (.int x3), some (va_rf (g.2.2 28 k2)), some (.int (g.1 30 k2)), none]) (st1 := []) (h1 := s_hg g) ((show _ = s_acN 143 108 [some (.ref 27), some (.ref 17), some (.int x2), some (.int x3), some (va_rf (g.2.2 28 k2)), some (.int (g.1 30 k2)), none] [] (s_hg g) (.ref 1024) (va_rf (g.2.2 28 k2)) from rfl).trans (s_acN_t hw rfl hc)) rfl ?_
            refine s_Fin.sg 3 (y := (117, [some (.ref 27), some (.ref 17), some (.int x2), some (.int x3), some (va_rf (g.2.2 28 k2)), some (.int (g.1 30 k2)), none], [.int (g.1 30 k2), .ref 3], s_hg g)) rfl ?_
            obtain ⟨v10, hp, hB⟩ := s_bd hB
            refine s_Fin.cl (d := 0) (q1 := s_m48) (md := 48) (vs := [.ref 3, .int (g.1 30 k2)]) (rest := []) (h1 := s_hg g) (u := some (.int v10)) (s_Ev.up (by omega) (fP_hasEvent_3_s hp)) rfl rfl rfl rfl ?_
            by_cases hc : v10 = 0
            · rw [if_pos hc] at hB
              refine s_Fin.bt (c := v10 = 0) (tg := 141) (p2 := 120) (L1 := [some (.ref 27), some (.ref 17), some (.int x2), some (.int x3), some (va_rf (g.2.2 28 k2)), some (.int (g.1 30 k2)), none]) (st1 := []) hc rfl ?_
              refine s_Fin.sg 1 (y := (142, [some (.ref 27), some (.ref 17), some (.int x2), some (.int x3), some (va_rf (g.2.2 28 k2)), some (.int (g.1 30 k2)), none], [.int (0 : Int32)], s_hg g)) rfl ?_
              have hB := Option.some.inj hB
              subst hB
              obtain ⟨rfl, rfl⟩ := hr
              exact s_Fin.rt rfl rfl
            · rw [if_neg hc] at hB
              refine s_Fin.bf (c := v10 = 0) (tg := 141) (p2 := 120) (L1 := [some (.ref 27), some (.ref 17), some (.int x2), some (.int x3), some (va_rf (g.2.2 28 k2)), some (.int (g.1 30 k2)), none]) (st1 := []) hc rfl ?_
              refine s_Fin.sg 4 (y := (132, [some (.ref 27), some (.ref 17), some (.int x2), some (.int x3), some (va_rf (g.2.2 28 k2)), some (.int (g.1 30 k2)), none], [.int (g.1 30 k2), .ref 6], s_hg g)) rfl ?_
              obtain ⟨k12, hk12, hB⟩ := s_bd hB
              refine s_Fin.ix (n := 10) (i := g.1 30 k2) (pc1 := 133) (L1 := [some (.ref 27), some (.ref 17), some (.int x2), some (.int x3), some (va_rf (g.2.2 28 k2)), some (.int (g.1 30 k2)), none]) (fun j11 => [.int (g.1 6 j11)]) (fun j11 => s_hg g) hk12 rfl rfl ?_
              refine s_Fin.sg 1 (y := (134, [some (.ref 27), some (.ref 17), some (.int x2), some (.int x3), some (va_rf (g.2.2 28 k2)), some (.int (g.1 30 k2)), none], [.int x3, .int (g.1 6 k12)], s_hg g)) rfl ?_
              by_cases hc : (g.1 6 k12) = x3
              · rw [if_pos hc] at hB
                refine s_Fin.bf (c := ¬ (g.1 6 k12) = x3) (tg := 141) (p2 := 134) (L1 := [some (.ref 27), some (.ref 17), some (.int x2), some (.int x3), some (va_rf (g.2.2 28 k2)), some (.int (g.1 30 k2)), none]) (st1 := []) (fun h => h hc) rfl ?_
                refine s_Fin.sg 2 (y := (142, [some (.ref 27), some (.ref 17), some (.int x2), some (.int x3), some (va_rf (g.2.2 28 k2)), some (.int (g.1 30 k2)), none], [.int (1 : Int32)], s_hg g)) rfl ?_
                have hB := Option.some.inj hB
                subst hB
                obtain ⟨rfl, rfl⟩ := hr
                exact s_Fin.rt rfl rfl
              · rw [if_neg hc] at hB
                refine s_Fin.bt (c := ¬ (g.1 6 k12) = x3) (tg := 141) (p2 := 134) (L1 := [some (.ref 27), some (.ref 17), some (.int x2), some (.int x3), some (va_rf (g.2.2 28 k2)), some (.int (g.1 30 k2)), none]) (st1 := []) hc rfl ?_
                refine s_Fin.sg 1 (y := (142, [some (.ref 27), some (.ref 17), some (.int x2), some (.int x3), some (va_rf (g.2.2 28 k2)), some (.int (g.1 30 k2)), none], [.int (0 : Int32)], s_hg g)) rfl ?_
                have hB := Option.some.inj hB
                subst hB
                obtain ⟨rfl, rfl⟩ := hr
                exact s_Fin.rt rfl rfl
          · rw [if_neg hc] at hB
            refine s_Fin.nx (pc1 := 143) (L1 := [some (.ref 27), some (.ref 17), some (.int x2), some (.int x3), some (va_rf (g.2.2 28 k2)), some (.int (g.1 30 k2)), none]) (st1 := []) (h1 := s_hg g) ((show _ = s_acN 143 108 [some (.ref 27), some (.ref 17), some (.int x2), some (.int x3), some (va_rf (g.2.2 28 k2)), some (.int (g.1 30 k2)), none] [] (s_hg g) (.ref 1024) (va_rf (g.2.2 28 k2)) from rfl).trans (s_acN_f hw rfl hc)) rfl ?_
            refine s_Fin.sg 1 (y := (144, [some (.ref 27), some (.ref 17), some (.int x2), some (.int x3), some (va_rf (g.2.2 28 k2)), some (.int (g.1 30 k2)), none], [.ref 17], s_hg g)) rfl ?_
            refine s_Fin.nx (pc1 := 146) (L1 := [some (.ref 27), some (.ref 17), some (.int x2), some (.int x3), some (va_rf (g.2.2 28 k2)), some (.int (g.1 30 k2)), none]) (st1 := [va_rf (g.2.2 28 k2), .ref 17]) (h1 := s_hg g) (by generalize (g.2.2 28 k2) = w; cases w <;> exact rfl) rfl ?_
            refine s_Fin.sg 1 (y := (147, [some (.ref 27), some (.ref 17), some (.int x2), some (.int x3), some (va_rf (g.2.2 28 k2)), some (.int (g.1 30 k2)), none], [.int x3, va_rf (g.2.2 28 k2), .ref 17], s_hg g)) rfl ?_
            obtain ⟨v13, hp, hB⟩ := s_bd hB
            refine s_Fin.cl (d := 0) (q1 := s_m149) (md := 149) (vs := [.ref 17, va_rf (g.2.2 28 k2), .int x3]) (rest := []) (h1 := s_hg g) (u := some (.int v13)) (s_Ev.up (by omega) (fS_measure_17_s hp)) rfl rfl rfl (by generalize (g.2.2 28 k2) = w1; cases w1 <;> rfl) ?_
            refine s_Fin.sg 4 (y := (157, [some (.ref 27), some (.ref 17), some (.int x2), some (.int x3), some (va_rf (g.2.2 28 k2)), some (.int (g.1 30 k2)), some (.int v13)], [.int x2, .ref 29], s_hg g)) rfl ?_
            refine s_Fin.ix (n := 40) (i := x2) (pc1 := 158) (L1 := [some (.ref 27), some (.ref 17), some (.int x2), some (.int x3), some (va_rf (g.2.2 28 k2)), some (.int (g.1 30 k2)), some (.int v13)]) (fun j14 => [.int (g.1 29 j14)]) (fun j14 => s_hg g) hk2 rfl rfl ?_
            refine s_Fin.sg 1 (y := (160, [some (.ref 27), some (.ref 17), some (.int x2), some (.int x3), some (va_rf (g.2.2 28 k2)), some (.int (g.1 30 k2)), some (.int v13)], [.int (60 : Int32), .int (g.1 29 k2)], s_hg g)) rfl ?_
            by_cases hc : (g.1 29 k2) = (60 : Int32)
            · rw [if_pos hc] at hB
              refine s_Fin.bf (c := ¬ (g.1 29 k2) = (60 : Int32)) (tg := 176) (p2 := 160) (L1 := [some (.ref 27), some (.ref 17), some (.int x2), some (.int x3), some (va_rf (g.2.2 28 k2)), some (.int (g.1 30 k2)), some (.int v13)]) (st1 := []) (fun h => h hc) rfl ?_
              refine s_Fin.sg 2 (y := (167, [some (.ref 27), some (.ref 17), some (.int x2), some (.int x3), some (va_rf (g.2.2 28 k2)), some (.int (g.1 30 k2)), some (.int v13)], [.int (g.1 30 k2), .int v13], s_hg g)) rfl ?_
              by_cases hc : v13 < (g.1 30 k2)
              · rw [if_pos hc] at hB
                refine s_Fin.bf (c := (g.1 30 k2) ≤ v13) (tg := 174) (p2 := 167) (L1 := [some (.ref 27), some (.ref 17), some (.int x2), some (.int x3), some (va_rf (g.2.2 28 k2)), some (.int (g.1 30 k2)), some (.int v13)]) (st1 := []) (Int32.not_le.mpr hc) rfl ?_
                refine s_Fin.sg 2 (y := (175, [some (.ref 27), some (.ref 17), some (.int x2), some (.int x3), some (va_rf (g.2.2 28 k2)), some (.int (g.1 30 k2)), some (.int v13)], [.int (1 : Int32)], s_hg g)) rfl ?_
                have hB := Option.some.inj hB
                subst hB
                obtain ⟨rfl, rfl⟩ := hr
                exact s_Fin.rt rfl rfl
              · rw [if_neg hc] at hB
                refine s_Fin.bt (c := (g.1 30 k2) ≤ v13) (tg := 174) (p2 := 167) (L1 := [some (.ref 27), some (.ref 17), some (.int x2), some (.int x3), some (va_rf (g.2.2 28 k2)), some (.int (g.1 30 k2)), some (.int v13)]) (st1 := []) (Int32.not_lt.mp hc) rfl ?_
                refine s_Fin.sg 1 (y := (175, [some (.ref 27), some (.ref 17), some (.int x2), some (.int x3), some (va_rf (g.2.2 28 k2)), some (.int (g.1 30 k2)), some (.int v13)], [.int (0 : Int32)], s_hg g)) rfl ?_
                have hB := Option.some.inj hB
                subst hB
                obtain ⟨rfl, rfl⟩ := hr
                exact s_Fin.rt rfl rfl
            · rw [if_neg hc] at hB
              refine s_Fin.bt (c := ¬ (g.1 29 k2) = (60 : Int32)) (tg := 176) (p2 := 160) (L1 := [some (.ref 27), some (.ref 17), some (.int x2), some (.int x3), some (va_rf (g.2.2 28 k2)), some (.int (g.1 30 k2)), some (.int v13)]) (st1 := []) hc rfl ?_
              refine s_Fin.sg 3 (y := (181, [some (.ref 27), some (.ref 17), some (.int x2), some (.int x3), some (va_rf (g.2.2 28 k2)), some (.int (g.1 30 k2)), some (.int v13)], [.int x2, .ref 29], s_hg g)) rfl ?_
              refine s_Fin.ix (n := 40) (i := x2) (pc1 := 182) (L1 := [some (.ref 27), some (.ref 17), some (.int x2), some (.int x3), some (va_rf (g.2.2 28 k2)), some (.int (g.1 30 k2)), some (.int v13)]) (fun j15 => [.int (g.1 29 j15)]) (fun j15 => s_hg g) hk2 rfl rfl ?_
              refine s_Fin.sg 1 (y := (184, [some (.ref 27), some (.ref 17), some (.int x2), some (.int x3), some (va_rf (g.2.2 28 k2)), some (.int (g.1 30 k2)), some (.int v13)], [.int (62 : Int32), .int (g.1 29 k2)], s_hg g)) rfl ?_
              by_cases hc : (g.1 29 k2) = (62 : Int32)
              · rw [if_pos hc] at hB
                refine s_Fin.bf (c := ¬ (g.1 29 k2) = (62 : Int32)) (tg := 202) (p2 := 184) (L1 := [some (.ref 27), some (.ref 17), some (.int x2), some (.int x3), some (va_rf (g.2.2 28 k2)), some (.int (g.1 30 k2)), some (.int v13)]) (st1 := []) (fun h => h hc) rfl ?_
                refine s_Fin.sg 2 (y := (191, [some (.ref 27), some (.ref 17), some (.int x2), some (.int x3), some (va_rf (g.2.2 28 k2)), some (.int (g.1 30 k2)), some (.int v13)], [.int (g.1 30 k2), .int v13], s_hg g)) rfl ?_
                by_cases hc : (g.1 30 k2) < v13
                · rw [if_pos hc] at hB
                  refine s_Fin.bf (c := v13 ≤ (g.1 30 k2)) (tg := 198) (p2 := 191) (L1 := [some (.ref 27), some (.ref 17), some (.int x2), some (.int x3), some (va_rf (g.2.2 28 k2)), some (.int (g.1 30 k2)), some (.int v13)]) (st1 := []) (Int32.not_le.mpr hc) rfl ?_
                  refine s_Fin.sg 2 (y := (214, [some (.ref 27), some (.ref 17), some (.int x2), some (.int x3), some (va_rf (g.2.2 28 k2)), some (.int (g.1 30 k2)), some (.int v13)], [.int (1 : Int32)], s_hg g)) rfl ?_
                  have hB := Option.some.inj hB
                  subst hB
                  obtain ⟨rfl, rfl⟩ := hr
                  exact s_Fin.rt rfl rfl
                · rw [if_neg hc] at hB
                  refine s_Fin.bt (c := v13 ≤ (g.1 30 k2)) (tg := 198) (p2 := 191) (L1 := [some (.ref 27), some (.ref 17), some (.int x2), some (.int x3), some (va_rf (g.2.2 28 k2)), some (.int (g.1 30 k2)), some (.int v13)]) (st1 := []) (Int32.not_lt.mp hc) rfl ?_
                  refine s_Fin.sg 2 (y := (214, [some (.ref 27), some (.ref 17), some (.int x2), some (.int x3), some (va_rf (g.2.2 28 k2)), some (.int (g.1 30 k2)), some (.int v13)], [.int (0 : Int32)], s_hg g)) rfl ?_
                  have hB := Option.some.inj hB
                  subst hB
                  obtain ⟨rfl, rfl⟩ := hr
                  exact s_Fin.rt rfl rfl
              · rw [if_neg hc] at hB
                refine s_Fin.bt (c := ¬ (g.1 29 k2) = (62 : Int32)) (tg := 202) (p2 := 184) (L1 := [some (.ref 27), some (.ref 17), some (.int x2), some (.int x3), some (va_rf (g.2.2 28 k2)), some (.int (g.1 30 k2)), some (.int v13)]) (st1 := []) hc rfl ?_
                refine s_Fin.sg 2 (y := (206, [some (.ref 27), some (.ref 17), some (.int x2), some (.int x3), some (va_rf (g.2.2 28 k2)), some (.int (g.1 30 k2)), some (.int v13)], [.int (g.1 30 k2), .int v13], s_hg g)) rfl ?_
                by_cases hc : v13 = (g.1 30 k2)
                · rw [if_pos hc] at hB
                  refine s_Fin.bf (c := ¬ v13 = (g.1 30 k2)) (tg := 213) (p2 := 206) (L1 := [some (.ref 27), some (.ref 17), some (.int x2), some (.int x3), some (va_rf (g.2.2 28 k2)), some (.int (g.1 30 k2)), some (.int v13)]) (st1 := []) (fun h => h hc) rfl ?_
                  refine s_Fin.sg 2 (y := (214, [some (.ref 27), some (.ref 17), some (.int x2), some (.int x3), some (va_rf (g.2.2 28 k2)), some (.int (g.1 30 k2)), some (.int v13)], [.int (1 : Int32)], s_hg g)) rfl ?_
                  have hB := Option.some.inj hB
                  subst hB
                  obtain ⟨rfl, rfl⟩ := hr
                  exact s_Fin.rt rfl rfl
                · rw [if_neg hc] at hB
                  refine s_Fin.bt (c := ¬ v13 = (g.1 30 k2)) (tg := 213) (p2 := 206) (L1 := [some (.ref 27), some (.ref 17), some (.int x2), some (.int x3), some (va_rf (g.2.2 28 k2)), some (.int (g.1 30 k2)), some (.int v13)]) (st1 := []) hc rfl ?_
                  refine s_Fin.sg 1 (y := (214, [some (.ref 27), some (.ref 17), some (.int x2), some (.int x3), some (va_rf (g.2.2 28 k2)), some (.int (g.1 30 k2)), some (.int v13)], [.int (0 : Int32)], s_hg g)) rfl ?_
                  have hB := Option.some.inj hB
                  subst hB
                  obtain ⟨rfl, rfl⟩ := hr
                  exact s_Fin.rt rfl rfl
-- CampAshes$Sentence.boysOfStep
noncomputable def fS_boysOfStep_27_17_5 (x2 : Int32) (x3 : Int32) (x4 : Int32) (g : s_G) : Option ((Int32 × Int32) ⊕ (Int32)) :=
  if x4 < (g.1 3 0) then (s_b1 (fS_holds_27_17 x2 x4 g) fun v1 => if v1 = 0 then (some (.inl (x3, x4 + (1 : Int32))))
  else some (.inl (x3 ||| ((1 : Int32) <<< (x4 &&& 31)), x4 + (1 : Int32))))
  else s_in (some x3)
theorem fS_boysOfStep_27_17_5_s {x2 : Int32} {x3 : Int32} {x4 : Int32} {g : s_G} {z : (Int32 × Int32) ⊕ (Int32)} (hB : fS_boysOfStep_27_17_5 x2 x3 x4 g = some z) {v : Option Value} {h' : s_H} (hr : (s_sm (fun (x : Int32 × Int32) (v : Option Value) (h' : s_H) => s_Fin 2 s_m147 (5, [some (.ref 27), some (.ref 17), some (.int x2), some (.int x.1), some (.int x.2)], [], s_hg g) v h') (fun (z : Int32) (v : Option Value) (h' : s_H) => v = some (.int z) ∧ h' = s_hg g)) z v h') : s_Fin 2 s_m147 (5, [some (.ref 27), some (.ref 17), some (.int x2), some (.int x3), some (.int x4)], [], s_hg g) v h' := by
  unfold fS_boysOfStep_27_17_5 at hB
  refine s_Fin.sg 4 (y := (14, [some (.ref 27), some (.ref 17), some (.int x2), some (.int x3), some (.int x4)], [.int (g.1 3 0), .int x4], s_hg g)) rfl ?_
  by_cases hc : x4 < (g.1 3 0)
  · rw [if_pos hc] at hB
    refine s_Fin.bf (c := (g.1 3 0) ≤ x4) (tg := 41) (p2 := 14) (L1 := [some (.ref 27), some (.ref 17), some (.int x2), some (.int x3), some (.int x4)]) (st1 := []) (Int32.not_le.mpr hc) rfl ?_
    refine s_Fin.sg 4 (y := (22, [some (.ref 27), some (.ref 17), some (.int x2), some (.int x3), some (.int x4)], [.int x4, .int x2, .ref 17, .ref 27], s_hg g)) rfl ?_
    obtain ⟨v1, hp, hB⟩ := s_bd hB
    refine s_Fin.cl (d := 1) (q1 := s_m148) (md := 148) (vs := [.ref 27, .ref 17, .int x2, .int x4]) (rest := []) (h1 := s_hg g) (u := some (.int v1)) (s_Ev.up (by omega) (fS_holds_27_17_s hp)) rfl rfl rfl rfl ?_
    by_cases hc : v1 = 0
    · rw [if_pos hc] at hB
      refine s_Fin.bt (c := v1 = 0) (tg := 35) (p2 := 25) (L1 := [some (.ref 27), some (.ref 17), some (.int x2), some (.int x3), some (.int x4)]) (st1 := []) hc rfl ?_
      refine s_Fin.sg 2 (y := (5, [some (.ref 27), some (.ref 17), some (.int x2), some (.int x3), some (.int (x4 + (1 : Int32)))], [], s_hg g)) rfl ?_
      have hB := Option.some.inj hB
      subst hB
      exact s_Fin.more (L := [some (.ref 27), some (.ref 17), some (.int x2), some (.int x3), some (.int (x4 + (1 : Int32)))]) ⟨Or.inr rfl, Or.inr rfl, Or.inr rfl, Or.inr rfl, Or.inr rfl, trivial⟩ hr
    · rw [if_neg hc] at hB
      refine s_Fin.bf (c := v1 = 0) (tg := 35) (p2 := 25) (L1 := [some (.ref 27), some (.ref 17), some (.int x2), some (.int x3), some (.int x4)]) (st1 := []) hc rfl ?_
      refine s_Fin.sg 8 (y := (5, [some (.ref 27), some (.ref 17), some (.int x2), some (.int (x3 ||| ((1 : Int32) <<< (x4 &&& 31)))), some (.int (x4 + (1 : Int32)))], [], s_hg g)) rfl ?_
      have hB := Option.some.inj hB
      subst hB
      exact s_Fin.more (L := [some (.ref 27), some (.ref 17), some (.int x2), some (.int (x3 ||| ((1 : Int32) <<< (x4 &&& 31)))), some (.int (x4 + (1 : Int32)))]) ⟨Or.inr rfl, Or.inr rfl, Or.inr rfl, Or.inr rfl, Or.inr rfl, trivial⟩ hr
  · rw [if_neg hc] at hB
    refine s_Fin.bt (c := (g.1 3 0) ≤ x4) (tg := 41) (p2 := 14) (L1 := [some (.ref 27), some (.ref 17), some (.int x2), some (.int x3), some (.int x4)]) (st1 := []) (Int32.not_lt.mp hc) rfl ?_
    obtain ⟨_, hN, hz⟩ := s_in_of hB
    subst hz
    have hB := hN
    refine s_Fin.sg 1 (y := (42, [some (.ref 27), some (.ref 17), some (.int x2), some (.int x3), some (.int x4)], [.int x3], s_hg g)) rfl ?_
    have hB := Option.some.inj hB
    subst hB
    obtain ⟨rfl, rfl⟩ := hr
    exact s_Fin.rt rfl rfl
noncomputable def fS_boysOfStep_27_17 (x2 : Int32) (g : s_G) : Option (Int32) :=
  s_lp (fun x => fS_boysOfStep_27_17_5 x2 x.1 x.2 g) ((0 : Int32), (0 : Int32))
theorem fS_boysOfStep_27_17_s {x2 : Int32} {g : s_G} {z : Int32} (hB : fS_boysOfStep_27_17 x2 g = some z) : s_Ev 2 s_m147 [.ref 27, .ref 17, .int x2] (s_hg g) (some (.int z)) (s_hg g) := by
  unfold fS_boysOfStep_27_17 at hB
  refine s_Ev.fin ((?_ : ∀ (v : Option Value) (h' : s_H), (fun (z : Int32) (v : Option Value) (h' : s_H) => v = some (.int z) ∧ h' = s_hg g) z v h' → s_Fin 2 s_m147 (0, s_ent [.ref 27, .ref 17, .int x2] (s_m147).2.2.1, [], s_hg g) v h') _ _ ⟨rfl, rfl⟩)
  intro v h' hr
  refine (show s_Fin 2 s_m147 (0, [some (.ref 27), some (.ref 17), some (.int x2), none, none], [], s_hg g) v h' from ?_)
  refine s_Fin.sg 4 (y := (5, [some (.ref 27), some (.ref 17), some (.int x2), some (.int (0 : Int32)), some (.int (0 : Int32))], [], s_hg g)) rfl ?_
  exact s_Fin.more (L := [some (.ref 27), some (.ref 17), some (.int x2), some (.int (0 : Int32)), some (.int (0 : Int32))]) ⟨Or.inr rfl, Or.inr rfl, Or.inr rfl, Or.inr rfl, Or.inr rfl, trivial⟩ (s_lp_s (P := (fun (x : Int32 × Int32) (v : Option Value) (h' : s_H) => s_Fin 2 s_m147 (5, [some (.ref 27), some (.ref 17), some (.int x2), some (.int x.1), some (.int x.2)], [], s_hg g) v h')) (Q := (fun (z : Int32) (v : Option Value) (h' : s_H) => v = some (.int z) ∧ h' = s_hg g)) (fun x z hB v h' hr => fS_boysOfStep_27_17_5_s hB hr) hB _ _ hr)
