-- CampAshesModel.readSaid
noncomputable def fM_readSaid_130_166 (K : s_G → Option (Int32 × s_G)) (x3 : Int32) (g : s_G) : Option (Int32 × s_G) :=
  if x3 = 0 ∨ x3 = 1 then some (x3, (s_si g 130 46 ((g.1 130 46) - (1 : Int32))))
  else none
theorem fM_readSaid_130_166_s {K : s_G → Option (Int32 × s_G)} {e : Nat} (he : 40 ≤ e) (hK : ∀ (g : s_G) (z : Int32 × s_G), K g = some z → s_Ev e s_m270 [.ref 130] (s_hg g) (some (.int z.1)) (s_hg z.2)) {x3 : Int32} {g : s_G} {z : Int32 × s_G} (hB : fM_readSaid_130_166 K x3 g = some z) {v : Option Value} {h' : s_H} (hr : (fun (z : Int32 × s_G) (v : Option Value) (h' : s_H) => v = some (.int z.1) ∧ h' = s_hg z.2) z v h') : s_Fin (e + 4) s_m270 (166, [some (.ref 130), none, none, some (.int x3)], [], s_hg g) v h' := by
  unfold fM_readSaid_130_166 at hB
  refine s_Fin.sg 7 (y := (177, [some (.ref 130), none, none, some (.int x3)], [.int x3], s_hg (s_si g 130 46 ((g.1 130 46) - (1 : Int32))))) rfl ?_
  have hc : x3 = 0 ∨ x3 = 1 := Classical.byContradiction fun h => (by rw [if_neg h] at hB; cases hB)
  rw [if_pos hc] at hB
  have hB := Option.some.inj hB
  subst hB
  obtain ⟨rfl, rfl⟩ := hr
  exact s_Fin.rt (by rcases hc with hc | hc <;> rw [hc] <;> exact rfl) rfl
noncomputable def fM_readSaid_130_165 (K : s_G → Option (Int32 × s_G)) (t0 : Int32) (g : s_G) : Option (Int32 × s_G) :=
  fM_readSaid_130_166 K t0 g
theorem fM_readSaid_130_165_s {K : s_G → Option (Int32 × s_G)} {e : Nat} (he : 40 ≤ e) (hK : ∀ (g : s_G) (z : Int32 × s_G), K g = some z → s_Ev e s_m270 [.ref 130] (s_hg g) (some (.int z.1)) (s_hg z.2)) {t0 : Int32} {g : s_G} {z : Int32 × s_G} (hB : fM_readSaid_130_165 K t0 g = some z) {v : Option Value} {h' : s_H} (hr : (fun (z : Int32 × s_G) (v : Option Value) (h' : s_H) => v = some (.int z.1) ∧ h' = s_hg z.2) z v h') : s_Fin (e + 4) s_m270 (165, [some (.ref 130), none, none, none], [.int t0], s_hg g) v h' := by
  unfold fM_readSaid_130_165 at hB
  refine s_Fin.sg 1 (y := (166, [some (.ref 130), none, none, some (.int t0)], [], s_hg g)) rfl ?_
  exact s_Fin.more (L := [some (.ref 130), none, none, some (.int t0)]) ⟨Or.inr rfl, Or.inl rfl, Or.inl rfl, Or.inr rfl, trivial⟩ (fM_readSaid_130_166_s he hK hB hr)
noncomputable def fM_readSaid_130_46 (K : s_G → Option (Int32 × s_G)) (x1 : Int32) (x2 : Int32) (g : s_G) : Option (Int32 × s_G) :=
  if (g.1 130 45) = (20 : Int32) then (s_b2 (fM_bad_130 (4 : Int32) g) fun v5 g4 => if v5 = 0 ∨ v5 = 1 then some (v5, g4)
  else none)
  else if (g.1 130 46) = (8 : Int32) then (s_b2 (fM_bad_130 (4 : Int32) g) fun v7 g6 => if v7 = 0 ∨ v7 = 1 then some (v7, g6)
  else none)
  else s_b1 (fM_go_130 (s_si (s_si g 130 45 ((g.1 130 45) + (1 : Int32))) 130 46 ((g.1 130 46) + (1 : Int32)))) fun g8 => if x1 = 0 then (if x2 = (19 : Int32) then (s_b2 (fM_readNot_130 K g8) fun v10 g9 => fM_readSaid_130_166 K v10 g9)
  else if x2 < (23 : Int32) then (s_b2 (fM_saysOne_130 ((50 : Int32) + x2) (0 : Int32) (0 : Int32) (0 : Int32) g8) fun v12 g11 => fM_readSaid_130_166 K (1 : Int32) (s_si g11 130 47 v12))
  else if x2 < (25 : Int32) then (s_b2 (fM_readOf_130 x2 g8) fun v14 g13 => fM_readSaid_130_165 K v14 g13)
  else s_b2 (fM_readCompare_130 x2 g8) fun v16 g15 => fM_readSaid_130_165 K v16 g15)
  else s_b2 (fM_readBracket_130 K g8) fun v18 g17 => fM_readSaid_130_166 K v18 g17
theorem fM_readSaid_130_46_s {K : s_G → Option (Int32 × s_G)} {e : Nat} (he : 40 ≤ e) (hK : ∀ (g : s_G) (z : Int32 × s_G), K g = some z → s_Ev e s_m270 [.ref 130] (s_hg g) (some (.int z.1)) (s_hg z.2)) {x1 : Int32} {x2 : Int32} {g : s_G} {z : Int32 × s_G} (hB : fM_readSaid_130_46 K x1 x2 g = some z) {v : Option Value} {h' : s_H} (hr : (fun (z : Int32 × s_G) (v : Option Value) (h' : s_H) => v = some (.int z.1) ∧ h' = s_hg z.2) z v h') : s_Fin (e + 4) s_m270 (46, [some (.ref 130), some (.int x1), some (.int x2), none], [], s_hg g) v h' := by
  unfold fM_readSaid_130_46 at hB
  refine s_Fin.sg 3 (y := (52, [some (.ref 130), some (.int x1), some (.int x2), none], [.int (20 : Int32), .int (g.1 130 45)], s_hg g)) rfl ?_
  by_cases hc : (g.1 130 45) = (20 : Int32)
  · rw [if_pos hc] at hB
    refine s_Fin.bt (c := (g.1 130 45) = (20 : Int32)) (tg := 64) (p2 := 52) (L1 := [some (.ref 130), some (.int x1), some (.int x2), none]) (st1 := []) hc rfl ?_
    refine s_Fin.sg 2 (y := (66, [some (.ref 130), some (.int x1), some (.int x2), none], [.int (4 : Int32), .ref 130], s_hg g)) rfl ?_
    obtain ⟨v5, g4, hp, hB⟩ := s_bd2 hB
    refine s_Fin.cl (d := e + 3) (q1 := s_m176) (md := 176) (vs := [.ref 130, .int (4 : Int32)]) (rest := []) (h1 := s_hg g4) (u := some (.int v5)) (s_Ev.up (by omega) (fM_bad_130_s hp)) rfl rfl rfl rfl ?_
    have hc : v5 = 0 ∨ v5 = 1 := Classical.byContradiction fun h => (by rw [if_neg h] at hB; cases hB)
    rw [if_pos hc] at hB
    have hB := Option.some.inj hB
    subst hB
    obtain ⟨rfl, rfl⟩ := hr
    exact s_Fin.rt (by rcases hc with hc | hc <;> rw [hc] <;> exact rfl) rfl
  · rw [if_neg hc] at hB
    refine s_Fin.bf (c := (g.1 130 45) = (20 : Int32)) (tg := 64) (p2 := 52) (L1 := [some (.ref 130), some (.int x1), some (.int x2), none]) (st1 := []) hc rfl ?_
    refine s_Fin.sg 3 (y := (61, [some (.ref 130), some (.int x1), some (.int x2), none], [.int (8 : Int32), .int (g.1 130 46)], s_hg g)) rfl ?_
    by_cases hc : (g.1 130 46) = (8 : Int32)
    · rw [if_pos hc] at hB
      refine s_Fin.bf (c := ¬ (g.1 130 46) = (8 : Int32)) (tg := 70) (p2 := 61) (L1 := [some (.ref 130), some (.int x1), some (.int x2), none]) (st1 := []) (fun h => h hc) rfl ?_
      refine s_Fin.sg 2 (y := (66, [some (.ref 130), some (.int x1), some (.int x2), none], [.int (4 : Int32), .ref 130], s_hg g)) rfl ?_
      obtain ⟨v7, g6, hp, hB⟩ := s_bd2 hB
      refine s_Fin.cl (d := e + 3) (q1 := s_m176) (md := 176) (vs := [.ref 130, .int (4 : Int32)]) (rest := []) (h1 := s_hg g6) (u := some (.int v7)) (s_Ev.up (by omega) (fM_bad_130_s hp)) rfl rfl rfl rfl ?_
      have hc : v7 = 0 ∨ v7 = 1 := Classical.byContradiction fun h => (by rw [if_neg h] at hB; cases hB)
      rw [if_pos hc] at hB
      have hB := Option.some.inj hB
      subst hB
      obtain ⟨rfl, rfl⟩ := hr
      exact s_Fin.rt (by rcases hc with hc | hc <;> rw [hc] <;> exact rfl) rfl
    · rw [if_neg hc] at hB
      refine s_Fin.bt (c := ¬ (g.1 130 46) = (8 : Int32)) (tg := 70) (p2 := 61) (L1 := [some (.ref 130), some (.int x1), some (.int x2), none]) (st1 := []) hc rfl ?_
      refine s_Fin.sg 13 (y := (91, [some (.ref 130), some (.int x1), some (.int x2), none], [.ref 130], s_hg (s_si (s_si g 130 45 ((g.1 130 45) + (1 : Int32))) 130 46 ((g.1 130 46) + (1 : Int32))))) rfl ?_
      obtain ⟨g8, hp, hB⟩ := s_bd hB
      refine s_Fin.cl (d := e + 3) (q1 := s_m166) (md := 166) (vs := [.ref 130]) (rest := []) (h1 := s_hg g8) (u := none) (s_Ev.up (by omega) (fM_go_130_s hp)) rfl rfl rfl rfl ?_
      refine s_Fin.sg 3 (y := (97, [some (.ref 130), some (.int x1), some (.int x2), some (.int (1 : Int32))], [.int x1], s_hg g8)) rfl ?_
      by_cases hc : x1 = 0
      · rw [if_pos hc] at hB
        refine s_Fin.bt (c := x1 = 0) (tg := 108) (p2 := 97) (L1 := [some (.ref 130), some (.int x1), some (.int x2), some (.int (1 : Int32))]) (st1 := []) hc rfl ?_
        refine s_Fin.sg 2 (y := (111, [some (.ref 130), some (.int x1), some (.int x2), some (.int (1 : Int32))], [.int (19 : Int32), .int x2], s_hg g8)) rfl ?_
        by_cases hc : x2 = (19 : Int32)
        · rw [if_pos hc] at hB
          refine s_Fin.bf (c := ¬ x2 = (19 : Int32)) (tg := 122) (p2 := 111) (L1 := [some (.ref 130), some (.int x1), some (.int x2), some (.int (1 : Int32))]) (st1 := []) (fun h => h hc) rfl ?_
          refine s_Fin.sg 1 (y := (115, [some (.ref 130), some (.int x1), some (.int x2), some (.int (1 : Int32))], [.ref 130], s_hg g8)) rfl ?_
          obtain ⟨v10, g9, hp, hB⟩ := s_bd2 hB
          refine s_Fin.cl (d := e + 3) (q1 := s_m272) (md := 272) (vs := [.ref 130]) (rest := []) (h1 := s_hg g9) (u := some (.int v10)) (s_Ev.up (by omega) (fM_readNot_130_s he hK hp)) rfl rfl rfl rfl ?_
          refine s_Fin.sg 2 (y := (166, [some (.ref 130), some (.int x1), some (.int x2), some (.int v10)], [], s_hg g9)) rfl ?_
          exact s_Fin.more (L := [some (.ref 130), none, none, some (.int v10)]) ⟨Or.inr rfl, Or.inl rfl, Or.inl rfl, Or.inr rfl, trivial⟩ (fM_readSaid_130_166_s he hK hB hr)
        · rw [if_neg hc] at hB
          refine s_Fin.bt (c := ¬ x2 = (19 : Int32)) (tg := 122) (p2 := 111) (L1 := [some (.ref 130), some (.int x1), some (.int x2), some (.int (1 : Int32))]) (st1 := []) hc rfl ?_
          refine s_Fin.sg 2 (y := (125, [some (.ref 130), some (.int x1), some (.int x2), some (.int (1 : Int32))], [.int (23 : Int32), .int x2], s_hg g8)) rfl ?_
          by_cases hc : x2 < (23 : Int32)
          · rw [if_pos hc] at hB
            refine s_Fin.bf (c := (23 : Int32) ≤ x2) (tg := 146) (p2 := 125) (L1 := [some (.ref 130), some (.int x1), some (.int x2), some (.int (1 : Int32))]) (st1 := []) (Int32.not_le.mpr hc) rfl ?_
            refine s_Fin.sg 8 (y := (137, [some (.ref 130), some (.int x1), some (.int x2), some (.int (1 : Int32))], [.int (0 : Int32), .int (0 : Int32), .int (0 : Int32), .int ((50 : Int32) + x2), .ref 130, .ref 130], s_hg g8)) rfl ?_
            obtain ⟨v12, g11, hp, hB⟩ := s_bd2 hB
            refine s_Fin.cl (d := e + 3) (q1 := s_m273) (md := 273) (vs := [.ref 130, .int ((50 : Int32) + x2), .int (0 : Int32), .int (0 : Int32), .int (0 : Int32)]) (rest := [.ref 130]) (h1 := s_hg g11) (u := some (.int v12)) (s_Ev.up (by omega) (fM_saysOne_130_s hp)) rfl rfl rfl rfl ?_
            refine s_Fin.sg 2 (y := (166, [some (.ref 130), some (.int x1), some (.int x2), some (.int (1 : Int32))], [], s_hg (s_si g11 130 47 v12))) rfl ?_
            exact s_Fin.more (L := [some (.ref 130), none, none, some (.int (1 : Int32))]) ⟨Or.inr rfl, Or.inl rfl, Or.inl rfl, Or.inr rfl, trivial⟩ (fM_readSaid_130_166_s he hK hB hr)
          · rw [if_neg hc] at hB
            refine s_Fin.bt (c := (23 : Int32) ≤ x2) (tg := 146) (p2 := 125) (L1 := [some (.ref 130), some (.int x1), some (.int x2), some (.int (1 : Int32))]) (st1 := []) (Int32.not_lt.mp hc) rfl ?_
            refine s_Fin.sg 2 (y := (149, [some (.ref 130), some (.int x1), some (.int x2), some (.int (1 : Int32))], [.int (25 : Int32), .int x2], s_hg g8)) rfl ?_
            by_cases hc : x2 < (25 : Int32)
            · rw [if_pos hc] at hB
              refine s_Fin.bf (c := (25 : Int32) ≤ x2) (tg := 160) (p2 := 149) (L1 := [some (.ref 130), some (.int x1), some (.int x2), some (.int (1 : Int32))]) (st1 := []) (Int32.not_le.mpr hc) rfl ?_
              refine s_Fin.sg 2 (y := (154, [some (.ref 130), some (.int x1), some (.int x2), some (.int (1 : Int32))], [.int x2, .ref 130], s_hg g8)) rfl ?_
              obtain ⟨v14, g13, hp, hB⟩ := s_bd2 hB
              refine s_Fin.cl (d := e + 3) (q1 := s_m274) (md := 274) (vs := [.ref 130, .int x2]) (rest := []) (h1 := s_hg g13) (u := some (.int v14)) (s_Ev.up (by omega) (fM_readOf_130_s hp)) rfl rfl rfl rfl ?_
              refine s_Fin.sg 1 (y := (165, [some (.ref 130), some (.int x1), some (.int x2), some (.int (1 : Int32))], [.int v14], s_hg g13)) rfl ?_
              exact s_Fin.more (L := [some (.ref 130), none, none, none]) ⟨Or.inr rfl, Or.inl rfl, Or.inl rfl, Or.inl rfl, trivial⟩ (fM_readSaid_130_165_s he hK hB hr)
            · rw [if_neg hc] at hB
              refine s_Fin.bt (c := (25 : Int32) ≤ x2) (tg := 160) (p2 := 149) (L1 := [some (.ref 130), some (.int x1), some (.int x2), some (.int (1 : Int32))]) (st1 := []) (Int32.not_lt.mp hc) rfl ?_
              refine s_Fin.sg 2 (y := (162, [some (.ref 130), some (.int x1), some (.int x2), some (.int (1 : Int32))], [.int x2, .ref 130], s_hg g8)) rfl ?_
              obtain ⟨v16, g15, hp, hB⟩ := s_bd2 hB
              refine s_Fin.cl (d := e + 3) (q1 := s_m276) (md := 276) (vs := [.ref 130, .int x2]) (rest := []) (h1 := s_hg g15) (u := some (.int v16)) (s_Ev.up (by omega) (fM_readCompare_130_s hp)) rfl rfl rfl rfl ?_
              exact s_Fin.more (L := [some (.ref 130), none, none, none]) ⟨Or.inr rfl, Or.inl rfl, Or.inl rfl, Or.inl rfl, trivial⟩ (fM_readSaid_130_165_s he hK hB hr)
      · rw [if_neg hc] at hB
        refine s_Fin.bf (c := x1 = 0) (tg := 108) (p2 := 97) (L1 := [some (.ref 130), some (.int x1), some (.int x2), some (.int (1 : Int32))]) (st1 := []) hc rfl ?_
        refine s_Fin.sg 1 (y := (101, [some (.ref 130), some (.int x1), some (.int x2), some (.int (1 : Int32))], [.ref 130], s_hg g8)) rfl ?_
        obtain ⟨v18, g17, hp, hB⟩ := s_bd2 hB
        refine s_Fin.cl (d := e + 3) (q1 := s_m271) (md := 271) (vs := [.ref 130]) (rest := []) (h1 := s_hg g17) (u := some (.int v18)) (s_Ev.up (by omega) (fM_readBracket_130_s he hK hp)) rfl rfl rfl rfl ?_
        refine s_Fin.sg 2 (y := (166, [some (.ref 130), some (.int x1), some (.int x2), some (.int v18)], [], s_hg g17)) rfl ?_
        exact s_Fin.more (L := [some (.ref 130), none, none, some (.int v18)]) ⟨Or.inr rfl, Or.inl rfl, Or.inl rfl, Or.inr rfl, trivial⟩ (fM_readSaid_130_166_s he hK hB hr)
noncomputable def fM_readSaid_130_30 (K : s_G → Option (Int32 × s_G)) (x1 : Int32) (x2 : Int32) (g : s_G) : Option (Int32 × s_G) :=
  if x1 = 0 then (if (28 : Int32) < x2 then (s_b2 (fM_bad_130 (1 : Int32) g) fun v3 g2 => if v3 = 0 ∨ v3 = 1 then some (v3, g2)
  else none)
  else fM_readSaid_130_46 K x1 x2 g)
  else fM_readSaid_130_46 K x1 x2 g
theorem fM_readSaid_130_30_s {K : s_G → Option (Int32 × s_G)} {e : Nat} (he : 40 ≤ e) (hK : ∀ (g : s_G) (z : Int32 × s_G), K g = some z → s_Ev e s_m270 [.ref 130] (s_hg g) (some (.int z.1)) (s_hg z.2)) {x1 : Int32} {x2 : Int32} {g : s_G} {z : Int32 × s_G} (hB : fM_readSaid_130_30 K x1 x2 g = some z) {v : Option Value} {h' : s_H} (hr : (fun (z : Int32 × s_G) (v : Option Value) (h' : s_H) => v = some (.int z.1) ∧ h' = s_hg z.2) z v h') : s_Fin (e + 4) s_m270 (30, [some (.ref 130), some (.int x1), some (.int x2), none], [], s_hg g) v h' := by
  unfold fM_readSaid_130_30 at hB
  refine s_Fin.sg 1 (y := (31, [some (.ref 130), some (.int x1), some (.int x2), none], [.int x1], s_hg g)) rfl ?_
  by_cases hc : x1 = 0
  · rw [if_pos hc] at hB
    refine s_Fin.bf (c := ¬ x1 = 0) (tg := 46) (p2 := 31) (L1 := [some (.ref 130), some (.int x1), some (.int x2), none]) (st1 := []) (fun h => h hc) rfl ?_
    refine s_Fin.sg 2 (y := (37, [some (.ref 130), some (.int x1), some (.int x2), none], [.int (28 : Int32), .int x2], s_hg g)) rfl ?_
    by_cases hc : (28 : Int32) < x2
    · rw [if_pos hc] at hB
      refine s_Fin.bf (c := x2 ≤ (28 : Int32)) (tg := 46) (p2 := 37) (L1 := [some (.ref 130), some (.int x1), some (.int x2), none]) (st1 := []) (Int32.not_le.mpr hc) rfl ?_
      refine s_Fin.sg 2 (y := (42, [some (.ref 130), some (.int x1), some (.int x2), none], [.int (1 : Int32), .ref 130], s_hg g)) rfl ?_
      obtain ⟨v3, g2, hp, hB⟩ := s_bd2 hB
      refine s_Fin.cl (d := e + 3) (q1 := s_m176) (md := 176) (vs := [.ref 130, .int (1 : Int32)]) (rest := []) (h1 := s_hg g2) (u := some (.int v3)) (s_Ev.up (by omega) (fM_bad_130_s hp)) rfl rfl rfl rfl ?_
      have hc : v3 = 0 ∨ v3 = 1 := Classical.byContradiction fun h => (by rw [if_neg h] at hB; cases hB)
      rw [if_pos hc] at hB
      have hB := Option.some.inj hB
      subst hB
      obtain ⟨rfl, rfl⟩ := hr
      exact s_Fin.rt (by rcases hc with hc | hc <;> rw [hc] <;> exact rfl) rfl
    · rw [if_neg hc] at hB
      refine s_Fin.bt (c := x2 ≤ (28 : Int32)) (tg := 46) (p2 := 37) (L1 := [some (.ref 130), some (.int x1), some (.int x2), none]) (st1 := []) (Int32.not_lt.mp hc) rfl ?_
      exact s_Fin.more (L := [some (.ref 130), some (.int x1), some (.int x2), none]) ⟨Or.inr rfl, Or.inr rfl, Or.inr rfl, Or.inl rfl, trivial⟩ (fM_readSaid_130_46_s he hK hB hr)
  · rw [if_neg hc] at hB
    refine s_Fin.bt (c := ¬ x1 = 0) (tg := 46) (p2 := 31) (L1 := [some (.ref 130), some (.int x1), some (.int x2), none]) (st1 := []) hc rfl ?_
    exact s_Fin.more (L := [some (.ref 130), some (.int x1), some (.int x2), none]) ⟨Or.inr rfl, Or.inr rfl, Or.inr rfl, Or.inl rfl, trivial⟩ (fM_readSaid_130_46_s he hK hB hr)
noncomputable def fM_readSaid_130_10 (K : s_G → Option (Int32 × s_G)) (x1 : Int32) (x2 : Int32) (g : s_G) : Option ((Int32) ⊕ (Int32 × s_G)) :=
  if (28 : Int32) < x2 then (s_in (fM_readSaid_130_30 K x1 x2 g))
  else s_b1 (fM_isWord_130 x2 g) fun v19 => if v19 = 0 then (some (.inl (x2 + (1 : Int32))))
  else s_in (fM_readSaid_130_30 K x1 x2 g)
theorem fM_readSaid_130_10_s {K : s_G → Option (Int32 × s_G)} {e : Nat} (he : 40 ≤ e) (hK : ∀ (g : s_G) (z : Int32 × s_G), K g = some z → s_Ev e s_m270 [.ref 130] (s_hg g) (some (.int z.1)) (s_hg z.2)) {x1 : Int32} {x2 : Int32} {g : s_G} {z : (Int32) ⊕ (Int32 × s_G)} (hB : fM_readSaid_130_10 K x1 x2 g = some z) {v : Option Value} {h' : s_H} (hr : (s_sm (fun (x : Int32) (v : Option Value) (h' : s_H) => s_Fin (e + 4) s_m270 (10, [some (.ref 130), some (.int x1), some (.int x), none], [], s_hg g) v h') (fun (z : Int32 × s_G) (v : Option Value) (h' : s_H) => v = some (.int z.1) ∧ h' = s_hg z.2)) z v h') : s_Fin (e + 4) s_m270 (10, [some (.ref 130), some (.int x1), some (.int x2), none], [], s_hg g) v h' := by
  unfold fM_readSaid_130_10 at hB
  refine s_Fin.sg 2 (y := (13, [some (.ref 130), some (.int x1), some (.int x2), none], [.int (28 : Int32), .int x2], s_hg g)) rfl ?_
  by_cases hc : (28 : Int32) < x2
  · rw [if_pos hc] at hB
    refine s_Fin.bt (c := (28 : Int32) < x2) (tg := 30) (p2 := 13) (L1 := [some (.ref 130), some (.int x1), some (.int x2), none]) (st1 := []) hc rfl ?_
    obtain ⟨_, hN, hz⟩ := s_in_of hB
    subst hz
    have hB := hN
    exact s_Fin.more (L := [some (.ref 130), some (.int x1), some (.int x2), none]) ⟨Or.inr rfl, Or.inr rfl, Or.inr rfl, Or.inl rfl, trivial⟩ (fM_readSaid_130_30_s he hK hB hr)
  · rw [if_neg hc] at hB
    refine s_Fin.bf (c := (28 : Int32) < x2) (tg := 30) (p2 := 13) (L1 := [some (.ref 130), some (.int x1), some (.int x2), none]) (st1 := []) hc rfl ?_
    refine s_Fin.sg 2 (y := (18, [some (.ref 130), some (.int x1), some (.int x2), none], [.int x2, .ref 130], s_hg g)) rfl ?_
    obtain ⟨v19, hp, hB⟩ := s_bd hB
    refine s_Fin.cl (d := e + 3) (q1 := s_m171) (md := 171) (vs := [.ref 130, .int x2]) (rest := []) (h1 := s_hg g) (u := some (.int v19)) (s_Ev.up (by omega) (fM_isWord_130_s hp)) rfl rfl rfl rfl ?_
    by_cases hc : v19 = 0
    · rw [if_pos hc] at hB
      refine s_Fin.bf (c := ¬ v19 = 0) (tg := 30) (p2 := 21) (L1 := [some (.ref 130), some (.int x1), some (.int x2), none]) (st1 := []) (fun h => h hc) rfl ?_
      refine s_Fin.sg 2 (y := (10, [some (.ref 130), some (.int x1), some (.int (x2 + (1 : Int32))), none], [], s_hg g)) rfl ?_
      have hB := Option.some.inj hB
      subst hB
      exact s_Fin.more (L := [some (.ref 130), some (.int x1), some (.int (x2 + (1 : Int32))), none]) ⟨Or.inr rfl, Or.inr rfl, Or.inr rfl, Or.inl rfl, trivial⟩ hr
    · rw [if_neg hc] at hB
      refine s_Fin.bt (c := ¬ v19 = 0) (tg := 30) (p2 := 21) (L1 := [some (.ref 130), some (.int x1), some (.int x2), none]) (st1 := []) hc rfl ?_
      obtain ⟨_, hN, hz⟩ := s_in_of hB
      subst hz
      have hB := hN
      exact s_Fin.more (L := [some (.ref 130), some (.int x1), some (.int x2), none]) ⟨Or.inr rfl, Or.inr rfl, Or.inr rfl, Or.inl rfl, trivial⟩ (fM_readSaid_130_30_s he hK hB hr)
noncomputable def fM_readSaid_130 (K : s_G → Option (Int32 × s_G)) (g : s_G) : Option (Int32 × s_G) :=
  s_b1 (fM_isSign_130 (40 : Int32) g) fun v1 => s_lp (fun x => fM_readSaid_130_10 K v1 x g) (19 : Int32)
theorem fM_readSaid_130_s {K : s_G → Option (Int32 × s_G)} {e : Nat} (he : 40 ≤ e) (hK : ∀ (g : s_G) (z : Int32 × s_G), K g = some z → s_Ev e s_m270 [.ref 130] (s_hg g) (some (.int z.1)) (s_hg z.2)) {g : s_G} {z : Int32 × s_G} (hB : fM_readSaid_130 K g = some z) : s_Ev (e + 4) s_m270 [.ref 130] (s_hg g) (some (.int z.1)) (s_hg z.2) := by
  unfold fM_readSaid_130 at hB
  refine s_Ev.fin ((?_ : ∀ (v : Option Value) (h' : s_H), (fun (z : Int32 × s_G) (v : Option Value) (h' : s_H) => v = some (.int z.1) ∧ h' = s_hg z.2) z v h' → s_Fin (e + 4) s_m270 (0, s_ent [.ref 130] (s_m270).2.2.1, [], s_hg g) v h') _ _ ⟨rfl, rfl⟩)
  intro v h' hr
  refine (show s_Fin (e + 4) s_m270 (0, [some (.ref 130), none, none, none], [], s_hg g) v h' from ?_)
  refine s_Fin.sg 2 (y := (3, [some (.ref 130), none, none, none], [.int (40 : Int32), .ref 130], s_hg g)) rfl ?_
  obtain ⟨v1, hp, hB⟩ := s_bd hB
  refine s_Fin.cl (d := e + 3) (q1 := s_m189) (md := 189) (vs := [.ref 130, .int (40 : Int32)]) (rest := []) (h1 := s_hg g) (u := some (.int v1)) (s_Ev.up (by omega) (fM_isSign_130_s hp)) rfl rfl rfl rfl ?_
  refine s_Fin.sg 3 (y := (10, [some (.ref 130), some (.int v1), some (.int (19 : Int32)), none], [], s_hg g)) rfl ?_
  exact s_Fin.more (L := [some (.ref 130), some (.int v1), some (.int (19 : Int32)), none]) ⟨Or.inr rfl, Or.inr rfl, Or.inr rfl, Or.inl rfl, trivial⟩ (s_lp_s (P := (fun (x : Int32) (v : Option Value) (h' : s_H) => s_Fin (e + 4) s_m270 (10, [some (.ref 130), some (.int v1), some (.int x), none], [], s_hg g) v h')) (Q := (fun (z : Int32 × s_G) (v : Option Value) (h' : s_H) => v = some (.int z.1) ∧ h' = s_hg z.2)) (fun x z hB v h' hr => fM_readSaid_130_10_s he hK hB hr) hB _ _ hr)
noncomputable def fM_readSaid_130_k : Nat → s_G → Option (Int32 × s_G)
  | 0 => fun _ => none
  | n + 1 => fun g => fM_readSaid_130 (fM_readSaid_130_k n) g
theorem fM_readSaid_130_k_s : ∀ (n : Nat) (g : s_G) (z : Int32 × s_G), fM_readSaid_130_k n g = some z → s_Ev (40 + 4 * n) s_m270 [.ref 130] (s_hg g) (some (.int z.1)) (s_hg z.2)
  | 0, _, _, h => nomatch h
  | n + 1, g, z, h => s_Ev.up (by omega) (fM_readSaid_130_s (e := 40 + 4 * n) (by omega) (fM_readSaid_130_k_s n) h)
-- CampAshesModel.sentence
noncomputable def fM_sentence_130_79 (x1 : Int32) (g : s_G) : Option ((Int32 × s_G) ⊕ (Int32 × s_G)) :=
  if x1 < (240 : Int32) then (s_b1 (s_ix 240 x1) fun k5 => s_b1 (s_ix 375 ((135 : Int32) + x1)) fun k7 => some (.inl (x1 + (1 : Int32), (s_si g 132 k7 (g.1 151 k5)))))
  else s_in (some (g.1 130 45, g))
theorem fM_sentence_130_79_s {x1 : Int32} {g : s_G} {z : (Int32 × s_G) ⊕ (Int32 × s_G)} (hB : fM_sentence_130_79 x1 g = some z) {v : Option Value} {h' : s_H} (hr : (s_sm (fun (x : Int32 × s_G) (v : Option Value) (h' : s_H) => s_Fin 91 s_m267 (79, [some (.ref 130), some (.int x.1)], [], s_hg x.2) v h') (fun (z : Int32 × s_G) (v : Option Value) (h' : s_H) => v = some (.int z.1) ∧ h' = s_hg z.2)) z v h') : s_Fin 91 s_m267 (79, [some (.ref 130), some (.int x1)], [], s_hg g) v h' := by
  unfold fM_sentence_130_79 at hB
  refine s_Fin.sg 2 (y := (83, [some (.ref 130), some (.int x1)], [.int (240 : Int32), .int x1], s_hg g)) rfl ?_
  by_cases hc : x1 < (240 : Int32)
  · rw [if_pos hc] at hB
    refine s_Fin.bf (c := (240 : Int32) ≤ x1) (tg := 108) (p2 := 83) (L1 := [some (.ref 130), some (.int x1)]) (st1 := []) (Int32.not_le.mpr hc) rfl ?_
    refine s_Fin.sg 8 (y := (100, [some (.ref 130), some (.int x1)], [.int x1, .ref 151, .int ((135 : Int32) + x1), .ref 132], s_hg g)) rfl ?_
    obtain ⟨k5, hk5, hB⟩ := s_bd hB
    refine s_Fin.ix (n := 240) (i := x1) (pc1 := 101) (L1 := [some (.ref 130), some (.int x1)]) (fun j4 => [.int (g.1 151 j4), .int ((135 : Int32) + x1), .ref 132]) (fun j4 => s_hg g) hk5 rfl rfl ?_
    obtain ⟨k7, hk7, hB⟩ := s_bd hB
    refine s_Fin.ix (n := 375) (i := (135 : Int32) + x1) (pc1 := 102) (L1 := [some (.ref 130), some (.int x1)]) (fun j6 => []) (fun j6 => s_hg (s_si g 132 j6 (g.1 151 k5))) hk7 rfl rfl ?_
    refine s_Fin.sg 2 (y := (79, [some (.ref 130), some (.int (x1 + (1 : Int32)))], [], s_hg (s_si g 132 k7 (g.1 151 k5)))) rfl ?_
    have hB := Option.some.inj hB
    subst hB
    exact s_Fin.more (L := [some (.ref 130), some (.int (x1 + (1 : Int32)))]) ⟨Or.inr rfl, Or.inr rfl, trivial⟩ hr
  · rw [if_neg hc] at hB
    refine s_Fin.bt (c := (240 : Int32) ≤ x1) (tg := 108) (p2 := 83) (L1 := [some (.ref 130), some (.int x1)]) (st1 := []) (Int32.not_lt.mp hc) rfl ?_
    obtain ⟨_, hN, hz⟩ := s_in_of hB
    subst hz
    have hB := hN
    refine s_Fin.sg 2 (y := (112, [some (.ref 130), some (.int x1)], [.int (g.1 130 45)], s_hg g)) rfl ?_
    have hB := Option.some.inj hB
    subst hB
    obtain ⟨rfl, rfl⟩ := hr
    exact s_Fin.rt rfl rfl
noncomputable def fM_sentence_130 (g : s_G) : Option (Int32 × s_G) :=
  s_b1 (fM_begin_130 (200 : Int32) g) fun g1 => s_b2 (fM_readOr_130 (fM_readSaid_130_k 12) (s_si (s_si (s_si g1 130 44 (0 : Int32)) 130 45 (0 : Int32)) 130 46 (0 : Int32))) fun v3 g2 => if v3 = 0 then (some ((-1 : Int32) - (g2.1 130 11), g2))
  else if (g2.1 130 7) = 0 then (s_lp (fun x => fM_sentence_130_79 x.1 x.2) ((0 : Int32), (s_si (s_si g2 132 133 (1 : Int32)) 132 134 (g2.1 130 47))))
  else s_b2 (fM_bad_130 (1 : Int32) g2) fun v9 g8 => some ((-1 : Int32) - (g8.1 130 11), g8)
theorem fM_sentence_130_s {g : s_G} {z : Int32 × s_G} (hB : fM_sentence_130 g = some z) : s_Ev 91 s_m267 [.ref 130] (s_hg g) (some (.int z.1)) (s_hg z.2) := by
  unfold fM_sentence_130 at hB
  refine s_Ev.fin ((?_ : ∀ (v : Option Value) (h' : s_H), (fun (z : Int32 × s_G) (v : Option Value) (h' : s_H) => v = some (.int z.1) ∧ h' = s_hg z.2) z v h' → s_Fin 91 s_m267 (0, s_ent [.ref 130] (s_m267).2.2.1, [], s_hg g) v h') _ _ ⟨rfl, rfl⟩)
  intro v h' hr
  refine (show s_Fin 91 s_m267 (0, [some (.ref 130), none], [], s_hg g) v h' from ?_)
  refine s_Fin.sg 2 (y := (4, [some (.ref 130), none], [.int (200 : Int32), .ref 130], s_hg g)) rfl ?_
  obtain ⟨g1, hp, hB⟩ := s_bd hB
  refine s_Fin.cl (d := 90) (q1 := s_m164) (md := 164) (vs := [.ref 130, .int (200 : Int32)]) (rest := []) (h1 := s_hg g1) (u := none) (s_Ev.up (by omega) (fM_begin_130_s hp)) rfl rfl rfl rfl ?_
  refine s_Fin.sg 10 (y := (23, [some (.ref 130), none], [.ref 130], s_hg (s_si (s_si (s_si g1 130 44 (0 : Int32)) 130 45 (0 : Int32)) 130 46 (0 : Int32)))) rfl ?_
  obtain ⟨v3, g2, hp, hB⟩ := s_bd2 hB
  refine s_Fin.cl (d := 90) (q1 := s_m268) (md := 268) (vs := [.ref 130]) (rest := []) (h1 := s_hg g2) (u := some (.int v3)) (s_Ev.up (by omega) (fM_readOr_130_s (by omega) (fM_readSaid_130_k_s 12) hp)) rfl rfl rfl rfl ?_
  by_cases hc : v3 = 0
  · rw [if_pos hc] at hB
    refine s_Fin.bf (c := ¬ v3 = 0) (tg := 36) (p2 := 26) (L1 := [some (.ref 130), none]) (st1 := []) (fun h => h hc) rfl ?_
    refine s_Fin.sg 4 (y := (35, [some (.ref 130), none], [.int ((-1 : Int32) - (g2.1 130 11))], s_hg g2)) rfl ?_
    have hB := Option.some.inj hB
    subst hB
    obtain ⟨rfl, rfl⟩ := hr
    exact s_Fin.rt rfl rfl
  · rw [if_neg hc] at hB
    refine s_Fin.bt (c := ¬ v3 = 0) (tg := 36) (p2 := 26) (L1 := [some (.ref 130), none]) (st1 := []) hc rfl ?_
    refine s_Fin.sg 2 (y := (40, [some (.ref 130), none], [.int (g2.1 130 7)], s_hg g2)) rfl ?_
    by_cases hc : (g2.1 130 7) = 0
    · rw [if_pos hc] at hB
      refine s_Fin.bt (c := (g2.1 130 7) = 0) (tg := 56) (p2 := 40) (L1 := [some (.ref 130), none]) (st1 := []) hc rfl ?_
      refine s_Fin.sg 13 (y := (79, [some (.ref 130), some (.int (0 : Int32))], [], s_hg (s_si (s_si g2 132 133 (1 : Int32)) 132 134 (g2.1 130 47)))) rfl ?_
      exact s_Fin.more (L := [some (.ref 130), some (.int (0 : Int32))]) ⟨Or.inr rfl, Or.inr rfl, trivial⟩ (s_lp_s (P := (fun (x : Int32 × s_G) (v : Option Value) (h' : s_H) => s_Fin 91 s_m267 (79, [some (.ref 130), some (.int x.1)], [], s_hg x.2) v h')) (Q := (fun (z : Int32 × s_G) (v : Option Value) (h' : s_H) => v = some (.int z.1) ∧ h' = s_hg z.2)) (fun x z hB v h' hr => fM_sentence_130_79_s hB hr) hB _ _ hr)
    · rw [if_neg hc] at hB
      refine s_Fin.bf (c := (g2.1 130 7) = 0) (tg := 56) (p2 := 40) (L1 := [some (.ref 130), none]) (st1 := []) hc rfl ?_
      refine s_Fin.sg 2 (y := (45, [some (.ref 130), none], [.int (1 : Int32), .ref 130], s_hg g2)) rfl ?_
      obtain ⟨v9, g8, hp, hB⟩ := s_bd2 hB
      refine s_Fin.cl (d := 90) (q1 := s_m176) (md := 176) (vs := [.ref 130, .int (1 : Int32)]) (rest := []) (h1 := s_hg g8) (u := some (.int v9)) (s_Ev.up (by omega) (fM_bad_130_s hp)) rfl rfl rfl rfl ?_
      refine s_Fin.sg 5 (y := (55, [some (.ref 130), none], [.int ((-1 : Int32) - (g8.1 130 11))], s_hg g8)) rfl ?_
      have hB := Option.some.inj hB
      subst hB
      obtain ⟨rfl, rfl⟩ := hr
      exact s_Fin.rt rfl rfl
-- CampAshes$Sentence.clear
noncomputable def fS_clear_32 (g : s_G) : Option (s_G) :=
  some (s_si (s_si (s_si g 32 4 (0 : Int32)) 32 5 (0 : Int32)) 32 6 (0 : Int32))
theorem fS_clear_32_s {g : s_G} {z : s_G} (hB : fS_clear_32 g = some z) : s_Ev 0 s_m44 [.ref 32] (s_hg g) (none) (s_hg z) := by
  unfold fS_clear_32 at hB
  refine s_Ev.fin ((?_ : ∀ (v : Option Value) (h' : s_H), (fun (z : s_G) (v : Option Value) (h' : s_H) => v = none ∧ h' = s_hg z) z v h' → s_Fin 0 s_m44 (0, s_ent [.ref 32] (s_m44).2.2.1, [], s_hg g) v h') _ _ ⟨rfl, rfl⟩)
  intro v h' hr
  refine (show s_Fin 0 s_m44 (0, [some (.ref 32)], [], s_hg g) v h' from ?_)
  refine s_Fin.sg 9 (y := (15, [some (.ref 32)], [], s_hg (s_si (s_si (s_si g 32 4 (0 : Int32)) 32 5 (0 : Int32)) 32 6 (0 : Int32)))) rfl ?_
  have hB := Option.some.inj hB
  subst hB
  obtain ⟨rfl, rfl⟩ := hr
  exact s_Fin.rt rfl rfl
-- CampAshes$Sentence.isPlain
noncomputable def fS_isPlain_s (x0 : Option Nat) (g : s_G) : Option (Int32) :=
  if s_okw x0 = true then (if x0 = some 1020 then (some (1 : Int32))
  else if s_okw x0 = true then (if x0 = some 1021 then (some (1 : Int32))
  else if s_okw x0 = true then (if x0 = some 1022 then (some (1 : Int32))
  else some (0 : Int32)) else none) else none) else none
theorem fS_isPlain_s_s {x0 : Option Nat} {g : s_G} {z : Int32} (hB : fS_isPlain_s x0 g = some z) : s_Ev 0 s_m141 [va_rf x0] (s_hg g) (some (.int z)) (s_hg g) := by
  unfold fS_isPlain_s at hB
  refine s_Ev.fin ((?_ : ∀ (v : Option Value) (h' : s_H), (fun (z : Int32) (v : Option Value) (h' : s_H) => v = some (.int z) ∧ h' = s_hg g) z v h' → s_Fin 0 s_m141 (0, s_ent [va_rf x0] (s_m141).2.2.1, [], s_hg g) v h') _ _ ⟨rfl, rfl⟩)
  intro v h' hr
  rw [show s_ent [va_rf x0] (s_m141).2.2.1 = [some (va_rf x0)] from (by cases x0 <;> rfl)]
  refine s_Fin.nx (pc1 := 1) (L1 := [some (va_rf x0)]) (st1 := [va_rf x0]) (h1 := s_hg g) (by generalize x0 = w; cases w <;> exact rfl) rfl ?_
  refine s_Fin.sg 1 (y := (4, [some (va_rf x0)], [.ref 1020, va_rf x0], s_hg g)) rfl ?_
  have hw : s_okw x0 = true := Classical.byContradiction fun h => (by rw [if_neg h] at hB; cases hB)
  rw [if_pos hw] at hB
  by_cases hc : x0 = some 1020
  · rw [if_pos hc] at hB
    refine s_Fin.nx (pc1 := 21) (L1 := [some (va_rf x0)]) (st1 := []) (h1 := s_hg g) ((show _ = s_acE 21 4 [some (va_rf x0)] [] (s_hg g) (.ref 1020) (va_rf x0) from rfl).trans (s_acE_t hw rfl hc)) rfl ?_
    refine s_Fin.sg 2 (y := (26, [some (va_rf x0)], [.int (1 : Int32)], s_hg g)) rfl ?_
    have hB := Option.some.inj hB
    subst hB
    obtain ⟨rfl, rfl⟩ := hr
    exact s_Fin.rt rfl rfl
  · rw [if_neg hc] at hB
    refine s_Fin.nx (pc1 := 7) (L1 := [some (va_rf x0)]) (st1 := []) (h1 := s_hg g) ((show _ = s_acE 21 4 [some (va_rf x0)] [] (s_hg g) (.ref 1020) (va_rf x0) from rfl).trans (s_acE_f hw rfl hc)) rfl ?_
    refine s_Fin.nx (pc1 := 8) (L1 := [some (va_rf x0)]) (st1 := [va_rf x0]) (h1 := s_hg g) (by generalize x0 = w; cases w <;> exact rfl) rfl ?_
    refine s_Fin.sg 1 (y := (11, [some (va_rf x0)], [.ref 1021, va_rf x0], s_hg g)) rfl ?_
    have hw : s_okw x0 = true := Classical.byContradiction fun h => (by rw [if_neg h] at hB; cases hB)
    rw [if_pos hw] at hB
    by_cases hc : x0 = some 1021
    · rw [if_pos hc] at hB
      refine s_Fin.nx (pc1 := 21) (L1 := [some (va_rf x0)]) (st1 := []) (h1 := s_hg g) ((show _ = s_acE 21 11 [some (va_rf x0)] [] (s_hg g) (.ref 1021) (va_rf x0) from rfl).trans (s_acE_t hw rfl hc)) rfl ?_
      refine s_Fin.sg 2 (y := (26, [some (va_rf x0)], [.int (1 : Int32)], s_hg g)) rfl ?_
      have hB := Option.some.inj hB
      subst hB
      obtain ⟨rfl, rfl⟩ := hr
      exact s_Fin.rt rfl rfl
    · rw [if_neg hc] at hB
      refine s_Fin.nx (pc1 := 14) (L1 := [some (va_rf x0)]) (st1 := []) (h1 := s_hg g) ((show _ = s_acE 21 11 [some (va_rf x0)] [] (s_hg g) (.ref 1021) (va_rf x0) from rfl).trans (s_acE_f hw rfl hc)) rfl ?_
      refine s_Fin.nx (pc1 := 15) (L1 := [some (va_rf x0)]) (st1 := [va_rf x0]) (h1 := s_hg g) (by generalize x0 = w; cases w <;> exact rfl) rfl ?_
      refine s_Fin.sg 1 (y := (18, [some (va_rf x0)], [.ref 1022, va_rf x0], s_hg g)) rfl ?_
      have hw : s_okw x0 = true := Classical.byContradiction fun h => (by rw [if_neg h] at hB; cases hB)
      rw [if_pos hw] at hB
      by_cases hc : x0 = some 1022
      · rw [if_pos hc] at hB
        refine s_Fin.nx (pc1 := 21) (L1 := [some (va_rf x0)]) (st1 := []) (h1 := s_hg g) ((show _ = s_acN 25 18 [some (va_rf x0)] [] (s_hg g) (.ref 1022) (va_rf x0) from rfl).trans (s_acN_t hw rfl hc)) rfl ?_
        refine s_Fin.sg 2 (y := (26, [some (va_rf x0)], [.int (1 : Int32)], s_hg g)) rfl ?_
        have hB := Option.some.inj hB
        subst hB
        obtain ⟨rfl, rfl⟩ := hr
        exact s_Fin.rt rfl rfl
      · rw [if_neg hc] at hB
        refine s_Fin.nx (pc1 := 25) (L1 := [some (va_rf x0)]) (st1 := []) (h1 := s_hg g) ((show _ = s_acN 25 18 [some (va_rf x0)] [] (s_hg g) (.ref 1022) (va_rf x0) from rfl).trans (s_acN_f hw rfl hc)) rfl ?_
        refine s_Fin.sg 1 (y := (26, [some (va_rf x0)], [.int (0 : Int32)], s_hg g)) rfl ?_
        have hB := Option.some.inj hB
        subst hB
        obtain ⟨rfl, rfl⟩ := hr
        exact s_Fin.rt rfl rfl
-- CampAshes$Sentence.beginsOne
noncomputable def fS_beginsOne_1 (g : s_G) : Option (Int32) :=
  s_b1 (fQ_isSign_1 (40 : Int32) g) fun v1 => if v1 = 0 then (if s_okw (g.2.2 1 9) = true then (if (g.2.2 1 9) = some 1019 then (some (1 : Int32))
  else s_b1 (fS_isPlain_s (g.2.2 1 9) g) fun v2 => if v2 = 0 then (if s_okw (g.2.2 1 9) = true then (if (g.2.2 1 9) = some 1023 then (some (1 : Int32))
  else if s_okw (g.2.2 1 9) = true then (if (g.2.2 1 9) = some 1024 then (some (1 : Int32))
  else if s_okw (g.2.2 1 9) = true then (if (g.2.2 1 9) = some 1025 then (some (1 : Int32))
  else if s_okw (g.2.2 1 9) = true then (if (g.2.2 1 9) = some 1026 then (some (1 : Int32))
  else if s_okw (g.2.2 1 9) = true then (if (g.2.2 1 9) = some 1027 then (some (1 : Int32))
  else if s_okw (g.2.2 1 9) = true then (if (g.2.2 1 9) = some 1028 then (some (1 : Int32))
  else some (0 : Int32)) else none) else none) else none) else none) else none) else none)
  else some (1 : Int32)) else none)
  else some (1 : Int32)
theorem fS_beginsOne_1_s {g : s_G} {z : Int32} (hB : fS_beginsOne_1 g = some z) : s_Ev 1 s_m140 [.ref 1] (s_hg g) (some (.int z)) (s_hg g) := by
  unfold fS_beginsOne_1 at hB
  refine s_Ev.fin ((?_ : ∀ (v : Option Value) (h' : s_H), (fun (z : Int32) (v : Option Value) (h' : s_H) => v = some (.int z) ∧ h' = s_hg g) z v h' → s_Fin 1 s_m140 (0, s_ent [.ref 1] (s_m140).2.2.1, [], s_hg g) v h') _ _ ⟨rfl, rfl⟩)
  intro v h' hr
  refine (show s_Fin 1 s_m140 (0, [some (.ref 1), none], [], s_hg g) v h' from ?_)
  refine s_Fin.sg 2 (y := (4, [some (.ref 1), none], [va_rf (g.2.2 1 9)], s_hg g)) rfl ?_
  refine s_Fin.nx (pc1 := 5) (L1 := [some (.ref 1), some (va_rf (g.2.2 1 9))]) (st1 := []) (h1 := s_hg g) (by generalize (g.2.2 1 9) = w; cases w <;> exact rfl) rfl ?_
  refine s_Fin.sg 2 (y := (8, [some (.ref 1), some (va_rf (g.2.2 1 9))], [.int (40 : Int32), .ref 1], s_hg g)) rfl ?_
  obtain ⟨v1, hp, hB⟩ := s_bd hB
  refine s_Fin.cl (d := 0) (q1 := s_m42) (md := 42) (vs := [.ref 1, .int (40 : Int32)]) (rest := []) (h1 := s_hg g) (u := some (.int v1)) (s_Ev.up (by omega) (fQ_isSign_1_s hp)) rfl rfl rfl rfl ?_
  by_cases hc : v1 = 0
  · rw [if_pos hc] at hB
    refine s_Fin.bf (c := ¬ v1 = 0) (tg := 70) (p2 := 11) (L1 := [some (.ref 1), some (va_rf (g.2.2 1 9))]) (st1 := []) (fun h => h hc) rfl ?_
    refine s_Fin.nx (pc1 := 15) (L1 := [some (.ref 1), some (va_rf (g.2.2 1 9))]) (st1 := [va_rf (g.2.2 1 9)]) (h1 := s_hg g) (by generalize (g.2.2 1 9) = w; cases w <;> exact rfl) rfl ?_
    refine s_Fin.sg 1 (y := (18, [some (.ref 1), some (va_rf (g.2.2 1 9))], [.ref 1019, va_rf (g.2.2 1 9)], s_hg g)) rfl ?_
    have hw : s_okw (g.2.2 1 9) = true := Classical.byContradiction fun h => (by rw [if_neg h] at hB; cases hB)
    rw [if_pos hw] at hB
    by_cases hc : (g.2.2 1 9) = some 1019
    · rw [if_pos hc] at hB
      refine s_Fin.nx (pc1 := 70) (L1 := [some (.ref 1), some (va_rf (g.2.2 1 9))]) (st1 := []) (h1 := s_hg g) ((show _ = s_acE 70 18 [some (.ref 1), some (va_rf (g.2.2 1 9))] [] (s_hg g) (.ref 1019) (va_rf (g.2.2 1 9)) from rfl).trans (s_acE_t hw rfl hc)) rfl ?_
      refine s_Fin.sg 2 (y := (75, [some (.ref 1), some (va_rf (g.2.2 1 9))], [.int (1 : Int32)], s_hg g)) rfl ?_
      have hB := Option.some.inj hB
      subst hB
      obtain ⟨rfl, rfl⟩ := hr
      exact s_Fin.rt rfl rfl
    · rw [if_neg hc] at hB
      refine s_Fin.nx (pc1 := 21) (L1 := [some (.ref 1), some (va_rf (g.2.2 1 9))]) (st1 := []) (h1 := s_hg g) ((show _ = s_acE 70 18 [some (.ref 1), some (va_rf (g.2.2 1 9))] [] (s_hg g) (.ref 1019) (va_rf (g.2.2 1 9)) from rfl).trans (s_acE_f hw rfl hc)) rfl ?_
      refine s_Fin.nx (pc1 := 22) (L1 := [some (.ref 1), some (va_rf (g.2.2 1 9))]) (st1 := [va_rf (g.2.2 1 9)]) (h1 := s_hg g) (by generalize (g.2.2 1 9) = w; cases w <;> exact rfl) rfl ?_
      obtain ⟨v2, hp, hB⟩ := s_bd hB
      refine s_Fin.cl (d := 0) (q1 := s_m141) (md := 141) (vs := [va_rf (g.2.2 1 9)]) (rest := []) (h1 := s_hg g) (u := some (.int v2)) (s_Ev.up (by omega) (fS_isPlain_s_s hp)) rfl rfl rfl (by generalize (g.2.2 1 9) = w0; cases w0 <;> rfl) ?_
      by_cases hc : v2 = 0
      · rw [if_pos hc] at hB
        refine s_Fin.bf (c := ¬ v2 = 0) (tg := 70) (p2 := 25) (L1 := [some (.ref 1), some (va_rf (g.2.2 1 9))]) (st1 := []) (fun h => h hc) rfl ?_
        refine s_Fin.nx (pc1 := 29) (L1 := [some (.ref 1), some (va_rf (g.2.2 1 9))]) (st1 := [va_rf (g.2.2 1 9)]) (h1 := s_hg g) (by generalize (g.2.2 1 9) = w; cases w <;> exact rfl) rfl ?_
        refine s_Fin.sg 1 (y := (32, [some (.ref 1), some (va_rf (g.2.2 1 9))], [.ref 1023, va_rf (g.2.2 1 9)], s_hg g)) rfl ?_
        have hw : s_okw (g.2.2 1 9) = true := Classical.byContradiction fun h => (by rw [if_neg h] at hB; cases hB)
        rw [if_pos hw] at hB
        by_cases hc : (g.2.2 1 9) = some 1023
        · rw [if_pos hc] at hB
          refine s_Fin.nx (pc1 := 70) (L1 := [some (.ref 1), some (va_rf (g.2.2 1 9))]) (st1 := []) (h1 := s_hg g) ((show _ = s_acE 70 32 [some (.ref 1), some (va_rf (g.2.2 1 9))] [] (s_hg g) (.ref 1023) (va_rf (g.2.2 1 9)) from rfl).trans (s_acE_t hw rfl hc)) rfl ?_
          refine s_Fin.sg 2 (y := (75, [some (.ref 1), some (va_rf (g.2.2 1 9))], [.int (1 : Int32)], s_hg g)) rfl ?_
          have hB := Option.some.inj hB
          subst hB
          obtain ⟨rfl, rfl⟩ := hr
          exact s_Fin.rt rfl rfl
        · rw [if_neg hc] at hB
          refine s_Fin.nx (pc1 := 35) (L1 := [some (.ref 1), some (va_rf (g.2.2 1 9))]) (st1 := []) (h1 := s_hg g) ((show _ = s_acE 70 32 [some (.ref 1), some (va_rf (g.2.2 1 9))] [] (s_hg g) (.ref 1023) (va_rf (g.2.2 1 9)) from rfl).trans (s_acE_f hw rfl hc)) rfl ?_
          refine s_Fin.nx (pc1 := 36) (L1 := [some (.ref 1), some (va_rf (g.2.2 1 9))]) (st1 := [va_rf (g.2.2 1 9)]) (h1 := s_hg g) (by generalize (g.2.2 1 9) = w; cases w <;> exact rfl) rfl ?_
          refine s_Fin.sg 1 (y := (39, [some (.ref 1), some (va_rf (g.2.2 1 9))], [.ref 1024, va_rf (g.2.2 1 9)], s_hg g)) rfl ?_
          have hw : s_okw (g.2.2 1 9) = true := Classical.byContradiction fun h => (by rw [if_neg h] at hB; cases hB)
          rw [if_pos hw] at hB
          by_cases hc : (g.2.2 1 9) = some 1024
          · rw [if_pos hc] at hB
            refine s_Fin.nx (pc1 := 70) (L1 := [some (.ref 1), some (va_rf (g.2.2 1 9))]) (st1 := []) (h1 := s_hg g) ((show _ = s_acE 70 39 [some (.ref 1), some (va_rf (g.2.2 1 9))] [] (s_hg g) (.ref 1024) (va_rf (g.2.2 1 9)) from rfl).trans (s_acE_t hw rfl hc)) rfl ?_
            refine s_Fin.sg 2 (y := (75, [some (.ref 1), some (va_rf (g.2.2 1 9))], [.int (1 : Int32)], s_hg g)) rfl ?_
            have hB := Option.some.inj hB
            subst hB
            obtain ⟨rfl, rfl⟩ := hr
            exact s_Fin.rt rfl rfl
          · rw [if_neg hc] at hB
            refine s_Fin.nx (pc1 := 42) (L1 := [some (.ref 1), some (va_rf (g.2.2 1 9))]) (st1 := []) (h1 := s_hg g) ((show _ = s_acE 70 39 [some (.ref 1), some (va_rf (g.2.2 1 9))] [] (s_hg g) (.ref 1024) (va_rf (g.2.2 1 9)) from rfl).trans (s_acE_f hw rfl hc)) rfl ?_
            refine s_Fin.nx (pc1 := 43) (L1 := [some (.ref 1), some (va_rf (g.2.2 1 9))]) (st1 := [va_rf (g.2.2 1 9)]) (h1 := s_hg g) (by generalize (g.2.2 1 9) = w; cases w <;> exact rfl) rfl ?_
            refine s_Fin.sg 1 (y := (46, [some (.ref 1), some (va_rf (g.2.2 1 9))], [.ref 1025, va_rf (g.2.2 1 9)], s_hg g)) rfl ?_
            have hw : s_okw (g.2.2 1 9) = true := Classical.byContradiction fun h => (by rw [if_neg h] at hB; cases hB)
            rw [if_pos hw] at hB
            by_cases hc : (g.2.2 1 9) = some 1025
            · rw [if_pos hc] at hB
              refine s_Fin.nx (pc1 := 70) (L1 := [some (.ref 1), some (va_rf (g.2.2 1 9))]) (st1 := []) (h1 := s_hg g) ((show _ = s_acE 70 46 [some (.ref 1), some (va_rf (g.2.2 1 9))] [] (s_hg g) (.ref 1025) (va_rf (g.2.2 1 9)) from rfl).trans (s_acE_t hw rfl hc)) rfl ?_
              refine s_Fin.sg 2 (y := (75, [some (.ref 1), some (va_rf (g.2.2 1 9))], [.int (1 : Int32)], s_hg g)) rfl ?_
              have hB := Option.some.inj hB
              subst hB
              obtain ⟨rfl, rfl⟩ := hr
              exact s_Fin.rt rfl rfl
            · rw [if_neg hc] at hB
              refine s_Fin.nx (pc1 := 49) (L1 := [some (.ref 1), some (va_rf (g.2.2 1 9))]) (st1 := []) (h1 := s_hg g) ((show _ = s_acE 70 46 [some (.ref 1), some (va_rf (g.2.2 1 9))] [] (s_hg g) (.ref 1025) (va_rf (g.2.2 1 9)) from rfl).trans (s_acE_f hw rfl hc)) rfl ?_
              refine s_Fin.nx (pc1 := 50) (L1 := [some (.ref 1), some (va_rf (g.2.2 1 9))]) (st1 := [va_rf (g.2.2 1 9)]) (h1 := s_hg g) (by generalize (g.2.2 1 9) = w; cases w <;> exact rfl) rfl ?_
              refine s_Fin.sg 1 (y := (53, [some (.ref 1), some (va_rf (g.2.2 1 9))], [.ref 1026, va_rf (g.2.2 1 9)], s_hg g)) rfl ?_
              have hw : s_okw (g.2.2 1 9) = true := Classical.byContradiction fun h => (by rw [if_neg h] at hB; cases hB)
              rw [if_pos hw] at hB
              by_cases hc : (g.2.2 1 9) = some 1026
              · rw [if_pos hc] at hB
                refine s_Fin.nx (pc1 := 70) (L1 := [some (.ref 1), some (va_rf (g.2.2 1 9))]) (st1 := []) (h1 := s_hg g) ((show _ = s_acE 70 53 [some (.ref 1), some (va_rf (g.2.2 1 9))] [] (s_hg g) (.ref 1026) (va_rf (g.2.2 1 9)) from rfl).trans (s_acE_t hw rfl hc)) rfl ?_
                refine s_Fin.sg 2 (y := (75, [some (.ref 1), some (va_rf (g.2.2 1 9))], [.int (1 : Int32)], s_hg g)) rfl ?_
                have hB := Option.some.inj hB
                subst hB
                obtain ⟨rfl, rfl⟩ := hr
                exact s_Fin.rt rfl rfl
              · rw [if_neg hc] at hB
                refine s_Fin.nx (pc1 := 56) (L1 := [some (.ref 1), some (va_rf (g.2.2 1 9))]) (st1 := []) (h1 := s_hg g) ((show _ = s_acE 70 53 [some (.ref 1), some (va_rf (g.2.2 1 9))] [] (s_hg g) (.ref 1026) (va_rf (g.2.2 1 9)) from rfl).trans (s_acE_f hw rfl hc)) rfl ?_
                refine s_Fin.nx (pc1 := 57) (L1 := [some (.ref 1), some (va_rf (g.2.2 1 9))]) (st1 := [va_rf (g.2.2 1 9)]) (h1 := s_hg g) (by generalize (g.2.2 1 9) = w; cases w <;> exact rfl) rfl ?_
                refine s_Fin.sg 1 (y := (60, [some (.ref 1), some (va_rf (g.2.2 1 9))], [.ref 1027, va_rf (g.2.2 1 9)], s_hg g)) rfl ?_
                have hw : s_okw (g.2.2 1 9) = true := Classical.byContradiction fun h => (by rw [if_neg h] at hB; cases hB)
                rw [if_pos hw] at hB
                by_cases hc : (g.2.2 1 9) = some 1027
                · rw [if_pos hc] at hB
                  refine s_Fin.nx (pc1 := 70) (L1 := [some (.ref 1), some (va_rf (g.2.2 1 9))]) (st1 := []) (h1 := s_hg g) ((show _ = s_acE 70 60 [some (.ref 1), some (va_rf (g.2.2 1 9))] [] (s_hg g) (.ref 1027) (va_rf (g.2.2 1 9)) from rfl).trans (s_acE_t hw rfl hc)) rfl ?_
                  refine s_Fin.sg 2 (y := (75, [some (.ref 1), some (va_rf (g.2.2 1 9))], [.int (1 : Int32)], s_hg g)) rfl ?_
                  have hB := Option.some.inj hB
                  subst hB
                  obtain ⟨rfl, rfl⟩ := hr
                  exact s_Fin.rt rfl rfl
                · rw [if_neg hc] at hB
                  refine s_Fin.nx (pc1 := 63) (L1 := [some (.ref 1), some (va_rf (g.2.2 1 9))]) (st1 := []) (h1 := s_hg g) ((show _ = s_acE 70 60 [some (.ref 1), some (va_rf (g.2.2 1 9))] [] (s_hg g) (.ref 1027) (va_rf (g.2.2 1 9)) from rfl).trans (s_acE_f hw rfl hc)) rfl ?_
                  refine s_Fin.nx (pc1 := 64) (L1 := [some (.ref 1), some (va_rf (g.2.2 1 9))]) (st1 := [va_rf (g.2.2 1 9)]) (h1 := s_hg g) (by generalize (g.2.2 1 9) = w; cases w <;> exact rfl) rfl ?_
                  refine s_Fin.sg 1 (y := (67, [some (.ref 1), some (va_rf (g.2.2 1 9))], [.ref 1028, va_rf (g.2.2 1 9)], s_hg g)) rfl ?_
                  have hw : s_okw (g.2.2 1 9) = true := Classical.byContradiction fun h => (by rw [if_neg h] at hB; cases hB)
                  rw [if_pos hw] at hB
                  by_cases hc : (g.2.2 1 9) = some 1028
                  · rw [if_pos hc] at hB
                    refine s_Fin.nx (pc1 := 70) (L1 := [some (.ref 1), some (va_rf (g.2.2 1 9))]) (st1 := []) (h1 := s_hg g) ((show _ = s_acN 74 67 [some (.ref 1), some (va_rf (g.2.2 1 9))] [] (s_hg g) (.ref 1028) (va_rf (g.2.2 1 9)) from rfl).trans (s_acN_t hw rfl hc)) rfl ?_
                    refine s_Fin.sg 2 (y := (75, [some (.ref 1), some (va_rf (g.2.2 1 9))], [.int (1 : Int32)], s_hg g)) rfl ?_
                    have hB := Option.some.inj hB
                    subst hB
                    obtain ⟨rfl, rfl⟩ := hr
                    exact s_Fin.rt rfl rfl
                  · rw [if_neg hc] at hB
                    refine s_Fin.nx (pc1 := 74) (L1 := [some (.ref 1), some (va_rf (g.2.2 1 9))]) (st1 := []) (h1 := s_hg g) ((show _ = s_acN 74 67 [some (.ref 1), some (va_rf (g.2.2 1 9))] [] (s_hg g) (.ref 1028) (va_rf (g.2.2 1 9)) from rfl).trans (s_acN_f hw rfl hc)) rfl ?_
                    refine s_Fin.sg 1 (y := (75, [some (.ref 1), some (va_rf (g.2.2 1 9))], [.int (0 : Int32)], s_hg g)) rfl ?_
                    have hB := Option.some.inj hB
                    subst hB
                    obtain ⟨rfl, rfl⟩ := hr
                    exact s_Fin.rt rfl rfl
      · rw [if_neg hc] at hB
        refine s_Fin.bt (c := ¬ v2 = 0) (tg := 70) (p2 := 25) (L1 := [some (.ref 1), some (va_rf (g.2.2 1 9))]) (st1 := []) hc rfl ?_
        refine s_Fin.sg 2 (y := (75, [some (.ref 1), some (va_rf (g.2.2 1 9))], [.int (1 : Int32)], s_hg g)) rfl ?_
        have hB := Option.some.inj hB
        subst hB
        obtain ⟨rfl, rfl⟩ := hr
        exact s_Fin.rt rfl rfl
  · rw [if_neg hc] at hB
    refine s_Fin.bt (c := ¬ v1 = 0) (tg := 70) (p2 := 11) (L1 := [some (.ref 1), some (va_rf (g.2.2 1 9))]) (st1 := []) hc rfl ?_
    refine s_Fin.sg 2 (y := (75, [some (.ref 1), some (va_rf (g.2.2 1 9))], [.int (1 : Int32)], s_hg g)) rfl ?_
    have hB := Option.some.inj hB
    subst hB
    obtain ⟨rfl, rfl⟩ := hr
    exact s_Fin.rt rfl rfl
-- CampAshes$Tape.isWord
noncomputable def fQ_isWord_1_1018 (g : s_G) : Option (Int32) :=
  if (g.1 1 5) = (2 : Int32) then (if s_okw (g.2.2 1 9) = true then (if (g.2.2 1 9) = some 1018 then (some (1 : Int32))
  else some (0 : Int32)) else none)
  else some (0 : Int32)
theorem fQ_isWord_1_1018_s {g : s_G} {z : Int32} (hB : fQ_isWord_1_1018 g = some z) : s_Ev 0 s_m28 [.ref 1, .ref 1018] (s_hg g) (some (.int z)) (s_hg g) := by
  unfold fQ_isWord_1_1018 at hB
  refine s_Ev.fin ((?_ : ∀ (v : Option Value) (h' : s_H), (fun (z : Int32) (v : Option Value) (h' : s_H) => v = some (.int z) ∧ h' = s_hg g) z v h' → s_Fin 0 s_m28 (0, s_ent [.ref 1, .ref 1018] (s_m28).2.2.1, [], s_hg g) v h') _ _ ⟨rfl, rfl⟩)
  intro v h' hr
  refine (show s_Fin 0 s_m28 (0, [some (.ref 1), some (.ref 1018)], [], s_hg g) v h' from ?_)
  refine s_Fin.sg 3 (y := (5, [some (.ref 1), some (.ref 1018)], [.int (2 : Int32), .int (g.1 1 5)], s_hg g)) rfl ?_
  by_cases hc : (g.1 1 5) = (2 : Int32)
  · rw [if_pos hc] at hB
    refine s_Fin.bf (c := ¬ (g.1 1 5) = (2 : Int32)) (tg := 20) (p2 := 5) (L1 := [some (.ref 1), some (.ref 1018)]) (st1 := []) (fun h => h hc) rfl ?_
    refine s_Fin.sg 3 (y := (13, [some (.ref 1), some (.ref 1018)], [.ref 1018, va_rf (g.2.2 1 9)], s_hg g)) rfl ?_
    have hw : s_okw (g.2.2 1 9) = true := Classical.byContradiction fun h => (by rw [if_neg h] at hB; cases hB)
    rw [if_pos hw] at hB
    by_cases hc : (g.2.2 1 9) = some 1018
    · rw [if_pos hc] at hB
      refine s_Fin.nx (pc1 := 16) (L1 := [some (.ref 1), some (.ref 1018)]) (st1 := []) (h1 := s_hg g) ((show _ = s_acN 20 13 [some (.ref 1), some (.ref 1018)] [] (s_hg g) (.ref 1018) (va_rf (g.2.2 1 9)) from rfl).trans (s_acN_t hw rfl hc)) rfl ?_
      refine s_Fin.sg 2 (y := (21, [some (.ref 1), some (.ref 1018)], [.int (1 : Int32)], s_hg g)) rfl ?_
      have hB := Option.some.inj hB
      subst hB
      obtain ⟨rfl, rfl⟩ := hr
      exact s_Fin.rt rfl rfl
    · rw [if_neg hc] at hB
      refine s_Fin.nx (pc1 := 20) (L1 := [some (.ref 1), some (.ref 1018)]) (st1 := []) (h1 := s_hg g) ((show _ = s_acN 20 13 [some (.ref 1), some (.ref 1018)] [] (s_hg g) (.ref 1018) (va_rf (g.2.2 1 9)) from rfl).trans (s_acN_f hw rfl hc)) rfl ?_
      refine s_Fin.sg 1 (y := (21, [some (.ref 1), some (.ref 1018)], [.int (0 : Int32)], s_hg g)) rfl ?_
      have hB := Option.some.inj hB
      subst hB
      obtain ⟨rfl, rfl⟩ := hr
      exact s_Fin.rt rfl rfl
  · rw [if_neg hc] at hB
    refine s_Fin.bt (c := ¬ (g.1 1 5) = (2 : Int32)) (tg := 20) (p2 := 5) (L1 := [some (.ref 1), some (.ref 1018)]) (st1 := []) hc rfl ?_
    refine s_Fin.sg 1 (y := (21, [some (.ref 1), some (.ref 1018)], [.int (0 : Int32)], s_hg g)) rfl ?_
    have hB := Option.some.inj hB
    subst hB
    obtain ⟨rfl, rfl⟩ := hr
    exact s_Fin.rt rfl rfl
-- CampAshes$Sentence.addStep
noncomputable def fS_addStep_32_1018 (x2 : Int32) (x3 : Int32) (g : s_G) : Option (s_G) :=
  if (g.1 32 4) < (40 : Int32) then (if s_okw (some 1018) = true then s_b1 (s_ix 40 (g.1 32 4)) fun k2 => s_b1 (s_ix 40 (g.1 32 4)) fun k4 => some (s_si (s_si (s_si (s_sr g 33 k2 (some 1018)) 34 k4 x2) 35 k4 x3) 32 4 ((g.1 32 4) + (1 : Int32)))
  else none)
  else some g
theorem fS_addStep_32_1018_s {x2 : Int32} {x3 : Int32} {g : s_G} {z : s_G} (hB : fS_addStep_32_1018 x2 x3 g = some z) : s_Ev 0 s_m142 [.ref 32, .ref 1018, .int x2, .int x3] (s_hg g) (none) (s_hg z) := by
  unfold fS_addStep_32_1018 at hB
  refine s_Ev.fin ((?_ : ∀ (v : Option Value) (h' : s_H), (fun (z : s_G) (v : Option Value) (h' : s_H) => v = none ∧ h' = s_hg z) z v h' → s_Fin 0 s_m142 (0, s_ent [.ref 32, .ref 1018, .int x2, .int x3] (s_m142).2.2.1, [], s_hg g) v h') _ _ ⟨rfl, rfl⟩)
  intro v h' hr
  refine (show s_Fin 0 s_m142 (0, [some (.ref 32), some (.ref 1018), some (.int x2), some (.int x3)], [], s_hg g) v h' from ?_)
  refine s_Fin.sg 3 (y := (6, [some (.ref 32), some (.ref 1018), some (.int x2), some (.int x3)], [.int (40 : Int32), .int (g.1 32 4)], s_hg g)) rfl ?_
  by_cases hc : (g.1 32 4) < (40 : Int32)
  · rw [if_pos hc] at hB
    refine s_Fin.bf (c := (40 : Int32) ≤ (g.1 32 4)) (tg := 49) (p2 := 6) (L1 := [some (.ref 32), some (.ref 1018), some (.int x2), some (.int x3)]) (st1 := []) (Int32.not_le.mpr hc) rfl ?_
    refine s_Fin.sg 5 (y := (18, [some (.ref 32), some (.ref 1018), some (.int x2), some (.int x3)], [.ref 1018, .int (g.1 32 4), .ref 33], s_hg g)) rfl ?_
    have hw : s_okw (some 1018) = true := Classical.byContradiction fun h => (by rw [if_neg h] at hB; cases hB)
    rw [if_pos hw] at hB
    obtain ⟨k2, hk, hB⟩ := s_bd hB
    refine s_Fin.nx (pc1 := 19) (L1 := [some (.ref 32), some (.ref 1018), some (.int x2), some (.int x3)]) (st1 := []) (h1 := s_hg (s_sr g 33 k2 (some 1018))) ((show _ = s_aaw 33 40 19 [some (.ref 32), some (.ref 1018), some (.int x2), some (.int x3)] [] (s_hg g) (g.1 32 4) (.ref 1018) from rfl).trans (s_aaw_of (k := k2) rfl rfl hw hk (fun k => s_wR_hg rfl))) rfl ?_
    refine s_Fin.sg 5 (y := (28, [some (.ref 32), some (.ref 1018), some (.int x2), some (.int x3)], [.int x2, .int (g.1 32 4), .ref 34], s_hg (s_sr g 33 k2 (some 1018)))) rfl ?_
    obtain ⟨k4, hk4, hB⟩ := s_bd hB
    refine s_Fin.ix (n := 40) (i := g.1 32 4) (pc1 := 29) (L1 := [some (.ref 32), some (.ref 1018), some (.int x2), some (.int x3)]) (fun j3 => []) (fun j3 => s_hg (s_si (s_sr g 33 k2 (some 1018)) 34 j3 x2)) hk4 rfl rfl ?_
    refine s_Fin.sg 5 (y := (38, [some (.ref 32), some (.ref 1018), some (.int x2), some (.int x3)], [.int x3, .int (g.1 32 4), .ref 35], s_hg (s_si (s_sr g 33 k2 (some 1018)) 34 k4 x2))) rfl ?_
    refine s_Fin.ix (n := 40) (i := g.1 32 4) (pc1 := 39) (L1 := [some (.ref 32), some (.ref 1018), some (.int x2), some (.int x3)]) (fun j5 => []) (fun j5 => s_hg (s_si (s_si (s_sr g 33 k2 (some 1018)) 34 k4 x2) 35 j5 x3)) hk4 rfl rfl ?_
    refine s_Fin.sg 6 (y := (49, [some (.ref 32), some (.ref 1018), some (.int x2), some (.int x3)], [], s_hg (s_si (s_si (s_si (s_sr g 33 k2 (some 1018)) 34 k4 x2) 35 k4 x3) 32 4 ((g.1 32 4) + (1 : Int32))))) rfl ?_
    have hB := Option.some.inj hB
    subst hB
    obtain ⟨rfl, rfl⟩ := hr
    exact s_Fin.rt rfl rfl
  · rw [if_neg hc] at hB
    refine s_Fin.bt (c := (40 : Int32) ≤ (g.1 32 4)) (tg := 49) (p2 := 6) (L1 := [some (.ref 32), some (.ref 1018), some (.int x2), some (.int x3)]) (st1 := []) (Int32.not_lt.mp hc) rfl ?_
    have hB := Option.some.inj hB
    subst hB
    obtain ⟨rfl, rfl⟩ := hr
    exact s_Fin.rt rfl rfl
