-- CampAshes$Sentence.readAll
noncomputable def fS_readAll_32_1_3_15 (K : Int32 → s_G → Option (Int32 × s_G)) (x3 : Int32) (x4 : Int32) (g : s_G) : Option ((Int32 × s_G) ⊕ (Int32 × s_G)) :=
  if x4 < (20 : Int32) then (s_b1 (fQ_isWord_1_1018 g) fun v3 => if v3 = 0 then (s_in (some ((1 : Int32), g)))
  else s_b1 (fQ_next_1 g) fun g4 => s_b2 (K x3 g4) fun v6 g5 => if v6 = 0 then (s_in (some ((0 : Int32), g5)))
  else s_b1 (fS_addStep_32_1018 (0 : Int32) (0 : Int32) g5) fun g7 => some (.inl (x4 + (1 : Int32), g7)))
  else s_in (some ((1 : Int32), g))
theorem fS_readAll_32_1_3_15_s {K : Int32 → s_G → Option (Int32 × s_G)} {e : Nat} (he : 40 ≤ e) (hK : ∀ (x3 : Int32) (g : s_G) (z : Int32 × s_G), K x3 g = some z → s_Ev e s_m139 [.ref 32, .ref 1, .ref 3, .int x3] (s_hg g) (some (.int z.1)) (s_hg z.2)) {x3 : Int32} {x4 : Int32} {g : s_G} {z : (Int32 × s_G) ⊕ (Int32 × s_G)} (hB : fS_readAll_32_1_3_15 K x3 x4 g = some z) {v : Option Value} {h' : s_H} (hr : (s_sm (fun (x : Int32 × s_G) (v : Option Value) (h' : s_H) => s_Fin (e + 1) s_m138 (15, [some (.ref 32), some (.ref 1), some (.ref 3), some (.int x3), some (.int x.1)], [], s_hg x.2) v h') (fun (z : Int32 × s_G) (v : Option Value) (h' : s_H) => v = some (.int z.1) ∧ h' = s_hg z.2)) z v h') : s_Fin (e + 1) s_m138 (15, [some (.ref 32), some (.ref 1), some (.ref 3), some (.int x3), some (.int x4)], [], s_hg g) v h' := by
  unfold fS_readAll_32_1_3_15 at hB
  refine s_Fin.sg 2 (y := (19, [some (.ref 32), some (.ref 1), some (.ref 3), some (.int x3), some (.int x4)], [.int (20 : Int32), .int x4], s_hg g)) rfl ?_
  by_cases hc : x4 < (20 : Int32)
  · rw [if_pos hc] at hB
    refine s_Fin.bf (c := (20 : Int32) ≤ x4) (tg := 63) (p2 := 19) (L1 := [some (.ref 32), some (.ref 1), some (.ref 3), some (.int x3), some (.int x4)]) (st1 := []) (Int32.not_le.mpr hc) rfl ?_
    refine s_Fin.sg 2 (y := (26, [some (.ref 32), some (.ref 1), some (.ref 3), some (.int x3), some (.int x4)], [.ref 1018, .ref 1], s_hg g)) rfl ?_
    obtain ⟨v3, hp, hB⟩ := s_bd hB
    refine s_Fin.cl (d := e + 0) (q1 := s_m28) (md := 28) (vs := [.ref 1, .ref 1018]) (rest := []) (h1 := s_hg g) (u := some (.int v3)) (s_Ev.up (by omega) (fQ_isWord_1_1018_s hp)) rfl rfl rfl rfl ?_
    by_cases hc : v3 = 0
    · rw [if_pos hc] at hB
      refine s_Fin.bt (c := v3 = 0) (tg := 63) (p2 := 29) (L1 := [some (.ref 32), some (.ref 1), some (.ref 3), some (.int x3), some (.int x4)]) (st1 := []) hc rfl ?_
      obtain ⟨_, hN, hz⟩ := s_in_of hB
      subst hz
      have hB := hN
      refine s_Fin.sg 1 (y := (64, [some (.ref 32), some (.ref 1), some (.ref 3), some (.int x3), some (.int x4)], [.int (1 : Int32)], s_hg g)) rfl ?_
      have hB := Option.some.inj hB
      subst hB
      obtain ⟨rfl, rfl⟩ := hr
      exact s_Fin.rt rfl rfl
    · rw [if_neg hc] at hB
      refine s_Fin.bf (c := v3 = 0) (tg := 63) (p2 := 29) (L1 := [some (.ref 32), some (.ref 1), some (.ref 3), some (.int x3), some (.int x4)]) (st1 := []) hc rfl ?_
      refine s_Fin.sg 1 (y := (33, [some (.ref 32), some (.ref 1), some (.ref 3), some (.int x3), some (.int x4)], [.ref 1], s_hg g)) rfl ?_
      obtain ⟨g4, hp, hB⟩ := s_bd hB
      refine s_Fin.cl (d := e + 0) (q1 := s_m20) (md := 20) (vs := [.ref 1]) (rest := []) (h1 := s_hg g4) (u := none) (s_Ev.up (by omega) (fQ_next_1_s hp)) rfl rfl rfl rfl ?_
      refine s_Fin.sg 4 (y := (40, [some (.ref 32), some (.ref 1), some (.ref 3), some (.int x3), some (.int x4)], [.int x3, .ref 3, .ref 1, .ref 32], s_hg g4)) rfl ?_
      obtain ⟨v6, g5, hp, hB⟩ := s_bd2 hB
      refine s_Fin.cl (d := e + 0) (q1 := s_m139) (md := 139) (vs := [.ref 32, .ref 1, .ref 3, .int x3]) (rest := []) (h1 := s_hg g5) (u := some (.int v6)) (s_Ev.up (by omega) (hK _ _ _ hp)) rfl rfl rfl rfl ?_
      by_cases hc : v6 = 0
      · rw [if_pos hc] at hB
        refine s_Fin.bf (c := ¬ v6 = 0) (tg := 48) (p2 := 43) (L1 := [some (.ref 32), some (.ref 1), some (.ref 3), some (.int x3), some (.int x4)]) (st1 := []) (fun h => h hc) rfl ?_
        obtain ⟨_, hN, hz⟩ := s_in_of hB
        subst hz
        have hB := hN
        refine s_Fin.sg 1 (y := (47, [some (.ref 32), some (.ref 1), some (.ref 3), some (.int x3), some (.int x4)], [.int (0 : Int32)], s_hg g5)) rfl ?_
        have hB := Option.some.inj hB
        subst hB
        obtain ⟨rfl, rfl⟩ := hr
        exact s_Fin.rt rfl rfl
      · rw [if_neg hc] at hB
        refine s_Fin.bt (c := ¬ v6 = 0) (tg := 48) (p2 := 43) (L1 := [some (.ref 32), some (.ref 1), some (.ref 3), some (.int x3), some (.int x4)]) (st1 := []) hc rfl ?_
        refine s_Fin.sg 4 (y := (54, [some (.ref 32), some (.ref 1), some (.ref 3), some (.int x3), some (.int x4)], [.int (0 : Int32), .int (0 : Int32), .ref 1018, .ref 32], s_hg g5)) rfl ?_
        obtain ⟨g7, hp, hB⟩ := s_bd hB
        refine s_Fin.cl (d := e + 0) (q1 := s_m142) (md := 142) (vs := [.ref 32, .ref 1018, .int (0 : Int32), .int (0 : Int32)]) (rest := []) (h1 := s_hg g7) (u := none) (s_Ev.up (by omega) (fS_addStep_32_1018_s hp)) rfl rfl rfl rfl ?_
        refine s_Fin.sg 2 (y := (15, [some (.ref 32), some (.ref 1), some (.ref 3), some (.int x3), some (.int (x4 + (1 : Int32)))], [], s_hg g7)) rfl ?_
        have hB := Option.some.inj hB
        subst hB
        exact s_Fin.more (L := [some (.ref 32), some (.ref 1), some (.ref 3), some (.int x3), some (.int (x4 + (1 : Int32)))]) ⟨Or.inr rfl, Or.inr rfl, Or.inr rfl, Or.inr rfl, Or.inr rfl, trivial⟩ hr
  · rw [if_neg hc] at hB
    refine s_Fin.bt (c := (20 : Int32) ≤ x4) (tg := 63) (p2 := 19) (L1 := [some (.ref 32), some (.ref 1), some (.ref 3), some (.int x3), some (.int x4)]) (st1 := []) (Int32.not_lt.mp hc) rfl ?_
    obtain ⟨_, hN, hz⟩ := s_in_of hB
    subst hz
    have hB := hN
    refine s_Fin.sg 1 (y := (64, [some (.ref 32), some (.ref 1), some (.ref 3), some (.int x3), some (.int x4)], [.int (1 : Int32)], s_hg g)) rfl ?_
    have hB := Option.some.inj hB
    subst hB
    obtain ⟨rfl, rfl⟩ := hr
    exact s_Fin.rt rfl rfl
noncomputable def fS_readAll_32_1_3 (K : Int32 → s_G → Option (Int32 × s_G)) (x3 : Int32) (g : s_G) : Option (Int32 × s_G) :=
  s_b2 (K x3 g) fun v2 g1 => if v2 = 0 then (some ((0 : Int32), g1))
  else s_lp (fun x => fS_readAll_32_1_3_15 K x3 x.1 x.2) ((0 : Int32), g1)
theorem fS_readAll_32_1_3_s {K : Int32 → s_G → Option (Int32 × s_G)} {e : Nat} (he : 40 ≤ e) (hK : ∀ (x3 : Int32) (g : s_G) (z : Int32 × s_G), K x3 g = some z → s_Ev e s_m139 [.ref 32, .ref 1, .ref 3, .int x3] (s_hg g) (some (.int z.1)) (s_hg z.2)) {x3 : Int32} {g : s_G} {z : Int32 × s_G} (hB : fS_readAll_32_1_3 K x3 g = some z) : s_Ev (e + 1) s_m138 [.ref 32, .ref 1, .ref 3, .int x3] (s_hg g) (some (.int z.1)) (s_hg z.2) := by
  unfold fS_readAll_32_1_3 at hB
  refine s_Ev.fin ((?_ : ∀ (v : Option Value) (h' : s_H), (fun (z : Int32 × s_G) (v : Option Value) (h' : s_H) => v = some (.int z.1) ∧ h' = s_hg z.2) z v h' → s_Fin (e + 1) s_m138 (0, s_ent [.ref 32, .ref 1, .ref 3, .int x3] (s_m138).2.2.1, [], s_hg g) v h') _ _ ⟨rfl, rfl⟩)
  intro v h' hr
  refine (show s_Fin (e + 1) s_m138 (0, [some (.ref 32), some (.ref 1), some (.ref 3), some (.int x3), none], [], s_hg g) v h' from ?_)
  refine s_Fin.sg 4 (y := (4, [some (.ref 32), some (.ref 1), some (.ref 3), some (.int x3), none], [.int x3, .ref 3, .ref 1, .ref 32], s_hg g)) rfl ?_
  obtain ⟨v2, g1, hp, hB⟩ := s_bd2 hB
  refine s_Fin.cl (d := e + 0) (q1 := s_m139) (md := 139) (vs := [.ref 32, .ref 1, .ref 3, .int x3]) (rest := []) (h1 := s_hg g1) (u := some (.int v2)) (s_Ev.up (by omega) (hK _ _ _ hp)) rfl rfl rfl rfl ?_
  by_cases hc : v2 = 0
  · rw [if_pos hc] at hB
    refine s_Fin.bf (c := ¬ v2 = 0) (tg := 12) (p2 := 7) (L1 := [some (.ref 32), some (.ref 1), some (.ref 3), some (.int x3), none]) (st1 := []) (fun h => h hc) rfl ?_
    refine s_Fin.sg 1 (y := (11, [some (.ref 32), some (.ref 1), some (.ref 3), some (.int x3), none], [.int (0 : Int32)], s_hg g1)) rfl ?_
    have hB := Option.some.inj hB
    subst hB
    obtain ⟨rfl, rfl⟩ := hr
    exact s_Fin.rt rfl rfl
  · rw [if_neg hc] at hB
    refine s_Fin.bt (c := ¬ v2 = 0) (tg := 12) (p2 := 7) (L1 := [some (.ref 32), some (.ref 1), some (.ref 3), some (.int x3), none]) (st1 := []) hc rfl ?_
    refine s_Fin.sg 2 (y := (15, [some (.ref 32), some (.ref 1), some (.ref 3), some (.int x3), some (.int (0 : Int32))], [], s_hg g1)) rfl ?_
    exact s_Fin.more (L := [some (.ref 32), some (.ref 1), some (.ref 3), some (.int x3), some (.int (0 : Int32))]) ⟨Or.inr rfl, Or.inr rfl, Or.inr rfl, Or.inr rfl, Or.inr rfl, trivial⟩ (s_lp_s (P := (fun (x : Int32 × s_G) (v : Option Value) (h' : s_H) => s_Fin (e + 1) s_m138 (15, [some (.ref 32), some (.ref 1), some (.ref 3), some (.int x3), some (.int x.1)], [], s_hg x.2) v h')) (Q := (fun (z : Int32 × s_G) (v : Option Value) (h' : s_H) => v = some (.int z.1) ∧ h' = s_hg z.2)) (fun x z hB v h' hr => fS_readAll_32_1_3_15_s he hK hB hr) hB _ _ hr)
-- CampAshes$Tape.isWord
noncomputable def fQ_isWord_1_1017 (g : s_G) : Option (Int32) :=
  if (g.1 1 5) = (2 : Int32) then (if s_okw (g.2.2 1 9) = true then (if (g.2.2 1 9) = some 1017 then (some (1 : Int32))
  else some (0 : Int32)) else none)
  else some (0 : Int32)
theorem fQ_isWord_1_1017_s {g : s_G} {z : Int32} (hB : fQ_isWord_1_1017 g = some z) : s_Ev 0 s_m28 [.ref 1, .ref 1017] (s_hg g) (some (.int z)) (s_hg g) := by
  unfold fQ_isWord_1_1017 at hB
  refine s_Ev.fin ((?_ : ∀ (v : Option Value) (h' : s_H), (fun (z : Int32) (v : Option Value) (h' : s_H) => v = some (.int z) ∧ h' = s_hg g) z v h' → s_Fin 0 s_m28 (0, s_ent [.ref 1, .ref 1017] (s_m28).2.2.1, [], s_hg g) v h') _ _ ⟨rfl, rfl⟩)
  intro v h' hr
  refine (show s_Fin 0 s_m28 (0, [some (.ref 1), some (.ref 1017)], [], s_hg g) v h' from ?_)
  refine s_Fin.sg 3 (y := (5, [some (.ref 1), some (.ref 1017)], [.int (2 : Int32), .int (g.1 1 5)], s_hg g)) rfl ?_
  by_cases hc : (g.1 1 5) = (2 : Int32)
  · rw [if_pos hc] at hB
    refine s_Fin.bf (c := ¬ (g.1 1 5) = (2 : Int32)) (tg := 20) (p2 := 5) (L1 := [some (.ref 1), some (.ref 1017)]) (st1 := []) (fun h => h hc) rfl ?_
    refine s_Fin.sg 3 (y := (13, [some (.ref 1), some (.ref 1017)], [.ref 1017, va_rf (g.2.2 1 9)], s_hg g)) rfl ?_
    have hw : s_okw (g.2.2 1 9) = true := Classical.byContradiction fun h => (by rw [if_neg h] at hB; cases hB)
    rw [if_pos hw] at hB
    by_cases hc : (g.2.2 1 9) = some 1017
    · rw [if_pos hc] at hB
      refine s_Fin.nx (pc1 := 16) (L1 := [some (.ref 1), some (.ref 1017)]) (st1 := []) (h1 := s_hg g) ((show _ = s_acN 20 13 [some (.ref 1), some (.ref 1017)] [] (s_hg g) (.ref 1017) (va_rf (g.2.2 1 9)) from rfl).trans (s_acN_t hw rfl hc)) rfl ?_
      refine s_Fin.sg 2 (y := (21, [some (.ref 1), some (.ref 1017)], [.int (1 : Int32)], s_hg g)) rfl ?_
      have hB := Option.some.inj hB
      subst hB
      obtain ⟨rfl, rfl⟩ := hr
      exact s_Fin.rt rfl rfl
    · rw [if_neg hc] at hB
      refine s_Fin.nx (pc1 := 20) (L1 := [some (.ref 1), some (.ref 1017)]) (st1 := []) (h1 := s_hg g) ((show _ = s_acN 20 13 [some (.ref 1), some (.ref 1017)] [] (s_hg g) (.ref 1017) (va_rf (g.2.2 1 9)) from rfl).trans (s_acN_f hw rfl hc)) rfl ?_
      refine s_Fin.sg 1 (y := (21, [some (.ref 1), some (.ref 1017)], [.int (0 : Int32)], s_hg g)) rfl ?_
      have hB := Option.some.inj hB
      subst hB
      obtain ⟨rfl, rfl⟩ := hr
      exact s_Fin.rt rfl rfl
  · rw [if_neg hc] at hB
    refine s_Fin.bt (c := ¬ (g.1 1 5) = (2 : Int32)) (tg := 20) (p2 := 5) (L1 := [some (.ref 1), some (.ref 1017)]) (st1 := []) hc rfl ?_
    refine s_Fin.sg 1 (y := (21, [some (.ref 1), some (.ref 1017)], [.int (0 : Int32)], s_hg g)) rfl ?_
    have hB := Option.some.inj hB
    subst hB
    obtain ⟨rfl, rfl⟩ := hr
    exact s_Fin.rt rfl rfl
-- CampAshes$Sentence.addStep
noncomputable def fS_addStep_32_1017 (x2 : Int32) (x3 : Int32) (g : s_G) : Option (s_G) :=
  if (g.1 32 4) < (40 : Int32) then (if s_okw (some 1017) = true then s_b1 (s_ix 40 (g.1 32 4)) fun k2 => s_b1 (s_ix 40 (g.1 32 4)) fun k4 => some (s_si (s_si (s_si (s_sr g 33 k2 (some 1017)) 34 k4 x2) 35 k4 x3) 32 4 ((g.1 32 4) + (1 : Int32)))
  else none)
  else some g
theorem fS_addStep_32_1017_s {x2 : Int32} {x3 : Int32} {g : s_G} {z : s_G} (hB : fS_addStep_32_1017 x2 x3 g = some z) : s_Ev 0 s_m142 [.ref 32, .ref 1017, .int x2, .int x3] (s_hg g) (none) (s_hg z) := by
  unfold fS_addStep_32_1017 at hB
  refine s_Ev.fin ((?_ : ∀ (v : Option Value) (h' : s_H), (fun (z : s_G) (v : Option Value) (h' : s_H) => v = none ∧ h' = s_hg z) z v h' → s_Fin 0 s_m142 (0, s_ent [.ref 32, .ref 1017, .int x2, .int x3] (s_m142).2.2.1, [], s_hg g) v h') _ _ ⟨rfl, rfl⟩)
  intro v h' hr
  refine (show s_Fin 0 s_m142 (0, [some (.ref 32), some (.ref 1017), some (.int x2), some (.int x3)], [], s_hg g) v h' from ?_)
  refine s_Fin.sg 3 (y := (6, [some (.ref 32), some (.ref 1017), some (.int x2), some (.int x3)], [.int (40 : Int32), .int (g.1 32 4)], s_hg g)) rfl ?_
  by_cases hc : (g.1 32 4) < (40 : Int32)
  · rw [if_pos hc] at hB
    refine s_Fin.bf (c := (40 : Int32) ≤ (g.1 32 4)) (tg := 49) (p2 := 6) (L1 := [some (.ref 32), some (.ref 1017), some (.int x2), some (.int x3)]) (st1 := []) (Int32.not_le.mpr hc) rfl ?_
    refine s_Fin.sg 5 (y := (18, [some (.ref 32), some (.ref 1017), some (.int x2), some (.int x3)], [.ref 1017, .int (g.1 32 4), .ref 33], s_hg g)) rfl ?_
    have hw : s_okw (some 1017) = true := Classical.byContradiction fun h => (by rw [if_neg h] at hB; cases hB)
    rw [if_pos hw] at hB
    obtain ⟨k2, hk, hB⟩ := s_bd hB
    refine s_Fin.nx (pc1 := 19) (L1 := [some (.ref 32), some (.ref 1017), some (.int x2), some (.int x3)]) (st1 := []) (h1 := s_hg (s_sr g 33 k2 (some 1017))) ((show _ = s_aaw 33 40 19 [some (.ref 32), some (.ref 1017), some (.int x2), some (.int x3)] [] (s_hg g) (g.1 32 4) (.ref 1017) from rfl).trans (s_aaw_of (k := k2) rfl rfl hw hk (fun k => s_wR_hg rfl))) rfl ?_
    refine s_Fin.sg 5 (y := (28, [some (.ref 32), some (.ref 1017), some (.int x2), some (.int x3)], [.int x2, .int (g.1 32 4), .ref 34], s_hg (s_sr g 33 k2 (some 1017)))) rfl ?_
    obtain ⟨k4, hk4, hB⟩ := s_bd hB
    refine s_Fin.ix (n := 40) (i := g.1 32 4) (pc1 := 29) (L1 := [some (.ref 32), some (.ref 1017), some (.int x2), some (.int x3)]) (fun j3 => []) (fun j3 => s_hg (s_si (s_sr g 33 k2 (some 1017)) 34 j3 x2)) hk4 rfl rfl ?_
    refine s_Fin.sg 5 (y := (38, [some (.ref 32), some (.ref 1017), some (.int x2), some (.int x3)], [.int x3, .int (g.1 32 4), .ref 35], s_hg (s_si (s_sr g 33 k2 (some 1017)) 34 k4 x2))) rfl ?_
    refine s_Fin.ix (n := 40) (i := g.1 32 4) (pc1 := 39) (L1 := [some (.ref 32), some (.ref 1017), some (.int x2), some (.int x3)]) (fun j5 => []) (fun j5 => s_hg (s_si (s_si (s_sr g 33 k2 (some 1017)) 34 k4 x2) 35 j5 x3)) hk4 rfl rfl ?_
    refine s_Fin.sg 6 (y := (49, [some (.ref 32), some (.ref 1017), some (.int x2), some (.int x3)], [], s_hg (s_si (s_si (s_si (s_sr g 33 k2 (some 1017)) 34 k4 x2) 35 k4 x3) 32 4 ((g.1 32 4) + (1 : Int32))))) rfl ?_
    have hB := Option.some.inj hB
    subst hB
    obtain ⟨rfl, rfl⟩ := hr
    exact s_Fin.rt rfl rfl
  · rw [if_neg hc] at hB
    refine s_Fin.bt (c := (40 : Int32) ≤ (g.1 32 4)) (tg := 49) (p2 := 6) (L1 := [some (.ref 32), some (.ref 1017), some (.int x2), some (.int x3)]) (st1 := []) (Int32.not_lt.mp hc) rfl ?_
    have hB := Option.some.inj hB
    subst hB
    obtain ⟨rfl, rfl⟩ := hr
    exact s_Fin.rt rfl rfl
-- CampAshes$Sentence.readCond
noncomputable def fS_readCond_32_1_3_15 (K : Int32 → s_G → Option (Int32 × s_G)) (x3 : Int32) (x4 : Int32) (g : s_G) : Option ((Int32 × s_G) ⊕ (Int32 × s_G)) :=
  if x4 < (20 : Int32) then (s_b1 (fQ_isWord_1_1017 g) fun v3 => if v3 = 0 then (s_in (some ((1 : Int32), g)))
  else s_b1 (fQ_next_1 g) fun g4 => s_b2 (fS_readAll_32_1_3 K x3 g4) fun v6 g5 => if v6 = 0 then (s_in (some ((0 : Int32), g5)))
  else s_b1 (fS_addStep_32_1017 (0 : Int32) (0 : Int32) g5) fun g7 => some (.inl (x4 + (1 : Int32), g7)))
  else s_in (some ((1 : Int32), g))
theorem fS_readCond_32_1_3_15_s {K : Int32 → s_G → Option (Int32 × s_G)} {e : Nat} (he : 40 ≤ e) (hK : ∀ (x3 : Int32) (g : s_G) (z : Int32 × s_G), K x3 g = some z → s_Ev e s_m139 [.ref 32, .ref 1, .ref 3, .int x3] (s_hg g) (some (.int z.1)) (s_hg z.2)) {x3 : Int32} {x4 : Int32} {g : s_G} {z : (Int32 × s_G) ⊕ (Int32 × s_G)} (hB : fS_readCond_32_1_3_15 K x3 x4 g = some z) {v : Option Value} {h' : s_H} (hr : (s_sm (fun (x : Int32 × s_G) (v : Option Value) (h' : s_H) => s_Fin (e + 2) s_m137 (15, [some (.ref 32), some (.ref 1), some (.ref 3), some (.int x3), some (.int x.1)], [], s_hg x.2) v h') (fun (z : Int32 × s_G) (v : Option Value) (h' : s_H) => v = some (.int z.1) ∧ h' = s_hg z.2)) z v h') : s_Fin (e + 2) s_m137 (15, [some (.ref 32), some (.ref 1), some (.ref 3), some (.int x3), some (.int x4)], [], s_hg g) v h' := by
  unfold fS_readCond_32_1_3_15 at hB
  refine s_Fin.sg 2 (y := (19, [some (.ref 32), some (.ref 1), some (.ref 3), some (.int x3), some (.int x4)], [.int (20 : Int32), .int x4], s_hg g)) rfl ?_
  by_cases hc : x4 < (20 : Int32)
  · rw [if_pos hc] at hB
    refine s_Fin.bf (c := (20 : Int32) ≤ x4) (tg := 63) (p2 := 19) (L1 := [some (.ref 32), some (.ref 1), some (.ref 3), some (.int x3), some (.int x4)]) (st1 := []) (Int32.not_le.mpr hc) rfl ?_
    refine s_Fin.sg 2 (y := (26, [some (.ref 32), some (.ref 1), some (.ref 3), some (.int x3), some (.int x4)], [.ref 1017, .ref 1], s_hg g)) rfl ?_
    obtain ⟨v3, hp, hB⟩ := s_bd hB
    refine s_Fin.cl (d := e + 1) (q1 := s_m28) (md := 28) (vs := [.ref 1, .ref 1017]) (rest := []) (h1 := s_hg g) (u := some (.int v3)) (s_Ev.up (by omega) (fQ_isWord_1_1017_s hp)) rfl rfl rfl rfl ?_
    by_cases hc : v3 = 0
    · rw [if_pos hc] at hB
      refine s_Fin.bt (c := v3 = 0) (tg := 63) (p2 := 29) (L1 := [some (.ref 32), some (.ref 1), some (.ref 3), some (.int x3), some (.int x4)]) (st1 := []) hc rfl ?_
      obtain ⟨_, hN, hz⟩ := s_in_of hB
      subst hz
      have hB := hN
      refine s_Fin.sg 1 (y := (64, [some (.ref 32), some (.ref 1), some (.ref 3), some (.int x3), some (.int x4)], [.int (1 : Int32)], s_hg g)) rfl ?_
      have hB := Option.some.inj hB
      subst hB
      obtain ⟨rfl, rfl⟩ := hr
      exact s_Fin.rt rfl rfl
    · rw [if_neg hc] at hB
      refine s_Fin.bf (c := v3 = 0) (tg := 63) (p2 := 29) (L1 := [some (.ref 32), some (.ref 1), some (.ref 3), some (.int x3), some (.int x4)]) (st1 := []) hc rfl ?_
      refine s_Fin.sg 1 (y := (33, [some (.ref 32), some (.ref 1), some (.ref 3), some (.int x3), some (.int x4)], [.ref 1], s_hg g)) rfl ?_
      obtain ⟨g4, hp, hB⟩ := s_bd hB
      refine s_Fin.cl (d := e + 1) (q1 := s_m20) (md := 20) (vs := [.ref 1]) (rest := []) (h1 := s_hg g4) (u := none) (s_Ev.up (by omega) (fQ_next_1_s hp)) rfl rfl rfl rfl ?_
      refine s_Fin.sg 4 (y := (40, [some (.ref 32), some (.ref 1), some (.ref 3), some (.int x3), some (.int x4)], [.int x3, .ref 3, .ref 1, .ref 32], s_hg g4)) rfl ?_
      obtain ⟨v6, g5, hp, hB⟩ := s_bd2 hB
      refine s_Fin.cl (d := e + 1) (q1 := s_m138) (md := 138) (vs := [.ref 32, .ref 1, .ref 3, .int x3]) (rest := []) (h1 := s_hg g5) (u := some (.int v6)) (s_Ev.up (by omega) (fS_readAll_32_1_3_s he hK hp)) rfl rfl rfl rfl ?_
      by_cases hc : v6 = 0
      · rw [if_pos hc] at hB
        refine s_Fin.bf (c := ¬ v6 = 0) (tg := 48) (p2 := 43) (L1 := [some (.ref 32), some (.ref 1), some (.ref 3), some (.int x3), some (.int x4)]) (st1 := []) (fun h => h hc) rfl ?_
        obtain ⟨_, hN, hz⟩ := s_in_of hB
        subst hz
        have hB := hN
        refine s_Fin.sg 1 (y := (47, [some (.ref 32), some (.ref 1), some (.ref 3), some (.int x3), some (.int x4)], [.int (0 : Int32)], s_hg g5)) rfl ?_
        have hB := Option.some.inj hB
        subst hB
        obtain ⟨rfl, rfl⟩ := hr
        exact s_Fin.rt rfl rfl
      · rw [if_neg hc] at hB
        refine s_Fin.bt (c := ¬ v6 = 0) (tg := 48) (p2 := 43) (L1 := [some (.ref 32), some (.ref 1), some (.ref 3), some (.int x3), some (.int x4)]) (st1 := []) hc rfl ?_
        refine s_Fin.sg 4 (y := (54, [some (.ref 32), some (.ref 1), some (.ref 3), some (.int x3), some (.int x4)], [.int (0 : Int32), .int (0 : Int32), .ref 1017, .ref 32], s_hg g5)) rfl ?_
        obtain ⟨g7, hp, hB⟩ := s_bd hB
        refine s_Fin.cl (d := e + 1) (q1 := s_m142) (md := 142) (vs := [.ref 32, .ref 1017, .int (0 : Int32), .int (0 : Int32)]) (rest := []) (h1 := s_hg g7) (u := none) (s_Ev.up (by omega) (fS_addStep_32_1017_s hp)) rfl rfl rfl rfl ?_
        refine s_Fin.sg 2 (y := (15, [some (.ref 32), some (.ref 1), some (.ref 3), some (.int x3), some (.int (x4 + (1 : Int32)))], [], s_hg g7)) rfl ?_
        have hB := Option.some.inj hB
        subst hB
        exact s_Fin.more (L := [some (.ref 32), some (.ref 1), some (.ref 3), some (.int x3), some (.int (x4 + (1 : Int32)))]) ⟨Or.inr rfl, Or.inr rfl, Or.inr rfl, Or.inr rfl, Or.inr rfl, trivial⟩ hr
  · rw [if_neg hc] at hB
    refine s_Fin.bt (c := (20 : Int32) ≤ x4) (tg := 63) (p2 := 19) (L1 := [some (.ref 32), some (.ref 1), some (.ref 3), some (.int x3), some (.int x4)]) (st1 := []) (Int32.not_lt.mp hc) rfl ?_
    obtain ⟨_, hN, hz⟩ := s_in_of hB
    subst hz
    have hB := hN
    refine s_Fin.sg 1 (y := (64, [some (.ref 32), some (.ref 1), some (.ref 3), some (.int x3), some (.int x4)], [.int (1 : Int32)], s_hg g)) rfl ?_
    have hB := Option.some.inj hB
    subst hB
    obtain ⟨rfl, rfl⟩ := hr
    exact s_Fin.rt rfl rfl
noncomputable def fS_readCond_32_1_3 (K : Int32 → s_G → Option (Int32 × s_G)) (x3 : Int32) (g : s_G) : Option (Int32 × s_G) :=
  s_b2 (fS_readAll_32_1_3 K x3 g) fun v2 g1 => if v2 = 0 then (some ((0 : Int32), g1))
  else s_lp (fun x => fS_readCond_32_1_3_15 K x3 x.1 x.2) ((0 : Int32), g1)
theorem fS_readCond_32_1_3_s {K : Int32 → s_G → Option (Int32 × s_G)} {e : Nat} (he : 40 ≤ e) (hK : ∀ (x3 : Int32) (g : s_G) (z : Int32 × s_G), K x3 g = some z → s_Ev e s_m139 [.ref 32, .ref 1, .ref 3, .int x3] (s_hg g) (some (.int z.1)) (s_hg z.2)) {x3 : Int32} {g : s_G} {z : Int32 × s_G} (hB : fS_readCond_32_1_3 K x3 g = some z) : s_Ev (e + 2) s_m137 [.ref 32, .ref 1, .ref 3, .int x3] (s_hg g) (some (.int z.1)) (s_hg z.2) := by
  unfold fS_readCond_32_1_3 at hB
  refine s_Ev.fin ((?_ : ∀ (v : Option Value) (h' : s_H), (fun (z : Int32 × s_G) (v : Option Value) (h' : s_H) => v = some (.int z.1) ∧ h' = s_hg z.2) z v h' → s_Fin (e + 2) s_m137 (0, s_ent [.ref 32, .ref 1, .ref 3, .int x3] (s_m137).2.2.1, [], s_hg g) v h') _ _ ⟨rfl, rfl⟩)
  intro v h' hr
  refine (show s_Fin (e + 2) s_m137 (0, [some (.ref 32), some (.ref 1), some (.ref 3), some (.int x3), none], [], s_hg g) v h' from ?_)
  refine s_Fin.sg 4 (y := (4, [some (.ref 32), some (.ref 1), some (.ref 3), some (.int x3), none], [.int x3, .ref 3, .ref 1, .ref 32], s_hg g)) rfl ?_
  obtain ⟨v2, g1, hp, hB⟩ := s_bd2 hB
  refine s_Fin.cl (d := e + 1) (q1 := s_m138) (md := 138) (vs := [.ref 32, .ref 1, .ref 3, .int x3]) (rest := []) (h1 := s_hg g1) (u := some (.int v2)) (s_Ev.up (by omega) (fS_readAll_32_1_3_s he hK hp)) rfl rfl rfl rfl ?_
  by_cases hc : v2 = 0
  · rw [if_pos hc] at hB
    refine s_Fin.bf (c := ¬ v2 = 0) (tg := 12) (p2 := 7) (L1 := [some (.ref 32), some (.ref 1), some (.ref 3), some (.int x3), none]) (st1 := []) (fun h => h hc) rfl ?_
    refine s_Fin.sg 1 (y := (11, [some (.ref 32), some (.ref 1), some (.ref 3), some (.int x3), none], [.int (0 : Int32)], s_hg g1)) rfl ?_
    have hB := Option.some.inj hB
    subst hB
    obtain ⟨rfl, rfl⟩ := hr
    exact s_Fin.rt rfl rfl
  · rw [if_neg hc] at hB
    refine s_Fin.bt (c := ¬ v2 = 0) (tg := 12) (p2 := 7) (L1 := [some (.ref 32), some (.ref 1), some (.ref 3), some (.int x3), none]) (st1 := []) hc rfl ?_
    refine s_Fin.sg 2 (y := (15, [some (.ref 32), some (.ref 1), some (.ref 3), some (.int x3), some (.int (0 : Int32))], [], s_hg g1)) rfl ?_
    exact s_Fin.more (L := [some (.ref 32), some (.ref 1), some (.ref 3), some (.int x3), some (.int (0 : Int32))]) ⟨Or.inr rfl, Or.inr rfl, Or.inr rfl, Or.inr rfl, Or.inr rfl, trivial⟩ (s_lp_s (P := (fun (x : Int32 × s_G) (v : Option Value) (h' : s_H) => s_Fin (e + 2) s_m137 (15, [some (.ref 32), some (.ref 1), some (.ref 3), some (.int x3), some (.int x.1)], [], s_hg x.2) v h')) (Q := (fun (z : Int32 × s_G) (v : Option Value) (h' : s_H) => v = some (.int z.1) ∧ h' = s_hg z.2)) (fun x z hB v h' hr => fS_readCond_32_1_3_15_s he hK hB hr) hB _ _ hr)
-- CampAshes$Sentence.addStep
noncomputable def fS_addStep_32_1019 (x2 : Int32) (x3 : Int32) (g : s_G) : Option (s_G) :=
  if (g.1 32 4) < (40 : Int32) then (if s_okw (some 1019) = true then s_b1 (s_ix 40 (g.1 32 4)) fun k2 => s_b1 (s_ix 40 (g.1 32 4)) fun k4 => some (s_si (s_si (s_si (s_sr g 33 k2 (some 1019)) 34 k4 x2) 35 k4 x3) 32 4 ((g.1 32 4) + (1 : Int32)))
  else none)
  else some g
theorem fS_addStep_32_1019_s {x2 : Int32} {x3 : Int32} {g : s_G} {z : s_G} (hB : fS_addStep_32_1019 x2 x3 g = some z) : s_Ev 0 s_m142 [.ref 32, .ref 1019, .int x2, .int x3] (s_hg g) (none) (s_hg z) := by
  unfold fS_addStep_32_1019 at hB
  refine s_Ev.fin ((?_ : ∀ (v : Option Value) (h' : s_H), (fun (z : s_G) (v : Option Value) (h' : s_H) => v = none ∧ h' = s_hg z) z v h' → s_Fin 0 s_m142 (0, s_ent [.ref 32, .ref 1019, .int x2, .int x3] (s_m142).2.2.1, [], s_hg g) v h') _ _ ⟨rfl, rfl⟩)
  intro v h' hr
  refine (show s_Fin 0 s_m142 (0, [some (.ref 32), some (.ref 1019), some (.int x2), some (.int x3)], [], s_hg g) v h' from ?_)
  refine s_Fin.sg 3 (y := (6, [some (.ref 32), some (.ref 1019), some (.int x2), some (.int x3)], [.int (40 : Int32), .int (g.1 32 4)], s_hg g)) rfl ?_
  by_cases hc : (g.1 32 4) < (40 : Int32)
  · rw [if_pos hc] at hB
    refine s_Fin.bf (c := (40 : Int32) ≤ (g.1 32 4)) (tg := 49) (p2 := 6) (L1 := [some (.ref 32), some (.ref 1019), some (.int x2), some (.int x3)]) (st1 := []) (Int32.not_le.mpr hc) rfl ?_
    refine s_Fin.sg 5 (y := (18, [some (.ref 32), some (.ref 1019), some (.int x2), some (.int x3)], [.ref 1019, .int (g.1 32 4), .ref 33], s_hg g)) rfl ?_
    have hw : s_okw (some 1019) = true := Classical.byContradiction fun h => (by rw [if_neg h] at hB; cases hB)
    rw [if_pos hw] at hB
    obtain ⟨k2, hk, hB⟩ := s_bd hB
    refine s_Fin.nx (pc1 := 19) (L1 := [some (.ref 32), some (.ref 1019), some (.int x2), some (.int x3)]) (st1 := []) (h1 := s_hg (s_sr g 33 k2 (some 1019))) ((show _ = s_aaw 33 40 19 [some (.ref 32), some (.ref 1019), some (.int x2), some (.int x3)] [] (s_hg g) (g.1 32 4) (.ref 1019) from rfl).trans (s_aaw_of (k := k2) rfl rfl hw hk (fun k => s_wR_hg rfl))) rfl ?_
    refine s_Fin.sg 5 (y := (28, [some (.ref 32), some (.ref 1019), some (.int x2), some (.int x3)], [.int x2, .int (g.1 32 4), .ref 34], s_hg (s_sr g 33 k2 (some 1019)))) rfl ?_
    obtain ⟨k4, hk4, hB⟩ := s_bd hB
    refine s_Fin.ix (n := 40) (i := g.1 32 4) (pc1 := 29) (L1 := [some (.ref 32), some (.ref 1019), some (.int x2), some (.int x3)]) (fun j3 => []) (fun j3 => s_hg (s_si (s_sr g 33 k2 (some 1019)) 34 j3 x2)) hk4 rfl rfl ?_
    refine s_Fin.sg 5 (y := (38, [some (.ref 32), some (.ref 1019), some (.int x2), some (.int x3)], [.int x3, .int (g.1 32 4), .ref 35], s_hg (s_si (s_sr g 33 k2 (some 1019)) 34 k4 x2))) rfl ?_
    refine s_Fin.ix (n := 40) (i := g.1 32 4) (pc1 := 39) (L1 := [some (.ref 32), some (.ref 1019), some (.int x2), some (.int x3)]) (fun j5 => []) (fun j5 => s_hg (s_si (s_si (s_sr g 33 k2 (some 1019)) 34 k4 x2) 35 j5 x3)) hk4 rfl rfl ?_
    refine s_Fin.sg 6 (y := (49, [some (.ref 32), some (.ref 1019), some (.int x2), some (.int x3)], [], s_hg (s_si (s_si (s_si (s_sr g 33 k2 (some 1019)) 34 k4 x2) 35 k4 x3) 32 4 ((g.1 32 4) + (1 : Int32))))) rfl ?_
    have hB := Option.some.inj hB
    subst hB
    obtain ⟨rfl, rfl⟩ := hr
    exact s_Fin.rt rfl rfl
  · rw [if_neg hc] at hB
    refine s_Fin.bt (c := (40 : Int32) ≤ (g.1 32 4)) (tg := 49) (p2 := 6) (L1 := [some (.ref 32), some (.ref 1019), some (.int x2), some (.int x3)]) (st1 := []) (Int32.not_lt.mp hc) rfl ?_
    have hB := Option.some.inj hB
    subst hB
    obtain ⟨rfl, rfl⟩ := hr
    exact s_Fin.rt rfl rfl
-- CampAshes$Sentence.addStep
noncomputable def fS_addStep_32 (x1 : Option Nat) (x2 : Int32) (x3 : Int32) (g : s_G) : Option (s_G) :=
  if (g.1 32 4) < (40 : Int32) then (if s_okw x1 = true then s_b1 (s_ix 40 (g.1 32 4)) fun k2 => s_b1 (s_ix 40 (g.1 32 4)) fun k4 => some (s_si (s_si (s_si (s_sr g 33 k2 x1) 34 k4 x2) 35 k4 x3) 32 4 ((g.1 32 4) + (1 : Int32)))
  else none)
  else some g
theorem fS_addStep_32_s {x1 : Option Nat} {x2 : Int32} {x3 : Int32} {g : s_G} {z : s_G} (hB : fS_addStep_32 x1 x2 x3 g = some z) : s_Ev 0 s_m142 [.ref 32, va_rf x1, .int x2, .int x3] (s_hg g) (none) (s_hg z) := by
  unfold fS_addStep_32 at hB
  refine s_Ev.fin ((?_ : ∀ (v : Option Value) (h' : s_H), (fun (z : s_G) (v : Option Value) (h' : s_H) => v = none ∧ h' = s_hg z) z v h' → s_Fin 0 s_m142 (0, s_ent [.ref 32, va_rf x1, .int x2, .int x3] (s_m142).2.2.1, [], s_hg g) v h') _ _ ⟨rfl, rfl⟩)
  intro v h' hr
  rw [show s_ent [.ref 32, va_rf x1, .int x2, .int x3] (s_m142).2.2.1 = [some (.ref 32), some (va_rf x1), some (.int x2), some (.int x3)] from (by cases x1 <;> rfl)]
  refine s_Fin.sg 3 (y := (6, [some (.ref 32), some (va_rf x1), some (.int x2), some (.int x3)], [.int (40 : Int32), .int (g.1 32 4)], s_hg g)) rfl ?_
  by_cases hc : (g.1 32 4) < (40 : Int32)
  · rw [if_pos hc] at hB
    refine s_Fin.bf (c := (40 : Int32) ≤ (g.1 32 4)) (tg := 49) (p2 := 6) (L1 := [some (.ref 32), some (va_rf x1), some (.int x2), some (.int x3)]) (st1 := []) (Int32.not_le.mpr hc) rfl ?_
    refine s_Fin.sg 4 (y := (17, [some (.ref 32), some (va_rf x1), some (.int x2), some (.int x3)], [.int (g.1 32 4), .ref 33], s_hg g)) rfl ?_
    refine s_Fin.nx (pc1 := 18) (L1 := [some (.ref 32), some (va_rf x1), some (.int x2), some (.int x3)]) (st1 := [va_rf x1, .int (g.1 32 4), .ref 33]) (h1 := s_hg g) (by generalize x1 = w; cases w <;> exact rfl) rfl ?_
    have hw : s_okw x1 = true := Classical.byContradiction fun h => (by rw [if_neg h] at hB; cases hB)
    rw [if_pos hw] at hB
    obtain ⟨k2, hk, hB⟩ := s_bd hB
    refine s_Fin.nx (pc1 := 19) (L1 := [some (.ref 32), some (va_rf x1), some (.int x2), some (.int x3)]) (st1 := []) (h1 := s_hg (s_sr g 33 k2 x1)) ((show _ = s_aaw 33 40 19 [some (.ref 32), some (va_rf x1), some (.int x2), some (.int x3)] [] (s_hg g) (g.1 32 4) (va_rf x1) from rfl).trans (s_aaw_of (k := k2) rfl rfl hw hk (fun k => s_wR_hg rfl))) rfl ?_
    refine s_Fin.sg 5 (y := (28, [some (.ref 32), some (va_rf x1), some (.int x2), some (.int x3)], [.int x2, .int (g.1 32 4), .ref 34], s_hg (s_sr g 33 k2 x1))) rfl ?_
    obtain ⟨k4, hk4, hB⟩ := s_bd hB
    refine s_Fin.ix (n := 40) (i := g.1 32 4) (pc1 := 29) (L1 := [some (.ref 32), some (va_rf x1), some (.int x2), some (.int x3)]) (fun j3 => []) (fun j3 => s_hg (s_si (s_sr g 33 k2 x1) 34 j3 x2)) hk4 rfl rfl ?_
    refine s_Fin.sg 5 (y := (38, [some (.ref 32), some (va_rf x1), some (.int x2), some (.int x3)], [.int x3, .int (g.1 32 4), .ref 35], s_hg (s_si (s_sr g 33 k2 x1) 34 k4 x2))) rfl ?_
    refine s_Fin.ix (n := 40) (i := g.1 32 4) (pc1 := 39) (L1 := [some (.ref 32), some (va_rf x1), some (.int x2), some (.int x3)]) (fun j5 => []) (fun j5 => s_hg (s_si (s_si (s_sr g 33 k2 x1) 34 k4 x2) 35 j5 x3)) hk4 rfl rfl ?_
    refine s_Fin.sg 6 (y := (49, [some (.ref 32), some (va_rf x1), some (.int x2), some (.int x3)], [], s_hg (s_si (s_si (s_si (s_sr g 33 k2 x1) 34 k4 x2) 35 k4 x3) 32 4 ((g.1 32 4) + (1 : Int32))))) rfl ?_
    have hB := Option.some.inj hB
    subst hB
    obtain ⟨rfl, rfl⟩ := hr
    exact s_Fin.rt rfl rfl
  · rw [if_neg hc] at hB
    refine s_Fin.bt (c := (40 : Int32) ≤ (g.1 32 4)) (tg := 49) (p2 := 6) (L1 := [some (.ref 32), some (va_rf x1), some (.int x2), some (.int x3)]) (st1 := []) (Int32.not_lt.mp hc) rfl ?_
    have hB := Option.some.inj hB
    subst hB
    obtain ⟨rfl, rfl⟩ := hr
    exact s_Fin.rt rfl rfl
-- CampAshes$Sentence.readComparison
noncomputable def fS_readComparison_32_1_33 (x2 : Option Nat) (g : s_G) : Option (Int32 × s_G) :=
  s_b1 (fQ_next_1 g) fun g6 => if (g6.1 1 5) = (4 : Int32) then (s_b1 (fS_addStep_32 x2 (g.1 1 7) (g6.1 1 7) g6) fun g7 => s_b1 (fQ_next_1 g7) fun g8 => some ((1 : Int32), g8))
  else s_b2 (fQ_fail_1 (1 : Int32) g6) fun v10 g9 => if v10 = 0 ∨ v10 = 1 then some (v10, g9)
  else none
theorem fS_readComparison_32_1_33_s {x2 : Option Nat} {g : s_G} {z : Int32 × s_G} (hB : fS_readComparison_32_1_33 x2 g = some z) {v : Option Value} {h' : s_H} (hr : (fun (z : Int32 × s_G) (v : Option Value) (h' : s_H) => v = some (.int z.1) ∧ h' = s_hg z.2) z v h') : s_Fin 2 s_m143 (33, [some (.ref 32), some (.ref 1), some (va_rf x2), none], [], s_hg g) v h' := by
  unfold fS_readComparison_32_1_33 at hB
  refine s_Fin.sg 2 (y := (37, [some (.ref 32), some (.ref 1), some (va_rf x2), none], [.int (g.1 1 7)], s_hg g)) rfl ?_
  refine s_Fin.nx (pc1 := 38) (L1 := [some (.ref 32), some (.ref 1), some (va_rf x2), some (.int (g.1 1 7))]) (st1 := []) (h1 := s_hg g) (by generalize x2 = w; cases w <;> exact rfl) rfl ?_
  refine s_Fin.sg 1 (y := (39, [some (.ref 32), some (.ref 1), some (va_rf x2), some (.int (g.1 1 7))], [.ref 1], s_hg g)) rfl ?_
  obtain ⟨g6, hp, hB⟩ := s_bd hB
  refine s_Fin.cl (d := 1) (q1 := s_m20) (md := 20) (vs := [.ref 1]) (rest := []) (h1 := s_hg g6) (u := none) (s_Ev.up (by omega) (fQ_next_1_s hp)) rfl rfl rfl rfl ?_
  refine s_Fin.sg 3 (y := (47, [some (.ref 32), some (.ref 1), some (va_rf x2), some (.int (g.1 1 7))], [.int (4 : Int32), .int (g6.1 1 5)], s_hg g6)) rfl ?_
  by_cases hc : (g6.1 1 5) = (4 : Int32)
  · rw [if_pos hc] at hB
    refine s_Fin.bt (c := (g6.1 1 5) = (4 : Int32)) (tg := 56) (p2 := 47) (L1 := [some (.ref 32), some (.ref 1), some (va_rf x2), some (.int (g.1 1 7))]) (st1 := []) hc rfl ?_
    refine s_Fin.sg 1 (y := (57, [some (.ref 32), some (.ref 1), some (va_rf x2), some (.int (g.1 1 7))], [.ref 32], s_hg g6)) rfl ?_
    refine s_Fin.nx (pc1 := 58) (L1 := [some (.ref 32), some (.ref 1), some (va_rf x2), some (.int (g.1 1 7))]) (st1 := [va_rf x2, .ref 32]) (h1 := s_hg g6) (by generalize x2 = w; cases w <;> exact rfl) rfl ?_
    refine s_Fin.sg 3 (y := (63, [some (.ref 32), some (.ref 1), some (va_rf x2), some (.int (g.1 1 7))], [.int (g6.1 1 7), .int (g.1 1 7), va_rf x2, .ref 32], s_hg g6)) rfl ?_
    obtain ⟨g7, hp, hB⟩ := s_bd hB
    refine s_Fin.cl (d := 1) (q1 := s_m142) (md := 142) (vs := [.ref 32, va_rf x2, .int (g.1 1 7), .int (g6.1 1 7)]) (rest := []) (h1 := s_hg g7) (u := none) (s_Ev.up (by omega) (fS_addStep_32_s hp)) rfl rfl rfl (by generalize x2 = w1; cases w1 <;> rfl) ?_
    refine s_Fin.sg 1 (y := (67, [some (.ref 32), some (.ref 1), some (va_rf x2), some (.int (g.1 1 7))], [.ref 1], s_hg g7)) rfl ?_
    obtain ⟨g8, hp, hB⟩ := s_bd hB
    refine s_Fin.cl (d := 1) (q1 := s_m20) (md := 20) (vs := [.ref 1]) (rest := []) (h1 := s_hg g8) (u := none) (s_Ev.up (by omega) (fQ_next_1_s hp)) rfl rfl rfl rfl ?_
    refine s_Fin.sg 1 (y := (71, [some (.ref 32), some (.ref 1), some (va_rf x2), some (.int (g.1 1 7))], [.int (1 : Int32)], s_hg g8)) rfl ?_
    have hB := Option.some.inj hB
    subst hB
    obtain ⟨rfl, rfl⟩ := hr
    exact s_Fin.rt rfl rfl
  · rw [if_neg hc] at hB
    refine s_Fin.bf (c := (g6.1 1 5) = (4 : Int32)) (tg := 56) (p2 := 47) (L1 := [some (.ref 32), some (.ref 1), some (va_rf x2), some (.int (g.1 1 7))]) (st1 := []) hc rfl ?_
    refine s_Fin.sg 2 (y := (52, [some (.ref 32), some (.ref 1), some (va_rf x2), some (.int (g.1 1 7))], [.int (1 : Int32), .ref 1], s_hg g6)) rfl ?_
    obtain ⟨v10, g9, hp, hB⟩ := s_bd2 hB
    refine s_Fin.cl (d := 1) (q1 := s_m30) (md := 30) (vs := [.ref 1, .int (1 : Int32)]) (rest := []) (h1 := s_hg g9) (u := some (.int v10)) (s_Ev.up (by omega) (fQ_fail_1_s hp)) rfl rfl rfl rfl ?_
    have hc : v10 = 0 ∨ v10 = 1 := Classical.byContradiction fun h => (by rw [if_neg h] at hB; cases hB)
    rw [if_pos hc] at hB
    have hB := Option.some.inj hB
    subst hB
    obtain ⟨rfl, rfl⟩ := hr
    exact s_Fin.rt (by rcases hc with hc | hc <;> rw [hc] <;> exact rfl) rfl
noncomputable def fS_readComparison_32_1 (x2 : Option Nat) (g : s_G) : Option (Int32 × s_G) :=
  s_b1 (fQ_isSign_1 (60 : Int32) g) fun v1 => if v1 = 0 then (s_b1 (fQ_isSign_1 (61 : Int32) g) fun v2 => if v2 = 0 then (s_b1 (fQ_isSign_1 (62 : Int32) g) fun v3 => if v3 = 0 then (s_b2 (fQ_fail_1 (1 : Int32) g) fun v5 g4 => if v5 = 0 ∨ v5 = 1 then some (v5, g4)
  else none)
  else fS_readComparison_32_1_33 x2 g)
  else fS_readComparison_32_1_33 x2 g)
  else fS_readComparison_32_1_33 x2 g
theorem fS_readComparison_32_1_s {x2 : Option Nat} {g : s_G} {z : Int32 × s_G} (hB : fS_readComparison_32_1 x2 g = some z) : s_Ev 2 s_m143 [.ref 32, .ref 1, va_rf x2] (s_hg g) (some (.int z.1)) (s_hg z.2) := by
  unfold fS_readComparison_32_1 at hB
  refine s_Ev.fin ((?_ : ∀ (v : Option Value) (h' : s_H), (fun (z : Int32 × s_G) (v : Option Value) (h' : s_H) => v = some (.int z.1) ∧ h' = s_hg z.2) z v h' → s_Fin 2 s_m143 (0, s_ent [.ref 32, .ref 1, va_rf x2] (s_m143).2.2.1, [], s_hg g) v h') _ _ ⟨rfl, rfl⟩)
  intro v h' hr
  rw [show s_ent [.ref 32, .ref 1, va_rf x2] (s_m143).2.2.1 = [some (.ref 32), some (.ref 1), some (va_rf x2), none] from (by cases x2 <;> rfl)]
  refine s_Fin.sg 2 (y := (3, [some (.ref 32), some (.ref 1), some (va_rf x2), none], [.int (60 : Int32), .ref 1], s_hg g)) rfl ?_
  obtain ⟨v1, hp, hB⟩ := s_bd hB
  refine s_Fin.cl (d := 1) (q1 := s_m42) (md := 42) (vs := [.ref 1, .int (60 : Int32)]) (rest := []) (h1 := s_hg g) (u := some (.int v1)) (s_Ev.up (by omega) (fQ_isSign_1_s hp)) rfl rfl rfl rfl ?_
  by_cases hc : v1 = 0
  · rw [if_pos hc] at hB
    refine s_Fin.bf (c := ¬ v1 = 0) (tg := 33) (p2 := 6) (L1 := [some (.ref 32), some (.ref 1), some (va_rf x2), none]) (st1 := []) (fun h => h hc) rfl ?_
    refine s_Fin.sg 2 (y := (12, [some (.ref 32), some (.ref 1), some (va_rf x2), none], [.int (61 : Int32), .ref 1], s_hg g)) rfl ?_
    obtain ⟨v2, hp, hB⟩ := s_bd hB
    refine s_Fin.cl (d := 1) (q1 := s_m42) (md := 42) (vs := [.ref 1, .int (61 : Int32)]) (rest := []) (h1 := s_hg g) (u := some (.int v2)) (s_Ev.up (by omega) (fQ_isSign_1_s hp)) rfl rfl rfl rfl ?_
    by_cases hc : v2 = 0
    · rw [if_pos hc] at hB
      refine s_Fin.bf (c := ¬ v2 = 0) (tg := 33) (p2 := 15) (L1 := [some (.ref 32), some (.ref 1), some (va_rf x2), none]) (st1 := []) (fun h => h hc) rfl ?_
      refine s_Fin.sg 2 (y := (21, [some (.ref 32), some (.ref 1), some (va_rf x2), none], [.int (62 : Int32), .ref 1], s_hg g)) rfl ?_
      obtain ⟨v3, hp, hB⟩ := s_bd hB
      refine s_Fin.cl (d := 1) (q1 := s_m42) (md := 42) (vs := [.ref 1, .int (62 : Int32)]) (rest := []) (h1 := s_hg g) (u := some (.int v3)) (s_Ev.up (by omega) (fQ_isSign_1_s hp)) rfl rfl rfl rfl ?_
      by_cases hc : v3 = 0
      · rw [if_pos hc] at hB
        refine s_Fin.bf (c := ¬ v3 = 0) (tg := 33) (p2 := 24) (L1 := [some (.ref 32), some (.ref 1), some (va_rf x2), none]) (st1 := []) (fun h => h hc) rfl ?_
        refine s_Fin.sg 2 (y := (29, [some (.ref 32), some (.ref 1), some (va_rf x2), none], [.int (1 : Int32), .ref 1], s_hg g)) rfl ?_
        obtain ⟨v5, g4, hp, hB⟩ := s_bd2 hB
        refine s_Fin.cl (d := 1) (q1 := s_m30) (md := 30) (vs := [.ref 1, .int (1 : Int32)]) (rest := []) (h1 := s_hg g4) (u := some (.int v5)) (s_Ev.up (by omega) (fQ_fail_1_s hp)) rfl rfl rfl rfl ?_
        have hc : v5 = 0 ∨ v5 = 1 := Classical.byContradiction fun h => (by rw [if_neg h] at hB; cases hB)
        rw [if_pos hc] at hB
        have hB := Option.some.inj hB
        subst hB
        obtain ⟨rfl, rfl⟩ := hr
        exact s_Fin.rt (by rcases hc with hc | hc <;> rw [hc] <;> exact rfl) rfl
      · rw [if_neg hc] at hB
        refine s_Fin.bt (c := ¬ v3 = 0) (tg := 33) (p2 := 24) (L1 := [some (.ref 32), some (.ref 1), some (va_rf x2), none]) (st1 := []) hc rfl ?_
        exact s_Fin.more (L := [some (.ref 32), some (.ref 1), some (va_rf x2), none]) ⟨Or.inr rfl, Or.inr rfl, Or.inr rfl, Or.inl rfl, trivial⟩ (fS_readComparison_32_1_33_s hB hr)
    · rw [if_neg hc] at hB
      refine s_Fin.bt (c := ¬ v2 = 0) (tg := 33) (p2 := 15) (L1 := [some (.ref 32), some (.ref 1), some (va_rf x2), none]) (st1 := []) hc rfl ?_
      exact s_Fin.more (L := [some (.ref 32), some (.ref 1), some (va_rf x2), none]) ⟨Or.inr rfl, Or.inr rfl, Or.inr rfl, Or.inl rfl, trivial⟩ (fS_readComparison_32_1_33_s hB hr)
  · rw [if_neg hc] at hB
    refine s_Fin.bt (c := ¬ v1 = 0) (tg := 33) (p2 := 6) (L1 := [some (.ref 32), some (.ref 1), some (va_rf x2), none]) (st1 := []) hc rfl ?_
    exact s_Fin.more (L := [some (.ref 32), some (.ref 1), some (va_rf x2), none]) ⟨Or.inr rfl, Or.inr rfl, Or.inr rfl, Or.inl rfl, trivial⟩ (fS_readComparison_32_1_33_s hB hr)
