-- CampAshes$Sentence.boysOf
noncomputable def fS_boysOf_27_17_147 (x2 : Int32) (x3 : Int32) (x4 : Int32) (g : s_G) : Option ((Int32 × Int32 × s_G) ⊕ (Int32 × s_G)) :=
  if x3 < (40 : Int32) then (s_b1 (fS_boysOfStep_27_17 x4 g) fun v4 => s_b1 (s_ix 40 x3) fun k6 => some (.inl (x3 + (1 : Int32), x4 + (1 : Int32), (s_si g 31 k6 v4))))
  else some (.inl (x3, x4 + (1 : Int32), g))
theorem fS_boysOf_27_17_147_s {x2 : Int32} {x3 : Int32} {x4 : Int32} {g : s_G} {z : (Int32 × Int32 × s_G) ⊕ (Int32 × s_G)} (hB : fS_boysOf_27_17_147 x2 x3 x4 g = some z) {v : Option Value} {h' : s_H} (hr : (s_sm (fun (x : Int32 × Int32 × s_G) (v : Option Value) (h' : s_H) => s_Fin 3 s_m146 (17, [some (.ref 27), some (.ref 17), some (.int x2), some (.int x.1), some (.int x.2.1), none, none], [], s_hg x.2.2) v h') (fun (z : Int32 × s_G) (v : Option Value) (h' : s_H) => v = some (.int z.1) ∧ h' = s_hg z.2)) z v h') : s_Fin 3 s_m146 (147, [some (.ref 27), some (.ref 17), some (.int x2), some (.int x3), some (.int x4), none, none], [], s_hg g) v h' := by
  unfold fS_boysOf_27_17_147 at hB
  refine s_Fin.sg 2 (y := (150, [some (.ref 27), some (.ref 17), some (.int x2), some (.int x3), some (.int x4), none, none], [.int (40 : Int32), .int x3], s_hg g)) rfl ?_
  by_cases hc : x3 < (40 : Int32)
  · rw [if_pos hc] at hB
    refine s_Fin.bf (c := (40 : Int32) ≤ x3) (tg := 169) (p2 := 150) (L1 := [some (.ref 27), some (.ref 17), some (.int x2), some (.int x3), some (.int x4), none, none]) (st1 := []) (Int32.not_le.mpr hc) rfl ?_
    refine s_Fin.sg 6 (y := (162, [some (.ref 27), some (.ref 17), some (.int x2), some (.int x3), some (.int x4), none, none], [.int x4, .ref 17, .ref 27, .int x3, .ref 31], s_hg g)) rfl ?_
    obtain ⟨v4, hp, hB⟩ := s_bd hB
    refine s_Fin.cl (d := 2) (q1 := s_m147) (md := 147) (vs := [.ref 27, .ref 17, .int x4]) (rest := [.int x3, .ref 31]) (h1 := s_hg g) (u := some (.int v4)) (s_Ev.up (by omega) (fS_boysOfStep_27_17_s hp)) rfl rfl rfl rfl ?_
    obtain ⟨k6, hk6, hB⟩ := s_bd hB
    refine s_Fin.ix (n := 40) (i := x3) (pc1 := 166) (L1 := [some (.ref 27), some (.ref 17), some (.int x2), some (.int x3), some (.int x4), none, none]) (fun j5 => []) (fun j5 => s_hg (s_si g 31 j5 v4)) hk6 rfl rfl ?_
    refine s_Fin.sg 3 (y := (17, [some (.ref 27), some (.ref 17), some (.int x2), some (.int (x3 + (1 : Int32))), some (.int (x4 + (1 : Int32))), none, none], [], s_hg (s_si g 31 k6 v4))) rfl ?_
    have hB := Option.some.inj hB
    subst hB
    exact s_Fin.more (L := [some (.ref 27), some (.ref 17), some (.int x2), some (.int (x3 + (1 : Int32))), some (.int (x4 + (1 : Int32))), none, none]) ⟨Or.inr rfl, Or.inr rfl, Or.inr rfl, Or.inr rfl, Or.inr rfl, Or.inl rfl, Or.inl rfl, trivial⟩ hr
  · rw [if_neg hc] at hB
    refine s_Fin.bt (c := (40 : Int32) ≤ x3) (tg := 169) (p2 := 150) (L1 := [some (.ref 27), some (.ref 17), some (.int x2), some (.int x3), some (.int x4), none, none]) (st1 := []) (Int32.not_lt.mp hc) rfl ?_
    refine s_Fin.sg 2 (y := (17, [some (.ref 27), some (.ref 17), some (.int x2), some (.int x3), some (.int (x4 + (1 : Int32))), none, none], [], s_hg g)) rfl ?_
    have hB := Option.some.inj hB
    subst hB
    exact s_Fin.more (L := [some (.ref 27), some (.ref 17), some (.int x2), some (.int x3), some (.int (x4 + (1 : Int32))), none, none]) ⟨Or.inr rfl, Or.inr rfl, Or.inr rfl, Or.inr rfl, Or.inr rfl, Or.inl rfl, Or.inl rfl, trivial⟩ hr
noncomputable def fS_boysOf_27_17_87 (x2 : Int32) (x3 : Int32) (x4 : Int32) (x5 : Option Nat) (g : s_G) : Option ((Int32 × Int32 × s_G) ⊕ (Int32 × s_G)) :=
  if x3 < (2 : Int32) then (fS_boysOf_27_17_147 x2 x3 x4 g)
  else s_b1 (some (x3 + (-1 : Int32))) fun v7 => s_b1 (s_ix 40 v7) fun k9 => if s_okw x5 = true then (if x5 = some 1018 then (s_b1 (s_ix 40 (v7 - (1 : Int32))) fun k11 => some (.inl (v7, x4 + (1 : Int32), (s_si g 31 k11 ((g.1 31 k11) &&& (g.1 31 k9))))))
  else s_b1 (s_ix 40 (v7 - (1 : Int32))) fun k14 => some (.inl (v7, x4 + (1 : Int32), (s_si g 31 k14 ((g.1 31 k14) ||| (g.1 31 k9)))))) else none
theorem fS_boysOf_27_17_87_s {x2 : Int32} {x3 : Int32} {x4 : Int32} {x5 : Option Nat} {g : s_G} {z : (Int32 × Int32 × s_G) ⊕ (Int32 × s_G)} (hB : fS_boysOf_27_17_87 x2 x3 x4 x5 g = some z) {v : Option Value} {h' : s_H} (hr : (s_sm (fun (x : Int32 × Int32 × s_G) (v : Option Value) (h' : s_H) => s_Fin 3 s_m146 (17, [some (.ref 27), some (.ref 17), some (.int x2), some (.int x.1), some (.int x.2.1), none, none], [], s_hg x.2.2) v h') (fun (z : Int32 × s_G) (v : Option Value) (h' : s_H) => v = some (.int z.1) ∧ h' = s_hg z.2)) z v h') : s_Fin 3 s_m146 (87, [some (.ref 27), some (.ref 17), some (.int x2), some (.int x3), some (.int x4), some (va_rf x5), none], [], s_hg g) v h' := by
  unfold fS_boysOf_27_17_87 at hB
  refine s_Fin.sg 2 (y := (89, [some (.ref 27), some (.ref 17), some (.int x2), some (.int x3), some (.int x4), some (va_rf x5), none], [.int (2 : Int32), .int x3], s_hg g)) rfl ?_
  by_cases hc : x3 < (2 : Int32)
  · rw [if_pos hc] at hB
    refine s_Fin.bt (c := x3 < (2 : Int32)) (tg := 147) (p2 := 89) (L1 := [some (.ref 27), some (.ref 17), some (.int x2), some (.int x3), some (.int x4), some (va_rf x5), none]) (st1 := []) hc rfl ?_
    exact s_Fin.more (L := [some (.ref 27), some (.ref 17), some (.int x2), some (.int x3), some (.int x4), none, none]) ⟨Or.inr rfl, Or.inr rfl, Or.inr rfl, Or.inr rfl, Or.inr rfl, Or.inl rfl, Or.inl rfl, trivial⟩ (fS_boysOf_27_17_147_s hB hr)
  · rw [if_neg hc] at hB
    refine s_Fin.bf (c := x3 < (2 : Int32)) (tg := 147) (p2 := 89) (L1 := [some (.ref 27), some (.ref 17), some (.int x2), some (.int x3), some (.int x4), some (va_rf x5), none]) (st1 := []) hc rfl ?_
    refine s_Fin.sg 1 (y := (95, [some (.ref 27), some (.ref 17), some (.int x2), some (.int (x3 + (-1 : Int32))), some (.int x4), some (va_rf x5), none], [], s_hg g)) rfl ?_
    obtain ⟨v7, hx, hB⟩ := s_bd hB
    have hx := Option.some.inj hx
    rw [hx]
    refine s_Fin.sg 3 (y := (100, [some (.ref 27), some (.ref 17), some (.int x2), some (.int v7), some (.int x4), some (va_rf x5), none], [.int v7, .ref 31], s_hg g)) rfl ?_
    obtain ⟨k9, hk9, hB⟩ := s_bd hB
    refine s_Fin.ix (n := 40) (i := v7) (pc1 := 101) (L1 := [some (.ref 27), some (.ref 17), some (.int x2), some (.int v7), some (.int x4), some (va_rf x5), none]) (fun j8 => [.int (g.1 31 j8)]) (fun j8 => s_hg g) hk9 rfl rfl ?_
    refine s_Fin.nx (pc1 := 103) (L1 := [some (.ref 27), some (.ref 17), some (.int x2), some (.int v7), some (.int x4), some (va_rf x5), some (.int (g.1 31 k9))]) (st1 := []) (h1 := s_hg g) (by generalize x5 = w; cases w <;> exact rfl) rfl ?_
    refine s_Fin.sg 5 (y := (110, [some (.ref 27), some (.ref 17), some (.int x2), some (.int v7), some (.int x4), some (va_rf x5), some (.int (g.1 31 k9))], [.int (v7 - (1 : Int32)), .ref 31], s_hg g)) rfl ?_
    refine s_Fin.nx (pc1 := 112) (L1 := [some (.ref 27), some (.ref 17), some (.int x2), some (.int v7), some (.int x4), some (va_rf x5), some (.int (g.1 31 k9))]) (st1 := [va_rf x5, .int (v7 - (1 : Int32)), .ref 31]) (h1 := s_hg g) (by generalize x5 = w; cases w <;> exact rfl) rfl ?_
    refine s_Fin.sg 1 (y := (115, [some (.ref 27), some (.ref 17), some (.int x2), some (.int v7), some (.int x4), some (va_rf x5), some (.int (g.1 31 k9))], [.ref 1018, va_rf x5, .int (v7 - (1 : Int32)), .ref 31], s_hg g)) rfl ?_
    have hw : s_okw x5 = true := Classical.byContradiction fun h => (by rw [if_neg h] at hB; cases hB)
    rw [if_pos hw] at hB
    by_cases hc : x5 = some 1018
    · rw [if_pos hc] at hB
      refine s_Fin.nx (pc1 := 118) (L1 := [some (.ref 27), some (.ref 17), some (.int x2), some (.int v7), some (.int x4), some (va_rf x5), some (.int (g.1 31 k9))]) (st1 := [.int (v7 - (1 : Int32)), .ref 31]) (h1 := s_hg g) ((show _ = s_acN 132 115 [some (.ref 27), some (.ref 17), some (.int x2), some (.int v7), some (.int x4), some (va_rf x5), some (.int (g.1 31 k9))] [.int (v7 - (1 : Int32)), .ref 31] (s_hg g) (.ref 1018) (va_rf x5) from rfl).trans (s_acN_t hw rfl hc)) rfl ?_
      refine s_Fin.sg 5 (y := (125, [some (.ref 27), some (.ref 17), some (.int x2), some (.int v7), some (.int x4), some (va_rf x5), some (.int (g.1 31 k9))], [.int (v7 - (1 : Int32)), .ref 31, .int (v7 - (1 : Int32)), .ref 31], s_hg g)) rfl ?_
      obtain ⟨k11, hk11, hB⟩ := s_bd hB
      refine s_Fin.ix (n := 40) (i := v7 - (1 : Int32)) (pc1 := 126) (L1 := [some (.ref 27), some (.ref 17), some (.int x2), some (.int v7), some (.int x4), some (va_rf x5), some (.int (g.1 31 k9))]) (fun j10 => [.int (g.1 31 j10), .int (v7 - (1 : Int32)), .ref 31]) (fun j10 => s_hg g) hk11 rfl rfl ?_
      refine s_Fin.sg 3 (y := (143, [some (.ref 27), some (.ref 17), some (.int x2), some (.int v7), some (.int x4), some (va_rf x5), some (.int (g.1 31 k9))], [.int ((g.1 31 k11) &&& (g.1 31 k9)), .int (v7 - (1 : Int32)), .ref 31], s_hg g)) rfl ?_
      refine s_Fin.ix (n := 40) (i := v7 - (1 : Int32)) (pc1 := 144) (L1 := [some (.ref 27), some (.ref 17), some (.int x2), some (.int v7), some (.int x4), some (va_rf x5), some (.int (g.1 31 k9))]) (fun j12 => []) (fun j12 => s_hg (s_si g 31 j12 ((g.1 31 k11) &&& (g.1 31 k9)))) hk11 rfl rfl ?_
      refine s_Fin.sg 3 (y := (17, [some (.ref 27), some (.ref 17), some (.int x2), some (.int v7), some (.int (x4 + (1 : Int32))), some (va_rf x5), some (.int (g.1 31 k9))], [], s_hg (s_si g 31 k11 ((g.1 31 k11) &&& (g.1 31 k9))))) rfl ?_
      have hB := Option.some.inj hB
      subst hB
      exact s_Fin.more (L := [some (.ref 27), some (.ref 17), some (.int x2), some (.int v7), some (.int (x4 + (1 : Int32))), none, none]) ⟨Or.inr rfl, Or.inr rfl, Or.inr rfl, Or.inr rfl, Or.inr rfl, Or.inl rfl, Or.inl rfl, trivial⟩ hr
    · rw [if_neg hc] at hB
      refine s_Fin.nx (pc1 := 132) (L1 := [some (.ref 27), some (.ref 17), some (.int x2), some (.int v7), some (.int x4), some (va_rf x5), some (.int (g.1 31 k9))]) (st1 := [.int (v7 - (1 : Int32)), .ref 31]) (h1 := s_hg g) ((show _ = s_acN 132 115 [some (.ref 27), some (.ref 17), some (.int x2), some (.int v7), some (.int x4), some (va_rf x5), some (.int (g.1 31 k9))] [.int (v7 - (1 : Int32)), .ref 31] (s_hg g) (.ref 1018) (va_rf x5) from rfl).trans (s_acN_f hw rfl hc)) rfl ?_
      refine s_Fin.sg 5 (y := (139, [some (.ref 27), some (.ref 17), some (.int x2), some (.int v7), some (.int x4), some (va_rf x5), some (.int (g.1 31 k9))], [.int (v7 - (1 : Int32)), .ref 31, .int (v7 - (1 : Int32)), .ref 31], s_hg g)) rfl ?_
      obtain ⟨k14, hk14, hB⟩ := s_bd hB
      refine s_Fin.ix (n := 40) (i := v7 - (1 : Int32)) (pc1 := 140) (L1 := [some (.ref 27), some (.ref 17), some (.int x2), some (.int v7), some (.int x4), some (va_rf x5), some (.int (g.1 31 k9))]) (fun j13 => [.int (g.1 31 j13), .int (v7 - (1 : Int32)), .ref 31]) (fun j13 => s_hg g) hk14 rfl rfl ?_
      refine s_Fin.sg 2 (y := (143, [some (.ref 27), some (.ref 17), some (.int x2), some (.int v7), some (.int x4), some (va_rf x5), some (.int (g.1 31 k9))], [.int ((g.1 31 k14) ||| (g.1 31 k9)), .int (v7 - (1 : Int32)), .ref 31], s_hg g)) rfl ?_
      refine s_Fin.ix (n := 40) (i := v7 - (1 : Int32)) (pc1 := 144) (L1 := [some (.ref 27), some (.ref 17), some (.int x2), some (.int v7), some (.int x4), some (va_rf x5), some (.int (g.1 31 k9))]) (fun j15 => []) (fun j15 => s_hg (s_si g 31 j15 ((g.1 31 k14) ||| (g.1 31 k9)))) hk14 rfl rfl ?_
      refine s_Fin.sg 3 (y := (17, [some (.ref 27), some (.ref 17), some (.int x2), some (.int v7), some (.int (x4 + (1 : Int32))), some (va_rf x5), some (.int (g.1 31 k9))], [], s_hg (s_si g 31 k14 ((g.1 31 k14) ||| (g.1 31 k9))))) rfl ?_
      have hB := Option.some.inj hB
      subst hB
      exact s_Fin.more (L := [some (.ref 27), some (.ref 17), some (.int x2), some (.int v7), some (.int (x4 + (1 : Int32))), none, none]) ⟨Or.inr rfl, Or.inr rfl, Or.inr rfl, Or.inr rfl, Or.inr rfl, Or.inl rfl, Or.inl rfl, trivial⟩ hr
noncomputable def fS_boysOf_27_17_71 (x2 : Int32) (x3 : Int32) (x4 : Int32) (x5 : Option Nat) (g : s_G) : Option ((Int32 × Int32 × s_G) ⊕ (Int32 × s_G)) :=
  if s_okw x5 = true then (if x5 = some 1018 then (fS_boysOf_27_17_87 x2 x3 x4 x5 g)
  else if s_okw x5 = true then (if x5 = some 1017 then (fS_boysOf_27_17_87 x2 x3 x4 x5 g)
  else fS_boysOf_27_17_147 x2 x3 x4 g) else none) else none
theorem fS_boysOf_27_17_71_s {x2 : Int32} {x3 : Int32} {x4 : Int32} {x5 : Option Nat} {g : s_G} {z : (Int32 × Int32 × s_G) ⊕ (Int32 × s_G)} (hB : fS_boysOf_27_17_71 x2 x3 x4 x5 g = some z) {v : Option Value} {h' : s_H} (hr : (s_sm (fun (x : Int32 × Int32 × s_G) (v : Option Value) (h' : s_H) => s_Fin 3 s_m146 (17, [some (.ref 27), some (.ref 17), some (.int x2), some (.int x.1), some (.int x.2.1), none, none], [], s_hg x.2.2) v h') (fun (z : Int32 × s_G) (v : Option Value) (h' : s_H) => v = some (.int z.1) ∧ h' = s_hg z.2)) z v h') : s_Fin 3 s_m146 (71, [some (.ref 27), some (.ref 17), some (.int x2), some (.int x3), some (.int x4), some (va_rf x5), none], [], s_hg g) v h' := by
  unfold fS_boysOf_27_17_71 at hB
  refine s_Fin.nx (pc1 := 73) (L1 := [some (.ref 27), some (.ref 17), some (.int x2), some (.int x3), some (.int x4), some (va_rf x5), none]) (st1 := [va_rf x5]) (h1 := s_hg g) (by generalize x5 = w; cases w <;> exact rfl) rfl ?_
  refine s_Fin.sg 1 (y := (76, [some (.ref 27), some (.ref 17), some (.int x2), some (.int x3), some (.int x4), some (va_rf x5), none], [.ref 1018, va_rf x5], s_hg g)) rfl ?_
  have hw : s_okw x5 = true := Classical.byContradiction fun h => (by rw [if_neg h] at hB; cases hB)
  rw [if_pos hw] at hB
  by_cases hc : x5 = some 1018
  · rw [if_pos hc] at hB
    refine s_Fin.nx (pc1 := 87) (L1 := [some (.ref 27), some (.ref 17), some (.int x2), some (.int x3), some (.int x4), some (va_rf x5), none]) (st1 := []) (h1 := s_hg g) ((show _ = s_acE 87 76 [some (.ref 27), some (.ref 17), some (.int x2), some (.int x3), some (.int x4), some (va_rf x5), none] [] (s_hg g) (.ref 1018) (va_rf x5) from rfl).trans (s_acE_t hw rfl hc)) rfl ?_
    exact s_Fin.more (L := [some (.ref 27), some (.ref 17), some (.int x2), some (.int x3), some (.int x4), some (va_rf x5), none]) ⟨Or.inr rfl, Or.inr rfl, Or.inr rfl, Or.inr rfl, Or.inr rfl, Or.inr rfl, Or.inl rfl, trivial⟩ (fS_boysOf_27_17_87_s hB hr)
  · rw [if_neg hc] at hB
    refine s_Fin.nx (pc1 := 79) (L1 := [some (.ref 27), some (.ref 17), some (.int x2), some (.int x3), some (.int x4), some (va_rf x5), none]) (st1 := []) (h1 := s_hg g) ((show _ = s_acE 87 76 [some (.ref 27), some (.ref 17), some (.int x2), some (.int x3), some (.int x4), some (va_rf x5), none] [] (s_hg g) (.ref 1018) (va_rf x5) from rfl).trans (s_acE_f hw rfl hc)) rfl ?_
    refine s_Fin.nx (pc1 := 81) (L1 := [some (.ref 27), some (.ref 17), some (.int x2), some (.int x3), some (.int x4), some (va_rf x5), none]) (st1 := [va_rf x5]) (h1 := s_hg g) (by generalize x5 = w; cases w <;> exact rfl) rfl ?_
    refine s_Fin.sg 1 (y := (84, [some (.ref 27), some (.ref 17), some (.int x2), some (.int x3), some (.int x4), some (va_rf x5), none], [.ref 1017, va_rf x5], s_hg g)) rfl ?_
    have hw : s_okw x5 = true := Classical.byContradiction fun h => (by rw [if_neg h] at hB; cases hB)
    rw [if_pos hw] at hB
    by_cases hc : x5 = some 1017
    · rw [if_pos hc] at hB
      refine s_Fin.nx (pc1 := 87) (L1 := [some (.ref 27), some (.ref 17), some (.int x2), some (.int x3), some (.int x4), some (va_rf x5), none]) (st1 := []) (h1 := s_hg g) ((show _ = s_acN 147 84 [some (.ref 27), some (.ref 17), some (.int x2), some (.int x3), some (.int x4), some (va_rf x5), none] [] (s_hg g) (.ref 1017) (va_rf x5) from rfl).trans (s_acN_t hw rfl hc)) rfl ?_
      exact s_Fin.more (L := [some (.ref 27), some (.ref 17), some (.int x2), some (.int x3), some (.int x4), some (va_rf x5), none]) ⟨Or.inr rfl, Or.inr rfl, Or.inr rfl, Or.inr rfl, Or.inr rfl, Or.inr rfl, Or.inl rfl, trivial⟩ (fS_boysOf_27_17_87_s hB hr)
    · rw [if_neg hc] at hB
      refine s_Fin.nx (pc1 := 147) (L1 := [some (.ref 27), some (.ref 17), some (.int x2), some (.int x3), some (.int x4), some (va_rf x5), none]) (st1 := []) (h1 := s_hg g) ((show _ = s_acN 147 84 [some (.ref 27), some (.ref 17), some (.int x2), some (.int x3), some (.int x4), some (va_rf x5), none] [] (s_hg g) (.ref 1017) (va_rf x5) from rfl).trans (s_acN_f hw rfl hc)) rfl ?_
      exact s_Fin.more (L := [some (.ref 27), some (.ref 17), some (.int x2), some (.int x3), some (.int x4), none, none]) ⟨Or.inr rfl, Or.inr rfl, Or.inr rfl, Or.inr rfl, Or.inr rfl, Or.inl rfl, Or.inl rfl, trivial⟩ (fS_boysOf_27_17_147_s hB hr)
noncomputable def fS_boysOf_27_17_17 (x2 : Int32) (x3 : Int32) (x4 : Int32) (g : s_G) : Option ((Int32 × Int32 × s_G) ⊕ (Int32 × s_G)) :=
  if x4 < (g.1 27 4) then (s_b1 (s_ix 40 x4) fun k3 => if s_okw (g.2.2 28 k3) = true then (if (g.2.2 28 k3) = some 1019 then (if x3 < (1 : Int32) then (fS_boysOf_27_17_71 x2 x3 x4 (g.2.2 28 k3) g)
  else s_b1 (s_ix 40 (x3 - (1 : Int32))) fun k17 => some (.inl (x3, x4 + (1 : Int32), (s_si g 31 k17 (x2 &&& ((g.1 31 k17) ^^^ (-1 : Int32)))))))
  else fS_boysOf_27_17_71 x2 x3 x4 (g.2.2 28 k3) g) else none)
  else s_in (if x3 = (1 : Int32) then (some (g.1 31 0, g))
  else some ((0 : Int32), g))
theorem fS_boysOf_27_17_17_s {x2 : Int32} {x3 : Int32} {x4 : Int32} {g : s_G} {z : (Int32 × Int32 × s_G) ⊕ (Int32 × s_G)} (hB : fS_boysOf_27_17_17 x2 x3 x4 g = some z) {v : Option Value} {h' : s_H} (hr : (s_sm (fun (x : Int32 × Int32 × s_G) (v : Option Value) (h' : s_H) => s_Fin 3 s_m146 (17, [some (.ref 27), some (.ref 17), some (.int x2), some (.int x.1), some (.int x.2.1), none, none], [], s_hg x.2.2) v h') (fun (z : Int32 × s_G) (v : Option Value) (h' : s_H) => v = some (.int z.1) ∧ h' = s_hg z.2)) z v h') : s_Fin 3 s_m146 (17, [some (.ref 27), some (.ref 17), some (.int x2), some (.int x3), some (.int x4), none, none], [], s_hg g) v h' := by
  unfold fS_boysOf_27_17_17 at hB
  refine s_Fin.sg 3 (y := (23, [some (.ref 27), some (.ref 17), some (.int x2), some (.int x3), some (.int x4), none, none], [.int (g.1 27 4), .int x4], s_hg g)) rfl ?_
  by_cases hc : x4 < (g.1 27 4)
  · rw [if_pos hc] at hB
    refine s_Fin.bf (c := (g.1 27 4) ≤ x4) (tg := 175) (p2 := 23) (L1 := [some (.ref 27), some (.ref 17), some (.int x2), some (.int x3), some (.int x4), none, none]) (st1 := []) (Int32.not_le.mpr hc) rfl ?_
    refine s_Fin.sg 3 (y := (32, [some (.ref 27), some (.ref 17), some (.int x2), some (.int x3), some (.int x4), none, none], [.int x4, .ref 28], s_hg g)) rfl ?_
    obtain ⟨k3, hk3, hB⟩ := s_bd hB
    refine s_Fin.ix (n := 40) (i := x4) (pc1 := 33) (L1 := [some (.ref 27), some (.ref 17), some (.int x2), some (.int x3), some (.int x4), none, none]) (fun j2 => [va_rf (g.2.2 28 j2)]) (fun j2 => s_hg g) hk3 rfl rfl ?_
    refine s_Fin.nx (pc1 := 35) (L1 := [some (.ref 27), some (.ref 17), some (.int x2), some (.int x3), some (.int x4), some (va_rf (g.2.2 28 k3)), none]) (st1 := []) (h1 := s_hg g) (by generalize (g.2.2 28 k3) = w; cases w <;> exact rfl) rfl ?_
    refine s_Fin.nx (pc1 := 37) (L1 := [some (.ref 27), some (.ref 17), some (.int x2), some (.int x3), some (.int x4), some (va_rf (g.2.2 28 k3)), none]) (st1 := [va_rf (g.2.2 28 k3)]) (h1 := s_hg g) (by generalize (g.2.2 28 k3) = w; cases w <;> exact rfl) rfl ?_
    refine s_Fin.sg 1 (y := (40, [some (.ref 27), some (.ref 17), some (.int x2), some (.int x3), some (.int x4), some (va_rf (g.2.2 28 k3)), none], [.ref 1019, va_rf (g.2.2 28 k3)], s_hg g)) rfl ?_
    have hw : s_okw (g.2.2 28 k3) = true := Classical.byContradiction fun h => (by rw [if_neg h] at hB; cases hB)
    rw [if_pos hw] at hB
    by_cases hc : (g.2.2 28 k3) = some 1019
    · rw [if_pos hc] at hB
      refine s_Fin.nx (pc1 := 43) (L1 := [some (.ref 27), some (.ref 17), some (.int x2), some (.int x3), some (.int x4), some (va_rf (g.2.2 28 k3)), none]) (st1 := []) (h1 := s_hg g) ((show _ = s_acN 71 40 [some (.ref 27), some (.ref 17), some (.int x2), some (.int x3), some (.int x4), some (va_rf (g.2.2 28 k3)), none] [] (s_hg g) (.ref 1019) (va_rf (g.2.2 28 k3)) from rfl).trans (s_acN_t hw rfl hc)) rfl ?_
      refine s_Fin.sg 2 (y := (45, [some (.ref 27), some (.ref 17), some (.int x2), some (.int x3), some (.int x4), some (va_rf (g.2.2 28 k3)), none], [.int (1 : Int32), .int x3], s_hg g)) rfl ?_
      by_cases hc : x3 < (1 : Int32)
      · rw [if_pos hc] at hB
        refine s_Fin.bt (c := x3 < (1 : Int32)) (tg := 71) (p2 := 45) (L1 := [some (.ref 27), some (.ref 17), some (.int x2), some (.int x3), some (.int x4), some (va_rf (g.2.2 28 k3)), none]) (st1 := []) hc rfl ?_
        exact s_Fin.more (L := [some (.ref 27), some (.ref 17), some (.int x2), some (.int x3), some (.int x4), some (va_rf (g.2.2 28 k3)), none]) ⟨Or.inr rfl, Or.inr rfl, Or.inr rfl, Or.inr rfl, Or.inr rfl, Or.inr rfl, Or.inl rfl, trivial⟩ (fS_boysOf_27_17_71_s hB hr)
      · rw [if_neg hc] at hB
        refine s_Fin.bf (c := x3 < (1 : Int32)) (tg := 71) (p2 := 45) (L1 := [some (.ref 27), some (.ref 17), some (.int x2), some (.int x3), some (.int x4), some (va_rf (g.2.2 28 k3)), none]) (st1 := []) hc rfl ?_
        refine s_Fin.sg 11 (y := (63, [some (.ref 27), some (.ref 17), some (.int x2), some (.int x3), some (.int x4), some (va_rf (g.2.2 28 k3)), none], [.int (x3 - (1 : Int32)), .ref 31, .int x2, .int (x3 - (1 : Int32)), .ref 31], s_hg g)) rfl ?_
        obtain ⟨k17, hk17, hB⟩ := s_bd hB
        refine s_Fin.ix (n := 40) (i := x3 - (1 : Int32)) (pc1 := 64) (L1 := [some (.ref 27), some (.ref 17), some (.int x2), some (.int x3), some (.int x4), some (va_rf (g.2.2 28 k3)), none]) (fun j16 => [.int (g.1 31 j16), .int x2, .int (x3 - (1 : Int32)), .ref 31]) (fun j16 => s_hg g) hk17 rfl rfl ?_
        refine s_Fin.sg 3 (y := (67, [some (.ref 27), some (.ref 17), some (.int x2), some (.int x3), some (.int x4), some (va_rf (g.2.2 28 k3)), none], [.int (x2 &&& ((g.1 31 k17) ^^^ (-1 : Int32))), .int (x3 - (1 : Int32)), .ref 31], s_hg g)) rfl ?_
        refine s_Fin.ix (n := 40) (i := x3 - (1 : Int32)) (pc1 := 68) (L1 := [some (.ref 27), some (.ref 17), some (.int x2), some (.int x3), some (.int x4), some (va_rf (g.2.2 28 k3)), none]) (fun j18 => []) (fun j18 => s_hg (s_si g 31 j18 (x2 &&& ((g.1 31 k17) ^^^ (-1 : Int32))))) hk17 rfl rfl ?_
        refine s_Fin.sg 3 (y := (17, [some (.ref 27), some (.ref 17), some (.int x2), some (.int x3), some (.int (x4 + (1 : Int32))), some (va_rf (g.2.2 28 k3)), none], [], s_hg (s_si g 31 k17 (x2 &&& ((g.1 31 k17) ^^^ (-1 : Int32)))))) rfl ?_
        have hB := Option.some.inj hB
        subst hB
        exact s_Fin.more (L := [some (.ref 27), some (.ref 17), some (.int x2), some (.int x3), some (.int (x4 + (1 : Int32))), none, none]) ⟨Or.inr rfl, Or.inr rfl, Or.inr rfl, Or.inr rfl, Or.inr rfl, Or.inl rfl, Or.inl rfl, trivial⟩ hr
    · rw [if_neg hc] at hB
      refine s_Fin.nx (pc1 := 71) (L1 := [some (.ref 27), some (.ref 17), some (.int x2), some (.int x3), some (.int x4), some (va_rf (g.2.2 28 k3)), none]) (st1 := []) (h1 := s_hg g) ((show _ = s_acN 71 40 [some (.ref 27), some (.ref 17), some (.int x2), some (.int x3), some (.int x4), some (va_rf (g.2.2 28 k3)), none] [] (s_hg g) (.ref 1019) (va_rf (g.2.2 28 k3)) from rfl).trans (s_acN_f hw rfl hc)) rfl ?_
      exact s_Fin.more (L := [some (.ref 27), some (.ref 17), some (.int x2), some (.int x3), some (.int x4), some (va_rf (g.2.2 28 k3)), none]) ⟨Or.inr rfl, Or.inr rfl, Or.inr rfl, Or.inr rfl, Or.inr rfl, Or.inr rfl, Or.inl rfl, trivial⟩ (fS_boysOf_27_17_71_s hB hr)
  · rw [if_neg hc] at hB
    refine s_Fin.bt (c := (g.1 27 4) ≤ x4) (tg := 175) (p2 := 23) (L1 := [some (.ref 27), some (.ref 17), some (.int x2), some (.int x3), some (.int x4), none, none]) (st1 := []) (Int32.not_lt.mp hc) rfl ?_
    obtain ⟨_, hN, hz⟩ := s_in_of hB
    subst hz
    have hB := hN
    refine s_Fin.sg 2 (y := (177, [some (.ref 27), some (.ref 17), some (.int x2), some (.int x3), some (.int x4), none, none], [.int (1 : Int32), .int x3], s_hg g)) rfl ?_
    by_cases hc : x3 = (1 : Int32)
    · rw [if_pos hc] at hB
      refine s_Fin.bf (c := ¬ x3 = (1 : Int32)) (tg := 189) (p2 := 177) (L1 := [some (.ref 27), some (.ref 17), some (.int x2), some (.int x3), some (.int x4), none, none]) (st1 := []) (fun h => h hc) rfl ?_
      refine s_Fin.sg 5 (y := (190, [some (.ref 27), some (.ref 17), some (.int x2), some (.int x3), some (.int x4), none, none], [.int (g.1 31 0)], s_hg g)) rfl ?_
      have hB := Option.some.inj hB
      subst hB
      obtain ⟨rfl, rfl⟩ := hr
      exact s_Fin.rt rfl rfl
    · rw [if_neg hc] at hB
      refine s_Fin.bt (c := ¬ x3 = (1 : Int32)) (tg := 189) (p2 := 177) (L1 := [some (.ref 27), some (.ref 17), some (.int x2), some (.int x3), some (.int x4), none, none]) (st1 := []) hc rfl ?_
      refine s_Fin.sg 1 (y := (190, [some (.ref 27), some (.ref 17), some (.int x2), some (.int x3), some (.int x4), none, none], [.int (0 : Int32)], s_hg g)) rfl ?_
      have hB := Option.some.inj hB
      subst hB
      obtain ⟨rfl, rfl⟩ := hr
      exact s_Fin.rt rfl rfl
noncomputable def fS_boysOf_27_17 (g : s_G) : Option (Int32 × s_G) :=
  s_b1 (some (((1 : Int32) <<< ((g.1 3 0) &&& 31)) - (1 : Int32))) fun v1 => s_lp (fun x => fS_boysOf_27_17_17 v1 x.1 x.2.1 x.2.2) ((0 : Int32), (0 : Int32), g)
theorem fS_boysOf_27_17_s {g : s_G} {z : Int32 × s_G} (hB : fS_boysOf_27_17 g = some z) : s_Ev 3 s_m146 [.ref 27, .ref 17] (s_hg g) (some (.int z.1)) (s_hg z.2) := by
  unfold fS_boysOf_27_17 at hB
  refine s_Ev.fin ((?_ : ∀ (v : Option Value) (h' : s_H), (fun (z : Int32 × s_G) (v : Option Value) (h' : s_H) => v = some (.int z.1) ∧ h' = s_hg z.2) z v h' → s_Fin 3 s_m146 (0, s_ent [.ref 27, .ref 17] (s_m146).2.2.1, [], s_hg g) v h') _ _ ⟨rfl, rfl⟩)
  intro v h' hr
  refine (show s_Fin 3 s_m146 (0, [some (.ref 27), some (.ref 17), none, none, none, none, none], [], s_hg g) v h' from ?_)
  refine s_Fin.sg 7 (y := (11, [some (.ref 27), some (.ref 17), none, none, none, none, none], [.int (((1 : Int32) <<< ((g.1 3 0) &&& 31)) - (1 : Int32))], s_hg g)) rfl ?_
  obtain ⟨v1, hx, hB⟩ := s_bd hB
  have hx := Option.some.inj hx
  rw [hx]
  refine s_Fin.sg 5 (y := (17, [some (.ref 27), some (.ref 17), some (.int v1), some (.int (0 : Int32)), some (.int (0 : Int32)), none, none], [], s_hg g)) rfl ?_
  exact s_Fin.more (L := [some (.ref 27), some (.ref 17), some (.int v1), some (.int (0 : Int32)), some (.int (0 : Int32)), none, none]) ⟨Or.inr rfl, Or.inr rfl, Or.inr rfl, Or.inr rfl, Or.inr rfl, Or.inl rfl, Or.inl rfl, trivial⟩ (s_lp_s (P := (fun (x : Int32 × Int32 × s_G) (v : Option Value) (h' : s_H) => s_Fin 3 s_m146 (17, [some (.ref 27), some (.ref 17), some (.int v1), some (.int x.1), some (.int x.2.1), none, none], [], s_hg x.2.2) v h')) (Q := (fun (z : Int32 × s_G) (v : Option Value) (h' : s_H) => v = some (.int z.1) ∧ h' = s_hg z.2)) (fun x z hB v h' hr => fS_boysOf_27_17_17_s hB hr) hB _ _ hr)
-- CampAshes.said
noncomputable def fC_said_0_44 (x1 : Int32) (x2 : Int32) (x3 : Int32) (x4 : Int32) (g : s_G) : Option ((Int32 × Int32) ⊕ (Int32 × s_G)) :=
  if x4 < (7 : Int32) then (if ((x2 >>> (x4 &&& 31)) &&& (1 : Int32)) = (1 : Int32) then (if x3 = x1 then (s_in (some (x4, g)))
  else some (.inl (x3 + (1 : Int32), x4 + (1 : Int32))))
  else some (.inl (x3, x4 + (1 : Int32))))
  else s_in (some ((-1 : Int32), g))
theorem fC_said_0_44_s {x1 : Int32} {x2 : Int32} {x3 : Int32} {x4 : Int32} {g : s_G} {z : (Int32 × Int32) ⊕ (Int32 × s_G)} (hB : fC_said_0_44 x1 x2 x3 x4 g = some z) {v : Option Value} {h' : s_H} (hr : (s_sm (fun (x : Int32 × Int32) (v : Option Value) (h' : s_H) => s_Fin 4 s_m145 (44, [none, some (.int x1), some (.int x2), some (.int x.1), some (.int x.2)], [], s_hg g) v h') (fun (z : Int32 × s_G) (v : Option Value) (h' : s_H) => v = some (.int z.1) ∧ h' = s_hg z.2)) z v h') : s_Fin 4 s_m145 (44, [none, some (.int x1), some (.int x2), some (.int x3), some (.int x4)], [], s_hg g) v h' := by
  unfold fC_said_0_44 at hB
  refine s_Fin.sg 2 (y := (48, [none, some (.int x1), some (.int x2), some (.int x3), some (.int x4)], [.int (7 : Int32), .int x4], s_hg g)) rfl ?_
  by_cases hc : x4 < (7 : Int32)
  · rw [if_pos hc] at hB
    refine s_Fin.bf (c := (7 : Int32) ≤ x4) (tg := 78) (p2 := 48) (L1 := [none, some (.int x1), some (.int x2), some (.int x3), some (.int x4)]) (st1 := []) (Int32.not_le.mpr hc) rfl ?_
    refine s_Fin.sg 6 (y := (58, [none, some (.int x1), some (.int x2), some (.int x3), some (.int x4)], [.int (1 : Int32), .int ((x2 >>> (x4 &&& 31)) &&& (1 : Int32))], s_hg g)) rfl ?_
    by_cases hc : ((x2 >>> (x4 &&& 31)) &&& (1 : Int32)) = (1 : Int32)
    · rw [if_pos hc] at hB
      refine s_Fin.bf (c := ¬ ((x2 >>> (x4 &&& 31)) &&& (1 : Int32)) = (1 : Int32)) (tg := 72) (p2 := 58) (L1 := [none, some (.int x1), some (.int x2), some (.int x3), some (.int x4)]) (st1 := []) (fun h => h hc) rfl ?_
      refine s_Fin.sg 2 (y := (63, [none, some (.int x1), some (.int x2), some (.int x3), some (.int x4)], [.int x1, .int x3], s_hg g)) rfl ?_
      by_cases hc : x3 = x1
      · rw [if_pos hc] at hB
        refine s_Fin.bf (c := ¬ x3 = x1) (tg := 69) (p2 := 63) (L1 := [none, some (.int x1), some (.int x2), some (.int x3), some (.int x4)]) (st1 := []) (fun h => h hc) rfl ?_
        obtain ⟨_, hN, hz⟩ := s_in_of hB
        subst hz
        have hB := hN
        refine s_Fin.sg 1 (y := (68, [none, some (.int x1), some (.int x2), some (.int x3), some (.int x4)], [.int x4], s_hg g)) rfl ?_
        have hB := Option.some.inj hB
        subst hB
        obtain ⟨rfl, rfl⟩ := hr
        exact s_Fin.rt rfl rfl
      · rw [if_neg hc] at hB
        refine s_Fin.bt (c := ¬ x3 = x1) (tg := 69) (p2 := 63) (L1 := [none, some (.int x1), some (.int x2), some (.int x3), some (.int x4)]) (st1 := []) hc rfl ?_
        refine s_Fin.sg 3 (y := (44, [none, some (.int x1), some (.int x2), some (.int (x3 + (1 : Int32))), some (.int (x4 + (1 : Int32)))], [], s_hg g)) rfl ?_
        have hB := Option.some.inj hB
        subst hB
        exact s_Fin.more (L := [none, some (.int x1), some (.int x2), some (.int (x3 + (1 : Int32))), some (.int (x4 + (1 : Int32)))]) ⟨Or.inl rfl, Or.inr rfl, Or.inr rfl, Or.inr rfl, Or.inr rfl, trivial⟩ hr
    · rw [if_neg hc] at hB
      refine s_Fin.bt (c := ¬ ((x2 >>> (x4 &&& 31)) &&& (1 : Int32)) = (1 : Int32)) (tg := 72) (p2 := 58) (L1 := [none, some (.int x1), some (.int x2), some (.int x3), some (.int x4)]) (st1 := []) hc rfl ?_
      refine s_Fin.sg 2 (y := (44, [none, some (.int x1), some (.int x2), some (.int x3), some (.int (x4 + (1 : Int32)))], [], s_hg g)) rfl ?_
      have hB := Option.some.inj hB
      subst hB
      exact s_Fin.more (L := [none, some (.int x1), some (.int x2), some (.int x3), some (.int (x4 + (1 : Int32)))]) ⟨Or.inl rfl, Or.inr rfl, Or.inr rfl, Or.inr rfl, Or.inr rfl, trivial⟩ hr
  · rw [if_neg hc] at hB
    refine s_Fin.bt (c := (7 : Int32) ≤ x4) (tg := 78) (p2 := 48) (L1 := [none, some (.int x1), some (.int x2), some (.int x3), some (.int x4)]) (st1 := []) (Int32.not_lt.mp hc) rfl ?_
    obtain ⟨_, hN, hz⟩ := s_in_of hB
    subst hz
    have hB := hN
    refine s_Fin.sg 1 (y := (79, [none, some (.int x1), some (.int x2), some (.int x3), some (.int x4)], [.int (-1 : Int32)], s_hg g)) rfl ?_
    have hB := Option.some.inj hB
    subst hB
    obtain ⟨rfl, rfl⟩ := hr
    exact s_Fin.rt rfl rfl
noncomputable def fC_said_0 (x1 : Int32) (g : s_G) : Option (Int32 × s_G) :=
  if (g.1 27 6) = 0 then (some ((-1 : Int32), g))
  else if x1 < (-1 : Int32) then (some ((-1 : Int32), g))
  else s_b2 (fS_boysOf_27_17 g) fun v2 g1 => if x1 = (-1 : Int32) then (s_b1 (fJ_bitCount_s v2 g1) fun v3 => some (v3, g1))
  else s_lp (fun x => fC_said_0_44 x1 v2 x.1 x.2 g1) ((0 : Int32), (0 : Int32))
theorem fC_said_0_s {x1 : Int32} {g : s_G} {z : Int32 × s_G} (hB : fC_said_0 x1 g = some z) : s_Ev 4 s_m145 [.ref 0, .int x1] (s_hg g) (some (.int z.1)) (s_hg z.2) := by
  unfold fC_said_0 at hB
  refine s_Ev.fin ((?_ : ∀ (v : Option Value) (h' : s_H), (fun (z : Int32 × s_G) (v : Option Value) (h' : s_H) => v = some (.int z.1) ∧ h' = s_hg z.2) z v h' → s_Fin 4 s_m145 (0, s_ent [.ref 0, .int x1] (s_m145).2.2.1, [], s_hg g) v h') _ _ ⟨rfl, rfl⟩)
  intro v h' hr
  refine (show s_Fin 4 s_m145 (0, [some (.ref 0), some (.int x1), none, none, none], [], s_hg g) v h' from ?_)
  refine s_Fin.sg 3 (y := (7, [some (.ref 0), some (.int x1), none, none, none], [.int (g.1 27 6)], s_hg g)) rfl ?_
  by_cases hc : (g.1 27 6) = 0
  · rw [if_pos hc] at hB
    refine s_Fin.bt (c := (g.1 27 6) = 0) (tg := 15) (p2 := 7) (L1 := [some (.ref 0), some (.int x1), none, none, none]) (st1 := []) hc rfl ?_
    refine s_Fin.sg 1 (y := (16, [some (.ref 0), some (.int x1), none, none, none], [.int (-1 : Int32)], s_hg g)) rfl ?_
    have hB := Option.some.inj hB
    subst hB
    obtain ⟨rfl, rfl⟩ := hr
    exact s_Fin.rt rfl rfl
  · rw [if_neg hc] at hB
    refine s_Fin.bf (c := (g.1 27 6) = 0) (tg := 15) (p2 := 7) (L1 := [some (.ref 0), some (.int x1), none, none, none]) (st1 := []) hc rfl ?_
    refine s_Fin.sg 2 (y := (12, [some (.ref 0), some (.int x1), none, none, none], [.int (-1 : Int32), .int x1], s_hg g)) rfl ?_
    by_cases hc : x1 < (-1 : Int32)
    · rw [if_pos hc] at hB
      refine s_Fin.bf (c := (-1 : Int32) ≤ x1) (tg := 17) (p2 := 12) (L1 := [some (.ref 0), some (.int x1), none, none, none]) (st1 := []) (Int32.not_le.mpr hc) rfl ?_
      refine s_Fin.sg 1 (y := (16, [some (.ref 0), some (.int x1), none, none, none], [.int (-1 : Int32)], s_hg g)) rfl ?_
      have hB := Option.some.inj hB
      subst hB
      obtain ⟨rfl, rfl⟩ := hr
      exact s_Fin.rt rfl rfl
    · rw [if_neg hc] at hB
      refine s_Fin.bt (c := (-1 : Int32) ≤ x1) (tg := 17) (p2 := 12) (L1 := [some (.ref 0), some (.int x1), none, none, none]) (st1 := []) (Int32.not_lt.mp hc) rfl ?_
      refine s_Fin.sg 4 (y := (25, [some (.ref 0), some (.int x1), none, none, none], [.ref 17, .ref 27], s_hg g)) rfl ?_
      obtain ⟨v2, g1, hp, hB⟩ := s_bd2 hB
      refine s_Fin.cl (d := 3) (q1 := s_m146) (md := 146) (vs := [.ref 27, .ref 17]) (rest := []) (h1 := s_hg g1) (u := some (.int v2)) (s_Ev.up (by omega) (fS_boysOf_27_17_s hp)) rfl rfl rfl rfl ?_
      refine s_Fin.sg 3 (y := (31, [some (.ref 0), some (.int x1), some (.int v2), none, none], [.int (-1 : Int32), .int x1], s_hg g1)) rfl ?_
      by_cases hc : x1 = (-1 : Int32)
      · rw [if_pos hc] at hB
        refine s_Fin.bf (c := ¬ x1 = (-1 : Int32)) (tg := 39) (p2 := 31) (L1 := [some (.ref 0), some (.int x1), some (.int v2), none, none]) (st1 := []) (fun h => h hc) rfl ?_
        refine s_Fin.sg 1 (y := (35, [some (.ref 0), some (.int x1), some (.int v2), none, none], [.int v2], s_hg g1)) rfl ?_
        obtain ⟨v3, hp, hB⟩ := s_bd hB
        refine s_Fin.cl (d := 3) (q1 := s_m89) (md := 89) (vs := [.int v2]) (rest := []) (h1 := s_hg g1) (u := some (.int v3)) (s_Ev.up (by omega) (fJ_bitCount_s_s hp)) rfl rfl rfl rfl ?_
        have hB := Option.some.inj hB
        subst hB
        obtain ⟨rfl, rfl⟩ := hr
        exact s_Fin.rt rfl rfl
      · rw [if_neg hc] at hB
        refine s_Fin.bt (c := ¬ x1 = (-1 : Int32)) (tg := 39) (p2 := 31) (L1 := [some (.ref 0), some (.int x1), some (.int v2), none, none]) (st1 := []) hc rfl ?_
        refine s_Fin.sg 4 (y := (44, [some (.ref 0), some (.int x1), some (.int v2), some (.int (0 : Int32)), some (.int (0 : Int32))], [], s_hg g1)) rfl ?_
        exact s_Fin.more (L := [none, some (.int x1), some (.int v2), some (.int (0 : Int32)), some (.int (0 : Int32))]) ⟨Or.inl rfl, Or.inr rfl, Or.inr rfl, Or.inr rfl, Or.inr rfl, trivial⟩ (s_lp_s (P := (fun (x : Int32 × Int32) (v : Option Value) (h' : s_H) => s_Fin 4 s_m145 (44, [none, some (.int x1), some (.int v2), some (.int x.1), some (.int x.2)], [], s_hg g1) v h')) (Q := (fun (z : Int32 × s_G) (v : Option Value) (h' : s_H) => v = some (.int z.1) ∧ h' = s_hg z.2)) (fun x z hB v h' hr => fC_said_0_44_s hB hr) hB _ _ hr)
-- CampAshesModel.image
noncomputable def fM_image_130_51 (x1 : Int32) (x2 : Int32) (g : s_G) : Option ((Int32 × s_G) ⊕ (Int32 × s_G)) :=
  if x2 < (17 : Int32) then (s_b1 (s_ix 17 x2) fun k7 => s_b1 (s_ix 34 (((17 : Int32) * x1) + x2)) fun k9 => some (.inl (x2 + (1 : Int32), (s_sl g 139 k9 (g.2.1 137 k7)))))
  else s_in (s_b1 (s_ix 2 x1) fun k11 => some ((1 : Int32), (s_si g 140 k11 ((1 : Int32) &&& 1))))
theorem fM_image_130_51_s {x1 : Int32} {x2 : Int32} {g : s_G} {z : (Int32 × s_G) ⊕ (Int32 × s_G)} (hB : fM_image_130_51 x1 x2 g = some z) {v : Option Value} {h' : s_H} (hr : (s_sm (fun (x : Int32 × s_G) (v : Option Value) (h' : s_H) => s_Fin 1 s_m279 (51, [some (.ref 130), some (.int x1), some (.int x.1)], [], s_hg x.2) v h') (fun (z : Int32 × s_G) (v : Option Value) (h' : s_H) => v = some (.int z.1) ∧ h' = s_hg z.2)) z v h') : s_Fin 1 s_m279 (51, [some (.ref 130), some (.int x1), some (.int x2)], [], s_hg g) v h' := by
  unfold fM_image_130_51 at hB
  refine s_Fin.sg 2 (y := (54, [some (.ref 130), some (.int x1), some (.int x2)], [.int (17 : Int32), .int x2], s_hg g)) rfl ?_
  by_cases hc : x2 < (17 : Int32)
  · rw [if_pos hc] at hB
    refine s_Fin.bf (c := (17 : Int32) ≤ x2) (tg := 80) (p2 := 54) (L1 := [some (.ref 130), some (.int x1), some (.int x2)]) (st1 := []) (Int32.not_le.mpr hc) rfl ?_
    refine s_Fin.sg 10 (y := (72, [some (.ref 130), some (.int x1), some (.int x2)], [.int x2, .ref 137, .int (((17 : Int32) * x1) + x2), .ref 139], s_hg g)) rfl ?_
    obtain ⟨k7, hk7, hB⟩ := s_bd hB
    refine s_Fin.ix (n := 17) (i := x2) (pc1 := 73) (L1 := [some (.ref 130), some (.int x1), some (.int x2)]) (fun j6 => [.long (g.2.1 137 j6), .int (((17 : Int32) * x1) + x2), .ref 139]) (fun j6 => s_hg g) hk7 rfl rfl ?_
    obtain ⟨k9, hk9, hB⟩ := s_bd hB
    refine s_Fin.ix (n := 34) (i := ((17 : Int32) * x1) + x2) (pc1 := 74) (L1 := [some (.ref 130), some (.int x1), some (.int x2)]) (fun j8 => []) (fun j8 => s_hg (s_sl g 139 j8 (g.2.1 137 k7))) hk9 rfl rfl ?_
    refine s_Fin.sg 2 (y := (51, [some (.ref 130), some (.int x1), some (.int (x2 + (1 : Int32)))], [], s_hg (s_sl g 139 k9 (g.2.1 137 k7)))) rfl ?_
    have hB := Option.some.inj hB
    subst hB
    exact s_Fin.more (L := [some (.ref 130), some (.int x1), some (.int (x2 + (1 : Int32)))]) ⟨Or.inr rfl, Or.inr rfl, Or.inr rfl, trivial⟩ hr
  · rw [if_neg hc] at hB
    refine s_Fin.bt (c := (17 : Int32) ≤ x2) (tg := 80) (p2 := 54) (L1 := [some (.ref 130), some (.int x1), some (.int x2)]) (st1 := []) (Int32.not_lt.mp hc) rfl ?_
    obtain ⟨_, hN, hz⟩ := s_in_of hB
    subst hz
    have hB := hN
    refine s_Fin.sg 4 (y := (86, [some (.ref 130), some (.int x1), some (.int x2)], [.int (1 : Int32), .int x1, .ref 140], s_hg g)) rfl ?_
    obtain ⟨k11, hk11, hB⟩ := s_bd hB
    refine s_Fin.ix (n := 2) (i := x1) (pc1 := 87) (L1 := [some (.ref 130), some (.int x1), some (.int x2)]) (fun j10 => []) (fun j10 => s_hg (s_si g 140 j10 ((1 : Int32) &&& 1))) hk11 rfl rfl ?_
    refine s_Fin.sg 1 (y := (88, [some (.ref 130), some (.int x1), some (.int x2)], [.int (1 : Int32)], s_hg (s_si g 140 k11 ((1 : Int32) &&& 1)))) rfl ?_
    have hB := Option.some.inj hB
    subst hB
    obtain ⟨rfl, rfl⟩ := hr
    exact s_Fin.rt rfl rfl
noncomputable def fM_image_130_18 (x1 : Int32) (x2 : Int32) (g : s_G) : Option ((Int32 × s_G) ⊕ (Int32 × s_G)) :=
  if x2 < (375 : Int32) then (s_b1 (s_ix 375 x2) fun k3 => s_b1 (s_ix 750 (((375 : Int32) * x1) + x2)) fun k5 => some (.inl (x2 + (1 : Int32), (s_si g 134 k5 (g.1 132 k3)))))
  else s_in (s_lp (fun x => fM_image_130_51 x1 x.1 x.2) ((0 : Int32), g))
theorem fM_image_130_18_s {x1 : Int32} {x2 : Int32} {g : s_G} {z : (Int32 × s_G) ⊕ (Int32 × s_G)} (hB : fM_image_130_18 x1 x2 g = some z) {v : Option Value} {h' : s_H} (hr : (s_sm (fun (x : Int32 × s_G) (v : Option Value) (h' : s_H) => s_Fin 1 s_m279 (18, [some (.ref 130), some (.int x1), some (.int x.1)], [], s_hg x.2) v h') (fun (z : Int32 × s_G) (v : Option Value) (h' : s_H) => v = some (.int z.1) ∧ h' = s_hg z.2)) z v h') : s_Fin 1 s_m279 (18, [some (.ref 130), some (.int x1), some (.int x2)], [], s_hg g) v h' := by
  unfold fM_image_130_18 at hB
  refine s_Fin.sg 2 (y := (22, [some (.ref 130), some (.int x1), some (.int x2)], [.int (375 : Int32), .int x2], s_hg g)) rfl ?_
  by_cases hc : x2 < (375 : Int32)
  · rw [if_pos hc] at hB
    refine s_Fin.bf (c := (375 : Int32) ≤ x2) (tg := 49) (p2 := 22) (L1 := [some (.ref 130), some (.int x1), some (.int x2)]) (st1 := []) (Int32.not_le.mpr hc) rfl ?_
    refine s_Fin.sg 10 (y := (41, [some (.ref 130), some (.int x1), some (.int x2)], [.int x2, .ref 132, .int (((375 : Int32) * x1) + x2), .ref 134], s_hg g)) rfl ?_
    obtain ⟨k3, hk3, hB⟩ := s_bd hB
    refine s_Fin.ix (n := 375) (i := x2) (pc1 := 42) (L1 := [some (.ref 130), some (.int x1), some (.int x2)]) (fun j2 => [.int (g.1 132 j2), .int (((375 : Int32) * x1) + x2), .ref 134]) (fun j2 => s_hg g) hk3 rfl rfl ?_
    obtain ⟨k5, hk5, hB⟩ := s_bd hB
    refine s_Fin.ix (n := 750) (i := ((375 : Int32) * x1) + x2) (pc1 := 43) (L1 := [some (.ref 130), some (.int x1), some (.int x2)]) (fun j4 => []) (fun j4 => s_hg (s_si g 134 j4 (g.1 132 k3))) hk5 rfl rfl ?_
    refine s_Fin.sg 2 (y := (18, [some (.ref 130), some (.int x1), some (.int (x2 + (1 : Int32)))], [], s_hg (s_si g 134 k5 (g.1 132 k3)))) rfl ?_
    have hB := Option.some.inj hB
    subst hB
    exact s_Fin.more (L := [some (.ref 130), some (.int x1), some (.int (x2 + (1 : Int32)))]) ⟨Or.inr rfl, Or.inr rfl, Or.inr rfl, trivial⟩ hr
  · rw [if_neg hc] at hB
    refine s_Fin.bt (c := (375 : Int32) ≤ x2) (tg := 49) (p2 := 22) (L1 := [some (.ref 130), some (.int x1), some (.int x2)]) (st1 := []) (Int32.not_lt.mp hc) rfl ?_
    obtain ⟨_, hN, hz⟩ := s_in_of hB
    subst hz
    have hB := hN
    refine s_Fin.sg 2 (y := (51, [some (.ref 130), some (.int x1), some (.int (0 : Int32))], [], s_hg g)) rfl ?_
    exact s_Fin.more (L := [some (.ref 130), some (.int x1), some (.int (0 : Int32))]) ⟨Or.inr rfl, Or.inr rfl, Or.inr rfl, trivial⟩ (s_lp_s (P := (fun (x : Int32 × s_G) (v : Option Value) (h' : s_H) => s_Fin 1 s_m279 (51, [some (.ref 130), some (.int x1), some (.int x.1)], [], s_hg x.2) v h')) (Q := (fun (z : Int32 × s_G) (v : Option Value) (h' : s_H) => v = some (.int z.1) ∧ h' = s_hg z.2)) (fun x z hB v h' hr => fM_image_130_51_s hB hr) hB _ _ hr)
noncomputable def fM_image_130 (x1 : Int32) (g : s_G) : Option (Int32 × s_G) :=
  s_b1 (fM_isIn_s x1 (0 : Int32) (1 : Int32) (s_si g 130 0 (0 : Int32))) fun v1 => if v1 = 0 then (some ((0 : Int32), (s_si g 130 0 (0 : Int32))))
  else s_lp (fun x => fM_image_130_18 x1 x.1 x.2) ((0 : Int32), (s_si g 130 0 (0 : Int32)))
theorem fM_image_130_s {x1 : Int32} {g : s_G} {z : Int32 × s_G} (hB : fM_image_130 x1 g = some z) : s_Ev 1 s_m279 [.ref 130, .int x1] (s_hg g) (some (.int z.1)) (s_hg z.2) := by
  unfold fM_image_130 at hB
  refine s_Ev.fin ((?_ : ∀ (v : Option Value) (h' : s_H), (fun (z : Int32 × s_G) (v : Option Value) (h' : s_H) => v = some (.int z.1) ∧ h' = s_hg z.2) z v h' → s_Fin 1 s_m279 (0, s_ent [.ref 130, .int x1] (s_m279).2.2.1, [], s_hg g) v h') _ _ ⟨rfl, rfl⟩)
  intro v h' hr
  refine (show s_Fin 1 s_m279 (0, [some (.ref 130), some (.int x1), none], [], s_hg g) v h' from ?_)
  refine s_Fin.sg 6 (y := (8, [some (.ref 130), some (.int x1), none], [.int (1 : Int32), .int (0 : Int32), .int x1], s_hg (s_si g 130 0 (0 : Int32)))) rfl ?_
  obtain ⟨v1, hp, hB⟩ := s_bd hB
  refine s_Fin.cl (d := 0) (q1 := s_m181) (md := 181) (vs := [.int x1, .int (0 : Int32), .int (1 : Int32)]) (rest := []) (h1 := s_hg (s_si g 130 0 (0 : Int32))) (u := some (.int v1)) (s_Ev.up (by omega) (fM_isIn_s_s hp)) rfl rfl rfl rfl ?_
  by_cases hc : v1 = 0
  · rw [if_pos hc] at hB
    refine s_Fin.bf (c := ¬ v1 = 0) (tg := 16) (p2 := 11) (L1 := [some (.ref 130), some (.int x1), none]) (st1 := []) (fun h => h hc) rfl ?_
    refine s_Fin.sg 1 (y := (15, [some (.ref 130), some (.int x1), none], [.int (0 : Int32)], s_hg (s_si g 130 0 (0 : Int32)))) rfl ?_
    have hB := Option.some.inj hB
    subst hB
    obtain ⟨rfl, rfl⟩ := hr
    exact s_Fin.rt rfl rfl
  · rw [if_neg hc] at hB
    refine s_Fin.bt (c := ¬ v1 = 0) (tg := 16) (p2 := 11) (L1 := [some (.ref 130), some (.int x1), none]) (st1 := []) hc rfl ?_
    refine s_Fin.sg 2 (y := (18, [some (.ref 130), some (.int x1), some (.int (0 : Int32))], [], s_hg (s_si g 130 0 (0 : Int32)))) rfl ?_
    exact s_Fin.more (L := [some (.ref 130), some (.int x1), some (.int (0 : Int32))]) ⟨Or.inr rfl, Or.inr rfl, Or.inr rfl, trivial⟩ (s_lp_s (P := (fun (x : Int32 × s_G) (v : Option Value) (h' : s_H) => s_Fin 1 s_m279 (18, [some (.ref 130), some (.int x1), some (.int x.1)], [], s_hg x.2) v h')) (Q := (fun (z : Int32 × s_G) (v : Option Value) (h' : s_H) => v = some (.int z.1) ∧ h' = s_hg z.2)) (fun x z hB v h' hr => fM_image_130_18_s hB hr) hB _ _ hr)
-- CampAshes$Camp.copyFrom
noncomputable def fP_copyFrom_87_3 (g : s_G) : Option (s_G) :=
  some (s_si (s_si (s_si (s_si (s_ci (s_ci (s_ci (s_ci (s_ci (s_cL (s_si (s_si g 87 0 (g.1 3 0)) 87 1 (g.1 3 1)) 4 88 0 0 17) 5 89 0 0 7) 6 90 0 0 10) 7 91 0 0 10) 8 92 0 0 10) 9 93 0 0 4) 87 8 (g.1 3 8)) 87 9 (g.1 3 9)) 87 10 (g.1 3 10)) 87 11 (g.1 3 11))
theorem fP_copyFrom_87_3_s {g : s_G} {z : s_G} (hB : fP_copyFrom_87_3 g = some z) : s_Ev 0 s_m43 [.ref 87, .ref 3] (s_hg g) (none) (s_hg z) := by
  unfold fP_copyFrom_87_3 at hB
  refine s_Ev.fin ((?_ : ∀ (v : Option Value) (h' : s_H), (fun (z : s_G) (v : Option Value) (h' : s_H) => v = none ∧ h' = s_hg z) z v h' → s_Fin 0 s_m43 (0, s_ent [.ref 87, .ref 3] (s_m43).2.2.1, [], s_hg g) v h') _ _ ⟨rfl, rfl⟩)
  intro v h' hr
  refine (show s_Fin 0 s_m43 (0, [some (.ref 87), some (.ref 3)], [], s_hg g) v h' from ?_)
  refine s_Fin.sg 72 (y := (137, [some (.ref 87), some (.ref 3)], [], s_hg (s_si (s_si (s_si (s_si (s_ci (s_ci (s_ci (s_ci (s_ci (s_cL (s_si (s_si g 87 0 (g.1 3 0)) 87 1 (g.1 3 1)) 4 88 0 0 17) 5 89 0 0 7) 6 90 0 0 10) 7 91 0 0 10) 8 92 0 0 10) 9 93 0 0 4) 87 8 (g.1 3 8)) 87 9 (g.1 3 9)) 87 10 (g.1 3 10)) 87 11 (g.1 3 11)))) rfl ?_
  have hB := Option.some.inj hB
  subst hB
  obtain ⟨rfl, rfl⟩ := hr
  exact s_Fin.rt rfl rfl
-- CampAshes$State.copyFrom
noncomputable def fT_copyFrom_94_17 (g : s_G) : Option (s_G) :=
  some (s_si (s_si (s_si (s_si (s_si (s_ci (s_ci (s_ci (s_ci g 18 95 0 0 70) 19 96 0 0 7) 20 97 0 0 4) 21 98 0 0 7) 94 5 (g.1 17 5)) 94 6 (g.1 17 6)) 94 7 (g.1 17 7)) 94 8 (g.1 17 8)) 94 9 (g.1 17 9))
theorem fT_copyFrom_94_17_s {g : s_G} {z : s_G} (hB : fT_copyFrom_94_17 g = some z) : s_Ev 0 s_m62 [.ref 94, .ref 17] (s_hg g) (none) (s_hg z) := by
  unfold fT_copyFrom_94_17 at hB
  refine s_Ev.fin ((?_ : ∀ (v : Option Value) (h' : s_H), (fun (z : s_G) (v : Option Value) (h' : s_H) => v = none ∧ h' = s_hg z) z v h' → s_Fin 0 s_m62 (0, s_ent [.ref 94, .ref 17] (s_m62).2.2.1, [], s_hg g) v h') _ _ ⟨rfl, rfl⟩)
  intro v h' hr
  refine (show s_Fin 0 s_m62 (0, [some (.ref 94), some (.ref 17)], [], s_hg g) v h' from ?_)
  refine s_Fin.sg 52 (y := (99, [some (.ref 94), some (.ref 17)], [], s_hg (s_si (s_si (s_si (s_si (s_si (s_ci (s_ci (s_ci (s_ci g 18 95 0 0 70) 19 96 0 0 7) 20 97 0 0 4) 21 98 0 0 7) 94 5 (g.1 17 5)) 94 6 (g.1 17 6)) 94 7 (g.1 17 7)) 94 8 (g.1 17 8)) 94 9 (g.1 17 9)))) rfl ?_
  have hB := Option.some.inj hB
  subst hB
  obtain ⟨rfl, rfl⟩ := hr
  exact s_Fin.rt rfl rfl
-- CampAshes$Sentence.copyFrom
noncomputable def fS_copyFrom_99_27_2 (x2 : Int32) (g : s_G) : Option ((Int32 × s_G) ⊕ (s_G)) :=
  if x2 < (40 : Int32) then (s_b1 (s_ix 40 x2) fun k2 => if s_okw (g.2.2 28 k2) = true then s_b1 (s_ix 40 x2) fun k4 => some (.inl (x2 + (1 : Int32), (s_sr g 100 k4 (g.2.2 28 k2))))
  else none)
  else s_in (if (g.1 27 6) = 0 ∨ (g.1 27 6) = 1 then (some (s_si (s_si (s_si (s_ci (s_ci g 29 101 0 0 40) 30 102 0 0 40) 99 4 (g.1 27 4)) 99 5 (g.1 27 5)) 99 6 (g.1 27 6)))
  else none)
theorem fS_copyFrom_99_27_2_s {x2 : Int32} {g : s_G} {z : (Int32 × s_G) ⊕ (s_G)} (hB : fS_copyFrom_99_27_2 x2 g = some z) {v : Option Value} {h' : s_H} (hr : (s_sm (fun (x : Int32 × s_G) (v : Option Value) (h' : s_H) => s_Fin 0 s_m144 (2, [some (.ref 99), some (.ref 27), some (.int x.1)], [], s_hg x.2) v h') (fun (z : s_G) (v : Option Value) (h' : s_H) => v = none ∧ h' = s_hg z)) z v h') : s_Fin 0 s_m144 (2, [some (.ref 99), some (.ref 27), some (.int x2)], [], s_hg g) v h' := by
  unfold fS_copyFrom_99_27_2 at hB
  refine s_Fin.sg 2 (y := (5, [some (.ref 99), some (.ref 27), some (.int x2)], [.int (40 : Int32), .int x2], s_hg g)) rfl ?_
  by_cases hc : x2 < (40 : Int32)
  · rw [if_pos hc] at hB
    refine s_Fin.bf (c := (40 : Int32) ≤ x2) (tg := 26) (p2 := 5) (L1 := [some (.ref 99), some (.ref 27), some (.int x2)]) (st1 := []) (Int32.not_le.mpr hc) rfl ?_
    refine s_Fin.sg 6 (y := (18, [some (.ref 99), some (.ref 27), some (.int x2)], [.int x2, .ref 28, .int x2, .ref 100], s_hg g)) rfl ?_
    obtain ⟨k2, hk2, hB⟩ := s_bd hB
    refine s_Fin.ix (n := 40) (i := x2) (pc1 := 19) (L1 := [some (.ref 99), some (.ref 27), some (.int x2)]) (fun j1 => [va_rf (g.2.2 28 j1), .int x2, .ref 100]) (fun j1 => s_hg g) hk2 rfl rfl ?_
    have hw : s_okw (g.2.2 28 k2) = true := Classical.byContradiction fun h => (by rw [if_neg h] at hB; cases hB)
    rw [if_pos hw] at hB
    obtain ⟨k4, hk, hB⟩ := s_bd hB
    refine s_Fin.nx (pc1 := 20) (L1 := [some (.ref 99), some (.ref 27), some (.int x2)]) (st1 := []) (h1 := s_hg (s_sr g 100 k4 (g.2.2 28 k2))) ((show _ = s_aaw 100 40 20 [some (.ref 99), some (.ref 27), some (.int x2)] [] (s_hg g) x2 (va_rf (g.2.2 28 k2)) from rfl).trans (s_aaw_of (k := k4) rfl rfl hw hk (fun k => s_wR_hg rfl))) rfl ?_
    refine s_Fin.sg 2 (y := (2, [some (.ref 99), some (.ref 27), some (.int (x2 + (1 : Int32)))], [], s_hg (s_sr g 100 k4 (g.2.2 28 k2)))) rfl ?_
    have hB := Option.some.inj hB
    subst hB
    exact s_Fin.more (L := [some (.ref 99), some (.ref 27), some (.int (x2 + (1 : Int32)))]) ⟨Or.inr rfl, Or.inr rfl, Or.inr rfl, trivial⟩ hr
  · rw [if_neg hc] at hB
    refine s_Fin.bt (c := (40 : Int32) ≤ x2) (tg := 26) (p2 := 5) (L1 := [some (.ref 99), some (.ref 27), some (.int x2)]) (st1 := []) (Int32.not_lt.mp hc) rfl ?_
    obtain ⟨_, hN, hz⟩ := s_in_of hB
    subst hz
    have hB := hN
    refine s_Fin.sg 27 (y := (77, [some (.ref 99), some (.ref 27), some (.int x2)], [.int (g.1 27 6), .ref 99], s_hg (s_si (s_si (s_ci (s_ci g 29 101 0 0 40) 30 102 0 0 40) 99 4 (g.1 27 4)) 99 5 (g.1 27 5)))) rfl ?_
    have hc : (g.1 27 6) = 0 ∨ (g.1 27 6) = 1 := Classical.byContradiction fun h => (by rw [if_neg h] at hB; cases hB)
    rw [if_pos hc] at hB
    refine s_Fin.nx (pc1 := 80) (L1 := [some (.ref 99), some (.ref 27), some (.int x2)]) (st1 := []) (h1 := s_hg (s_si (s_si (s_si (s_ci (s_ci g 29 101 0 0 40) 30 102 0 0 40) 99 4 (g.1 27 4)) 99 5 (g.1 27 5)) 99 6 (g.1 27 6))) (by rcases hc with hc | hc <;> rw [hc] <;> exact rfl) rfl ?_
    have hB := Option.some.inj hB
    subst hB
    obtain ⟨rfl, rfl⟩ := hr
    exact s_Fin.rt rfl rfl
noncomputable def fS_copyFrom_99_27 (g : s_G) : Option (s_G) :=
  s_lp (fun x => fS_copyFrom_99_27_2 x.1 x.2) ((0 : Int32), g)
theorem fS_copyFrom_99_27_s {g : s_G} {z : s_G} (hB : fS_copyFrom_99_27 g = some z) : s_Ev 0 s_m144 [.ref 99, .ref 27] (s_hg g) (none) (s_hg z) := by
  unfold fS_copyFrom_99_27 at hB
  refine s_Ev.fin ((?_ : ∀ (v : Option Value) (h' : s_H), (fun (z : s_G) (v : Option Value) (h' : s_H) => v = none ∧ h' = s_hg z) z v h' → s_Fin 0 s_m144 (0, s_ent [.ref 99, .ref 27] (s_m144).2.2.1, [], s_hg g) v h') _ _ ⟨rfl, rfl⟩)
  intro v h' hr
  refine (show s_Fin 0 s_m144 (0, [some (.ref 99), some (.ref 27), none], [], s_hg g) v h' from ?_)
  refine s_Fin.sg 2 (y := (2, [some (.ref 99), some (.ref 27), some (.int (0 : Int32))], [], s_hg g)) rfl ?_
  exact s_Fin.more (L := [some (.ref 99), some (.ref 27), some (.int (0 : Int32))]) ⟨Or.inr rfl, Or.inr rfl, Or.inr rfl, trivial⟩ (s_lp_s (P := (fun (x : Int32 × s_G) (v : Option Value) (h' : s_H) => s_Fin 0 s_m144 (2, [some (.ref 99), some (.ref 27), some (.int x.1)], [], s_hg x.2) v h')) (Q := (fun (z : s_G) (v : Option Value) (h' : s_H) => v = none ∧ h' = s_hg z)) (fun x z hB v h' hr => fS_copyFrom_99_27_2_s hB hr) hB _ _ hr)
-- CampAshes$Image.keep
noncomputable def fI_keep_86_3_17_27 (g : s_G) : Option (s_G) :=
  s_b1 (fP_copyFrom_87_3 g) fun g1 => s_b1 (fT_copyFrom_94_17 g1) fun g2 => s_b1 (fS_copyFrom_99_27 g2) fun g3 => some (s_si g3 86 3 (1 : Int32))
theorem fI_keep_86_3_17_27_s {g : s_G} {z : s_G} (hB : fI_keep_86_3_17_27 g = some z) : s_Ev 1 s_m151 [.ref 86, .ref 3, .ref 17, .ref 27] (s_hg g) (none) (s_hg z) := by
  unfold fI_keep_86_3_17_27 at hB
  refine s_Ev.fin ((?_ : ∀ (v : Option Value) (h' : s_H), (fun (z : s_G) (v : Option Value) (h' : s_H) => v = none ∧ h' = s_hg z) z v h' → s_Fin 1 s_m151 (0, s_ent [.ref 86, .ref 3, .ref 17, .ref 27] (s_m151).2.2.1, [], s_hg g) v h') _ _ ⟨rfl, rfl⟩)
  intro v h' hr
  refine (show s_Fin 1 s_m151 (0, [some (.ref 86), some (.ref 3), some (.ref 17), some (.ref 27)], [], s_hg g) v h' from ?_)
  refine s_Fin.sg 3 (y := (5, [some (.ref 86), some (.ref 3), some (.ref 17), some (.ref 27)], [.ref 3, .ref 87], s_hg g)) rfl ?_
  obtain ⟨g1, hp, hB⟩ := s_bd hB
  refine s_Fin.cl (d := 0) (q1 := s_m43) (md := 43) (vs := [.ref 87, .ref 3]) (rest := []) (h1 := s_hg g1) (u := none) (s_Ev.up (by omega) (fP_copyFrom_87_3_s hp)) rfl rfl rfl rfl ?_
  refine s_Fin.sg 3 (y := (13, [some (.ref 86), some (.ref 3), some (.ref 17), some (.ref 27)], [.ref 17, .ref 94], s_hg g1)) rfl ?_
  obtain ⟨g2, hp, hB⟩ := s_bd hB
  refine s_Fin.cl (d := 0) (q1 := s_m62) (md := 62) (vs := [.ref 94, .ref 17]) (rest := []) (h1 := s_hg g2) (u := none) (s_Ev.up (by omega) (fT_copyFrom_94_17_s hp)) rfl rfl rfl rfl ?_
  refine s_Fin.sg 3 (y := (21, [some (.ref 86), some (.ref 3), some (.ref 17), some (.ref 27)], [.ref 27, .ref 99], s_hg g2)) rfl ?_
  obtain ⟨g3, hp, hB⟩ := s_bd hB
  refine s_Fin.cl (d := 0) (q1 := s_m144) (md := 144) (vs := [.ref 99, .ref 27]) (rest := []) (h1 := s_hg g3) (u := none) (s_Ev.up (by omega) (fS_copyFrom_99_27_s hp)) rfl rfl rfl rfl ?_
  refine s_Fin.sg 3 (y := (29, [some (.ref 86), some (.ref 3), some (.ref 17), some (.ref 27)], [], s_hg (s_si g3 86 3 (1 : Int32)))) rfl ?_
  have hB := Option.some.inj hB
  subst hB
  obtain ⟨rfl, rfl⟩ := hr
  exact s_Fin.rt rfl rfl
-- CampAshes$Camp.copyFrom
noncomputable def fP_copyFrom_105_3 (g : s_G) : Option (s_G) :=
  some (s_si (s_si (s_si (s_si (s_ci (s_ci (s_ci (s_ci (s_ci (s_cL (s_si (s_si g 105 0 (g.1 3 0)) 105 1 (g.1 3 1)) 4 106 0 0 17) 5 107 0 0 7) 6 108 0 0 10) 7 109 0 0 10) 8 110 0 0 10) 9 111 0 0 4) 105 8 (g.1 3 8)) 105 9 (g.1 3 9)) 105 10 (g.1 3 10)) 105 11 (g.1 3 11))
theorem fP_copyFrom_105_3_s {g : s_G} {z : s_G} (hB : fP_copyFrom_105_3 g = some z) : s_Ev 0 s_m43 [.ref 105, .ref 3] (s_hg g) (none) (s_hg z) := by
  unfold fP_copyFrom_105_3 at hB
  refine s_Ev.fin ((?_ : ∀ (v : Option Value) (h' : s_H), (fun (z : s_G) (v : Option Value) (h' : s_H) => v = none ∧ h' = s_hg z) z v h' → s_Fin 0 s_m43 (0, s_ent [.ref 105, .ref 3] (s_m43).2.2.1, [], s_hg g) v h') _ _ ⟨rfl, rfl⟩)
  intro v h' hr
  refine (show s_Fin 0 s_m43 (0, [some (.ref 105), some (.ref 3)], [], s_hg g) v h' from ?_)
  refine s_Fin.sg 72 (y := (137, [some (.ref 105), some (.ref 3)], [], s_hg (s_si (s_si (s_si (s_si (s_ci (s_ci (s_ci (s_ci (s_ci (s_cL (s_si (s_si g 105 0 (g.1 3 0)) 105 1 (g.1 3 1)) 4 106 0 0 17) 5 107 0 0 7) 6 108 0 0 10) 7 109 0 0 10) 8 110 0 0 10) 9 111 0 0 4) 105 8 (g.1 3 8)) 105 9 (g.1 3 9)) 105 10 (g.1 3 10)) 105 11 (g.1 3 11)))) rfl ?_
  have hB := Option.some.inj hB
  subst hB
  obtain ⟨rfl, rfl⟩ := hr
  exact s_Fin.rt rfl rfl
-- CampAshes$State.copyFrom
noncomputable def fT_copyFrom_112_17 (g : s_G) : Option (s_G) :=
  some (s_si (s_si (s_si (s_si (s_si (s_ci (s_ci (s_ci (s_ci g 18 113 0 0 70) 19 114 0 0 7) 20 115 0 0 4) 21 116 0 0 7) 112 5 (g.1 17 5)) 112 6 (g.1 17 6)) 112 7 (g.1 17 7)) 112 8 (g.1 17 8)) 112 9 (g.1 17 9))
theorem fT_copyFrom_112_17_s {g : s_G} {z : s_G} (hB : fT_copyFrom_112_17 g = some z) : s_Ev 0 s_m62 [.ref 112, .ref 17] (s_hg g) (none) (s_hg z) := by
  unfold fT_copyFrom_112_17 at hB
  refine s_Ev.fin ((?_ : ∀ (v : Option Value) (h' : s_H), (fun (z : s_G) (v : Option Value) (h' : s_H) => v = none ∧ h' = s_hg z) z v h' → s_Fin 0 s_m62 (0, s_ent [.ref 112, .ref 17] (s_m62).2.2.1, [], s_hg g) v h') _ _ ⟨rfl, rfl⟩)
  intro v h' hr
  refine (show s_Fin 0 s_m62 (0, [some (.ref 112), some (.ref 17)], [], s_hg g) v h' from ?_)
  refine s_Fin.sg 52 (y := (99, [some (.ref 112), some (.ref 17)], [], s_hg (s_si (s_si (s_si (s_si (s_si (s_ci (s_ci (s_ci (s_ci g 18 113 0 0 70) 19 114 0 0 7) 20 115 0 0 4) 21 116 0 0 7) 112 5 (g.1 17 5)) 112 6 (g.1 17 6)) 112 7 (g.1 17 7)) 112 8 (g.1 17 8)) 112 9 (g.1 17 9)))) rfl ?_
  have hB := Option.some.inj hB
  subst hB
  obtain ⟨rfl, rfl⟩ := hr
  exact s_Fin.rt rfl rfl
