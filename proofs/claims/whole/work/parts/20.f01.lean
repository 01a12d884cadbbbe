-- CampAshesModel.go
noncomputable def fM_go_130_179 (x1 : Int32) (t0 : Int32) (g : s_G) : Option (s_G) :=
  some (s_si (s_si (s_si g 130 7 t0) 130 9 x1) 130 5 ((g.1 130 5) + (1 : Int32)))
theorem fM_go_130_179_s {x1 : Int32} {t0 : Int32} {g : s_G} {z : s_G} (hB : fM_go_130_179 x1 t0 g = some z) {v : Option Value} {h' : s_H} (hr : (fun (z : s_G) (v : Option Value) (h' : s_H) => v = none ∧ h' = s_hg z) z v h') : s_Fin 1 s_m166 (179, [some (.ref 130), some (.int x1), none, none, none], [.int t0, .ref 130], s_hg g) v h' := by
  unfold fM_go_130_179 at hB
  refine s_Fin.sg 10 (y := (197, [some (.ref 130), some (.int x1), none, none, none], [], s_hg (s_si (s_si (s_si g 130 7 t0) 130 9 x1) 130 5 ((g.1 130 5) + (1 : Int32))))) rfl ?_
  have hB := Option.some.inj hB
  subst hB
  obtain ⟨rfl, rfl⟩ := hr
  exact s_Fin.rt rfl rfl
noncomputable def fM_go_130_174 (x1 : Int32) (g : s_G) : Option (s_G) :=
  fM_go_130_179 x1 (4 : Int32) g
theorem fM_go_130_174_s {x1 : Int32} {g : s_G} {z : s_G} (hB : fM_go_130_174 x1 g = some z) {v : Option Value} {h' : s_H} (hr : (fun (z : s_G) (v : Option Value) (h' : s_H) => v = none ∧ h' = s_hg z) z v h') : s_Fin 1 s_m166 (174, [some (.ref 130), some (.int x1), none, none, none], [.ref 130], s_hg g) v h' := by
  unfold fM_go_130_174 at hB
  refine s_Fin.sg 2 (y := (179, [some (.ref 130), some (.int x1), none, none, none], [.int (4 : Int32), .ref 130], s_hg g)) rfl ?_
  exact s_Fin.more (L := [some (.ref 130), some (.int x1), none, none, none]) ⟨Or.inr rfl, Or.inr rfl, Or.inl rfl, Or.inl rfl, Or.inl rfl, trivial⟩ (fM_go_130_179_s hB hr)
noncomputable def fM_go_130_374 (x2 : Int32) (t0 : Int32) (t1 : Int32) (g : s_G) : Option (s_G) :=
  if t0 < t1 then (some (s_si g 130 7 (1 : Int32)))
  else if x2 = 0 then (some (s_si g 130 7 (3 : Int32)))
  else some (s_si g 130 7 (2 : Int32))
theorem fM_go_130_374_s {x2 : Int32} {t0 : Int32} {t1 : Int32} {g : s_G} {z : s_G} (hB : fM_go_130_374 x2 t0 t1 g = some z) {v : Option Value} {h' : s_H} (hr : (fun (z : s_G) (v : Option Value) (h' : s_H) => v = none ∧ h' = s_hg z) z v h') : s_Fin 1 s_m166 (374, [none, none, some (.int x2), none, none], [.int t0, .int t1, .ref 130], s_hg g) v h' := by
  unfold fM_go_130_374 at hB
  by_cases hc : t0 < t1
  · rw [if_pos hc] at hB
    refine s_Fin.bf (c := t1 ≤ t0) (tg := 381) (p2 := 374) (L1 := [none, none, some (.int x2), none, none]) (st1 := [.ref 130]) (Int32.not_le.mpr hc) rfl ?_
    refine s_Fin.sg 3 (y := (393, [none, none, some (.int x2), none, none], [], s_hg (s_si g 130 7 (1 : Int32)))) rfl ?_
    have hB := Option.some.inj hB
    subst hB
    obtain ⟨rfl, rfl⟩ := hr
    exact s_Fin.rt rfl rfl
  · rw [if_neg hc] at hB
    refine s_Fin.bt (c := t1 ≤ t0) (tg := 381) (p2 := 374) (L1 := [none, none, some (.int x2), none, none]) (st1 := [.ref 130]) (Int32.not_lt.mp hc) rfl ?_
    refine s_Fin.sg 1 (y := (382, [none, none, some (.int x2), none, none], [.int x2, .ref 130], s_hg g)) rfl ?_
    by_cases hc : x2 = 0
    · rw [if_pos hc] at hB
      refine s_Fin.bt (c := x2 = 0) (tg := 389) (p2 := 382) (L1 := [none, none, some (.int x2), none, none]) (st1 := [.ref 130]) hc rfl ?_
      refine s_Fin.sg 2 (y := (393, [none, none, some (.int x2), none, none], [], s_hg (s_si g 130 7 (3 : Int32)))) rfl ?_
      have hB := Option.some.inj hB
      subst hB
      obtain ⟨rfl, rfl⟩ := hr
      exact s_Fin.rt rfl rfl
    · rw [if_neg hc] at hB
      refine s_Fin.bf (c := x2 = 0) (tg := 389) (p2 := 382) (L1 := [none, none, some (.int x2), none, none]) (st1 := [.ref 130]) hc rfl ?_
      refine s_Fin.sg 3 (y := (393, [none, none, some (.int x2), none, none], [], s_hg (s_si g 130 7 (2 : Int32)))) rfl ?_
      have hB := Option.some.inj hB
      subst hB
      obtain ⟨rfl, rfl⟩ := hr
      exact s_Fin.rt rfl rfl
noncomputable def fM_go_130_307 (x2 : Int32) (x3 : Int32) (x4 : Int32) (g : s_G) : Option ((Int32 × s_G) ⊕ (s_G)) :=
  if ((g.1 130 5) - (g.1 130 6)) < (3 : Int32) then (some (.inl (x3, (s_si (s_si g 130 8 ((((10 : Int32) * (g.1 130 8)) + x4) - (48 : Int32))) 130 5 ((g.1 130 5) + (1 : Int32))))))
  else some (.inl (x3, (s_si g 130 5 ((g.1 130 5) + (1 : Int32)))))
theorem fM_go_130_307_s {x2 : Int32} {x3 : Int32} {x4 : Int32} {g : s_G} {z : (Int32 × s_G) ⊕ (s_G)} (hB : fM_go_130_307 x2 x3 x4 g = some z) {v : Option Value} {h' : s_H} (hr : (s_sm (fun (x : Int32 × s_G) (v : Option Value) (h' : s_H) => s_Fin 1 s_m166 (215, [some (.ref 130), none, some (.int x2), some (.int x.1), none], [], s_hg x.2) v h') (fun (z : s_G) (v : Option Value) (h' : s_H) => v = none ∧ h' = s_hg z)) z v h') : s_Fin 1 s_m166 (307, [some (.ref 130), none, some (.int x2), some (.int x3), some (.int x4)], [], s_hg g) v h' := by
  unfold fM_go_130_307 at hB
  refine s_Fin.sg 6 (y := (317, [some (.ref 130), none, some (.int x2), some (.int x3), some (.int x4)], [.int (3 : Int32), .int ((g.1 130 5) - (g.1 130 6))], s_hg g)) rfl ?_
  by_cases hc : ((g.1 130 5) - (g.1 130 6)) < (3 : Int32)
  · rw [if_pos hc] at hB
    refine s_Fin.bf (c := (3 : Int32) ≤ ((g.1 130 5) - (g.1 130 6))) (tg := 337) (p2 := 317) (L1 := [some (.ref 130), none, some (.int x2), some (.int x3), some (.int x4)]) (st1 := []) (Int32.not_le.mpr hc) rfl ?_
    refine s_Fin.sg 17 (y := (215, [some (.ref 130), none, some (.int x2), some (.int x3), some (.int x4)], [], s_hg (s_si (s_si g 130 8 ((((10 : Int32) * (g.1 130 8)) + x4) - (48 : Int32))) 130 5 ((g.1 130 5) + (1 : Int32))))) rfl ?_
    have hB := Option.some.inj hB
    subst hB
    exact s_Fin.more (L := [some (.ref 130), none, some (.int x2), some (.int x3), none]) ⟨Or.inr rfl, Or.inl rfl, Or.inr rfl, Or.inr rfl, Or.inl rfl, trivial⟩ hr
  · rw [if_neg hc] at hB
    refine s_Fin.bt (c := (3 : Int32) ≤ ((g.1 130 5) - (g.1 130 6))) (tg := 337) (p2 := 317) (L1 := [some (.ref 130), none, some (.int x2), some (.int x3), some (.int x4)]) (st1 := []) (Int32.not_lt.mp hc) rfl ?_
    refine s_Fin.sg 7 (y := (215, [some (.ref 130), none, some (.int x2), some (.int x3), some (.int x4)], [], s_hg (s_si g 130 5 ((g.1 130 5) + (1 : Int32))))) rfl ?_
    have hB := Option.some.inj hB
    subst hB
    exact s_Fin.more (L := [some (.ref 130), none, some (.int x2), some (.int x3), none]) ⟨Or.inr rfl, Or.inl rfl, Or.inr rfl, Or.inr rfl, Or.inl rfl, trivial⟩ hr
noncomputable def fM_go_130_272 (x2 : Int32) (x4 : Int32) (t0 : Int32) (g : s_G) : Option ((Int32 × s_G) ⊕ (s_G)) :=
  if ((g.1 130 5) - (g.1 130 6)) < (7 : Int32) then (fM_go_130_307 x2 t0 x4 (s_sl g 130 12 ((((27 : Int64) * (g.2.1 130 12)) + x4.toInt64) - (96 : Int64))))
  else fM_go_130_307 x2 t0 x4 g
theorem fM_go_130_272_s {x2 : Int32} {x4 : Int32} {t0 : Int32} {g : s_G} {z : (Int32 × s_G) ⊕ (s_G)} (hB : fM_go_130_272 x2 x4 t0 g = some z) {v : Option Value} {h' : s_H} (hr : (s_sm (fun (x : Int32 × s_G) (v : Option Value) (h' : s_H) => s_Fin 1 s_m166 (215, [some (.ref 130), none, some (.int x2), some (.int x.1), none], [], s_hg x.2) v h') (fun (z : s_G) (v : Option Value) (h' : s_H) => v = none ∧ h' = s_hg z)) z v h') : s_Fin 1 s_m166 (272, [some (.ref 130), none, some (.int x2), none, some (.int x4)], [.int t0], s_hg g) v h' := by
  unfold fM_go_130_272 at hB
  refine s_Fin.sg 7 (y := (284, [some (.ref 130), none, some (.int x2), some (.int t0), some (.int x4)], [.int (7 : Int32), .int ((g.1 130 5) - (g.1 130 6))], s_hg g)) rfl ?_
  by_cases hc : ((g.1 130 5) - (g.1 130 6)) < (7 : Int32)
  · rw [if_pos hc] at hB
    refine s_Fin.bf (c := (7 : Int32) ≤ ((g.1 130 5) - (g.1 130 6))) (tg := 307) (p2 := 284) (L1 := [some (.ref 130), none, some (.int x2), some (.int t0), some (.int x4)]) (st1 := []) (Int32.not_le.mpr hc) rfl ?_
    refine s_Fin.sg 11 (y := (307, [some (.ref 130), none, some (.int x2), some (.int t0), some (.int x4)], [], s_hg (s_sl g 130 12 ((((27 : Int64) * (g.2.1 130 12)) + x4.toInt64) - (96 : Int64))))) rfl ?_
    exact s_Fin.more (L := [some (.ref 130), none, some (.int x2), some (.int t0), some (.int x4)]) ⟨Or.inr rfl, Or.inl rfl, Or.inr rfl, Or.inr rfl, Or.inr rfl, trivial⟩ (fM_go_130_307_s hB hr)
  · rw [if_neg hc] at hB
    refine s_Fin.bt (c := (7 : Int32) ≤ ((g.1 130 5) - (g.1 130 6))) (tg := 307) (p2 := 284) (L1 := [some (.ref 130), none, some (.int x2), some (.int t0), some (.int x4)]) (st1 := []) (Int32.not_lt.mp hc) rfl ?_
    exact s_Fin.more (L := [some (.ref 130), none, some (.int x2), some (.int t0), some (.int x4)]) ⟨Or.inr rfl, Or.inl rfl, Or.inr rfl, Or.inr rfl, Or.inr rfl, trivial⟩ (fM_go_130_307_s hB hr)
noncomputable def fM_go_130_271 (x2 : Int32) (x4 : Int32) (g : s_G) : Option ((Int32 × s_G) ⊕ (s_G)) :=
  fM_go_130_272 x2 x4 (0 : Int32) g
theorem fM_go_130_271_s {x2 : Int32} {x4 : Int32} {g : s_G} {z : (Int32 × s_G) ⊕ (s_G)} (hB : fM_go_130_271 x2 x4 g = some z) {v : Option Value} {h' : s_H} (hr : (s_sm (fun (x : Int32 × s_G) (v : Option Value) (h' : s_H) => s_Fin 1 s_m166 (215, [some (.ref 130), none, some (.int x2), some (.int x.1), none], [], s_hg x.2) v h') (fun (z : s_G) (v : Option Value) (h' : s_H) => v = none ∧ h' = s_hg z)) z v h') : s_Fin 1 s_m166 (271, [some (.ref 130), none, some (.int x2), none, some (.int x4)], [], s_hg g) v h' := by
  unfold fM_go_130_271 at hB
  refine s_Fin.sg 1 (y := (272, [some (.ref 130), none, some (.int x2), none, some (.int x4)], [.int (0 : Int32)], s_hg g)) rfl ?_
  exact s_Fin.more (L := [some (.ref 130), none, some (.int x2), none, some (.int x4)]) ⟨Or.inr rfl, Or.inl rfl, Or.inr rfl, Or.inl rfl, Or.inr rfl, trivial⟩ (fM_go_130_272_s hB hr)
noncomputable def fM_go_130_243 (x2 : Int32) (x3 : Int32) (g : s_G) : Option ((Int32 × s_G) ⊕ (s_G)) :=
  s_b1 (s_ix 940 (g.1 130 5)) fun k14 => if x3 = 0 then (fM_go_130_271 x2 (g.1 131 k14) g)
  else s_b1 (fM_isLetter_s (g.1 131 k14) g) fun v15 => if v15 = x2 then (fM_go_130_272 x2 (g.1 131 k14) (1 : Int32) g)
  else fM_go_130_271 x2 (g.1 131 k14) g
theorem fM_go_130_243_s {x2 : Int32} {x3 : Int32} {g : s_G} {z : (Int32 × s_G) ⊕ (s_G)} (hB : fM_go_130_243 x2 x3 g = some z) {v : Option Value} {h' : s_H} (hr : (s_sm (fun (x : Int32 × s_G) (v : Option Value) (h' : s_H) => s_Fin 1 s_m166 (215, [some (.ref 130), none, some (.int x2), some (.int x.1), none], [], s_hg x.2) v h') (fun (z : s_G) (v : Option Value) (h' : s_H) => v = none ∧ h' = s_hg z)) z v h') : s_Fin 1 s_m166 (243, [some (.ref 130), none, some (.int x2), some (.int x3), none], [], s_hg g) v h' := by
  unfold fM_go_130_243 at hB
  refine s_Fin.sg 4 (y := (251, [some (.ref 130), none, some (.int x2), some (.int x3), none], [.int (g.1 130 5), .ref 131], s_hg g)) rfl ?_
  obtain ⟨k14, hk14, hB⟩ := s_bd hB
  refine s_Fin.ix (n := 940) (i := g.1 130 5) (pc1 := 252) (L1 := [some (.ref 130), none, some (.int x2), some (.int x3), none]) (fun j13 => [.int (g.1 131 j13)]) (fun j13 => s_hg g) hk14 rfl rfl ?_
  refine s_Fin.sg 2 (y := (255, [some (.ref 130), none, some (.int x2), some (.int x3), some (.int (g.1 131 k14))], [.int x3], s_hg g)) rfl ?_
  by_cases hc : x3 = 0
  · rw [if_pos hc] at hB
    refine s_Fin.bt (c := x3 = 0) (tg := 271) (p2 := 255) (L1 := [some (.ref 130), none, some (.int x2), some (.int x3), some (.int (g.1 131 k14))]) (st1 := []) hc rfl ?_
    exact s_Fin.more (L := [some (.ref 130), none, some (.int x2), none, some (.int (g.1 131 k14))]) ⟨Or.inr rfl, Or.inl rfl, Or.inr rfl, Or.inl rfl, Or.inr rfl, trivial⟩ (fM_go_130_271_s hB hr)
  · rw [if_neg hc] at hB
    refine s_Fin.bf (c := x3 = 0) (tg := 271) (p2 := 255) (L1 := [some (.ref 130), none, some (.int x2), some (.int x3), some (.int (g.1 131 k14))]) (st1 := []) hc rfl ?_
    refine s_Fin.sg 1 (y := (260, [some (.ref 130), none, some (.int x2), some (.int x3), some (.int (g.1 131 k14))], [.int (g.1 131 k14)], s_hg g)) rfl ?_
    obtain ⟨v15, hp, hB⟩ := s_bd hB
    refine s_Fin.cl (d := 0) (q1 := s_m167) (md := 167) (vs := [.int (g.1 131 k14)]) (rest := []) (h1 := s_hg g) (u := some (.int v15)) (s_Ev.up (by omega) (fM_isLetter_s_s hp)) rfl rfl rfl rfl ?_
    refine s_Fin.sg 1 (y := (264, [some (.ref 130), none, some (.int x2), some (.int x3), some (.int (g.1 131 k14))], [.int x2, .int v15], s_hg g)) rfl ?_
    by_cases hc : v15 = x2
    · rw [if_pos hc] at hB
      refine s_Fin.bf (c := ¬ v15 = x2) (tg := 271) (p2 := 264) (L1 := [some (.ref 130), none, some (.int x2), some (.int x3), some (.int (g.1 131 k14))]) (st1 := []) (fun h => h hc) rfl ?_
      refine s_Fin.sg 2 (y := (272, [some (.ref 130), none, some (.int x2), some (.int x3), some (.int (g.1 131 k14))], [.int (1 : Int32)], s_hg g)) rfl ?_
      exact s_Fin.more (L := [some (.ref 130), none, some (.int x2), none, some (.int (g.1 131 k14))]) ⟨Or.inr rfl, Or.inl rfl, Or.inr rfl, Or.inl rfl, Or.inr rfl, trivial⟩ (fM_go_130_272_s hB hr)
    · rw [if_neg hc] at hB
      refine s_Fin.bt (c := ¬ v15 = x2) (tg := 271) (p2 := 264) (L1 := [some (.ref 130), none, some (.int x2), some (.int x3), some (.int (g.1 131 k14))]) (st1 := []) hc rfl ?_
      exact s_Fin.more (L := [some (.ref 130), none, some (.int x2), none, some (.int (g.1 131 k14))]) ⟨Or.inr rfl, Or.inl rfl, Or.inr rfl, Or.inl rfl, Or.inr rfl, trivial⟩ (fM_go_130_271_s hB hr)
noncomputable def fM_go_130_215 (x2 : Int32) (x3 : Int32) (g : s_G) : Option ((Int32 × s_G) ⊕ (s_G)) :=
  s_b1 (fM_tapeAt_130 (g.1 130 5) g) fun v9 => s_b1 (fM_isLetter_s v9 g) fun v10 => if v10 = 0 then (s_b1 (fM_tapeAt_130 (g.1 130 5) g) fun v11 => s_b1 (fM_isDigit_s v11 g) fun v12 => if v12 = 0 then (s_in (if x3 = 0 then (some (s_si g 130 7 (1 : Int32)))
  else if x2 = 0 then (fM_go_130_374 x2 (3 : Int32) ((g.1 130 5) - (g.1 130 6)) g)
  else fM_go_130_374 x2 (7 : Int32) ((g.1 130 5) - (g.1 130 6)) g))
  else fM_go_130_243 x2 x3 g)
  else fM_go_130_243 x2 x3 g
theorem fM_go_130_215_s {x2 : Int32} {x3 : Int32} {g : s_G} {z : (Int32 × s_G) ⊕ (s_G)} (hB : fM_go_130_215 x2 x3 g = some z) {v : Option Value} {h' : s_H} (hr : (s_sm (fun (x : Int32 × s_G) (v : Option Value) (h' : s_H) => s_Fin 1 s_m166 (215, [some (.ref 130), none, some (.int x2), some (.int x.1), none], [], s_hg x.2) v h') (fun (z : s_G) (v : Option Value) (h' : s_H) => v = none ∧ h' = s_hg z)) z v h') : s_Fin 1 s_m166 (215, [some (.ref 130), none, some (.int x2), some (.int x3), none], [], s_hg g) v h' := by
  unfold fM_go_130_215 at hB
  refine s_Fin.sg 3 (y := (220, [some (.ref 130), none, some (.int x2), some (.int x3), none], [.int (g.1 130 5), .ref 130], s_hg g)) rfl ?_
  obtain ⟨v9, hp, hB⟩ := s_bd hB
  refine s_Fin.cl (d := 0) (q1 := s_m169) (md := 169) (vs := [.ref 130, .int (g.1 130 5)]) (rest := []) (h1 := s_hg g) (u := some (.int v9)) (s_Ev.up (by omega) (fM_tapeAt_130_s hp)) rfl rfl rfl rfl ?_
  obtain ⟨v10, hp, hB⟩ := s_bd hB
  refine s_Fin.cl (d := 0) (q1 := s_m167) (md := 167) (vs := [.int v9]) (rest := []) (h1 := s_hg g) (u := some (.int v10)) (s_Ev.up (by omega) (fM_isLetter_s_s hp)) rfl rfl rfl rfl ?_
  by_cases hc : v10 = 0
  · rw [if_pos hc] at hB
    refine s_Fin.bf (c := ¬ v10 = 0) (tg := 243) (p2 := 226) (L1 := [some (.ref 130), none, some (.int x2), some (.int x3), none]) (st1 := []) (fun h => h hc) rfl ?_
    refine s_Fin.sg 3 (y := (234, [some (.ref 130), none, some (.int x2), some (.int x3), none], [.int (g.1 130 5), .ref 130], s_hg g)) rfl ?_
    obtain ⟨v11, hp, hB⟩ := s_bd hB
    refine s_Fin.cl (d := 0) (q1 := s_m169) (md := 169) (vs := [.ref 130, .int (g.1 130 5)]) (rest := []) (h1 := s_hg g) (u := some (.int v11)) (s_Ev.up (by omega) (fM_tapeAt_130_s hp)) rfl rfl rfl rfl ?_
    obtain ⟨v12, hp, hB⟩ := s_bd hB
    refine s_Fin.cl (d := 0) (q1 := s_m168) (md := 168) (vs := [.int v11]) (rest := []) (h1 := s_hg g) (u := some (.int v12)) (s_Ev.up (by omega) (fM_isDigit_s_s hp)) rfl rfl rfl rfl ?_
    by_cases hc : v12 = 0
    · rw [if_pos hc] at hB
      refine s_Fin.bt (c := v12 = 0) (tg := 350) (p2 := 240) (L1 := [some (.ref 130), none, some (.int x2), some (.int x3), none]) (st1 := []) hc rfl ?_
      obtain ⟨_, hN, hz⟩ := s_in_of hB
      subst hz
      have hB := hN
      refine s_Fin.sg 2 (y := (352, [some (.ref 130), none, some (.int x2), some (.int x3), none], [.int x3, .ref 130], s_hg g)) rfl ?_
      by_cases hc : x3 = 0
      · rw [if_pos hc] at hB
        refine s_Fin.bt (c := x3 = 0) (tg := 377) (p2 := 352) (L1 := [some (.ref 130), none, some (.int x2), some (.int x3), none]) (st1 := [.ref 130]) hc rfl ?_
        refine s_Fin.sg 3 (y := (393, [some (.ref 130), none, some (.int x2), some (.int x3), none], [], s_hg (s_si g 130 7 (1 : Int32)))) rfl ?_
        have hB := Option.some.inj hB
        subst hB
        obtain ⟨rfl, rfl⟩ := hr
        exact s_Fin.rt rfl rfl
      · rw [if_neg hc] at hB
        refine s_Fin.bf (c := x3 = 0) (tg := 377) (p2 := 352) (L1 := [some (.ref 130), none, some (.int x2), some (.int x3), none]) (st1 := [.ref 130]) hc rfl ?_
        refine s_Fin.sg 6 (y := (365, [some (.ref 130), none, some (.int x2), some (.int x3), none], [.int x2, .int ((g.1 130 5) - (g.1 130 6)), .ref 130], s_hg g)) rfl ?_
        by_cases hc : x2 = 0
        · rw [if_pos hc] at hB
          refine s_Fin.bt (c := x2 = 0) (tg := 373) (p2 := 365) (L1 := [some (.ref 130), none, some (.int x2), some (.int x3), none]) (st1 := [.int ((g.1 130 5) - (g.1 130 6)), .ref 130]) hc rfl ?_
          refine s_Fin.sg 1 (y := (374, [some (.ref 130), none, some (.int x2), some (.int x3), none], [.int (3 : Int32), .int ((g.1 130 5) - (g.1 130 6)), .ref 130], s_hg g)) rfl ?_
          exact s_Fin.more (L := [none, none, some (.int x2), none, none]) ⟨Or.inl rfl, Or.inl rfl, Or.inr rfl, Or.inl rfl, Or.inl rfl, trivial⟩ (fM_go_130_374_s hB hr)
        · rw [if_neg hc] at hB
          refine s_Fin.bf (c := x2 = 0) (tg := 373) (p2 := 365) (L1 := [some (.ref 130), none, some (.int x2), some (.int x3), none]) (st1 := [.int ((g.1 130 5) - (g.1 130 6)), .ref 130]) hc rfl ?_
          refine s_Fin.sg 2 (y := (374, [some (.ref 130), none, some (.int x2), some (.int x3), none], [.int (7 : Int32), .int ((g.1 130 5) - (g.1 130 6)), .ref 130], s_hg g)) rfl ?_
          exact s_Fin.more (L := [none, none, some (.int x2), none, none]) ⟨Or.inl rfl, Or.inl rfl, Or.inr rfl, Or.inl rfl, Or.inl rfl, trivial⟩ (fM_go_130_374_s hB hr)
    · rw [if_neg hc] at hB
      refine s_Fin.bf (c := v12 = 0) (tg := 350) (p2 := 240) (L1 := [some (.ref 130), none, some (.int x2), some (.int x3), none]) (st1 := []) hc rfl ?_
      exact s_Fin.more (L := [some (.ref 130), none, some (.int x2), some (.int x3), none]) ⟨Or.inr rfl, Or.inl rfl, Or.inr rfl, Or.inr rfl, Or.inl rfl, trivial⟩ (fM_go_130_243_s hB hr)
  · rw [if_neg hc] at hB
    refine s_Fin.bt (c := ¬ v10 = 0) (tg := 243) (p2 := 226) (L1 := [some (.ref 130), none, some (.int x2), some (.int x3), none]) (st1 := []) hc rfl ?_
    exact s_Fin.more (L := [some (.ref 130), none, some (.int x2), some (.int x3), none]) ⟨Or.inr rfl, Or.inl rfl, Or.inr rfl, Or.inr rfl, Or.inl rfl, trivial⟩ (fM_go_130_243_s hB hr)
noncomputable def fM_go_130_198 (x1 : Int32) (g : s_G) : Option (s_G) :=
  s_b1 (fM_isLetter_s x1 g) fun v8 => s_lp (fun x => fM_go_130_215 v8 x.1 x.2) ((1 : Int32), (s_si (s_sl g 130 12 (0 : Int64)) 130 8 (0 : Int32)))
theorem fM_go_130_198_s {x1 : Int32} {g : s_G} {z : s_G} (hB : fM_go_130_198 x1 g = some z) {v : Option Value} {h' : s_H} (hr : (fun (z : s_G) (v : Option Value) (h' : s_H) => v = none ∧ h' = s_hg z) z v h') : s_Fin 1 s_m166 (198, [some (.ref 130), some (.int x1), none, none, none], [], s_hg g) v h' := by
  unfold fM_go_130_198 at hB
  refine s_Fin.sg 1 (y := (199, [some (.ref 130), some (.int x1), none, none, none], [.int x1], s_hg g)) rfl ?_
  obtain ⟨v8, hp, hB⟩ := s_bd hB
  refine s_Fin.cl (d := 0) (q1 := s_m167) (md := 167) (vs := [.int x1]) (rest := []) (h1 := s_hg g) (u := some (.int v8)) (s_Ev.up (by omega) (fM_isLetter_s_s hp)) rfl rfl rfl rfl ?_
  refine s_Fin.sg 9 (y := (215, [some (.ref 130), some (.int x1), some (.int v8), some (.int (1 : Int32)), none], [], s_hg (s_si (s_sl g 130 12 (0 : Int64)) 130 8 (0 : Int32)))) rfl ?_
  exact s_Fin.more (L := [some (.ref 130), none, some (.int v8), some (.int (1 : Int32)), none]) ⟨Or.inr rfl, Or.inl rfl, Or.inr rfl, Or.inr rfl, Or.inl rfl, trivial⟩ (s_lp_s (P := (fun (x : Int32 × s_G) (v : Option Value) (h' : s_H) => s_Fin 1 s_m166 (215, [some (.ref 130), none, some (.int v8), some (.int x.1), none], [], s_hg x.2) v h')) (Q := (fun (z : s_G) (v : Option Value) (h' : s_H) => v = none ∧ h' = s_hg z)) (fun x z hB v h' hr => fM_go_130_215_s hB hr) hB _ _ hr)
noncomputable def fM_go_130_96 (g : s_G) : Option (s_G) :=
  if (g.1 130 5) < (g.1 130 3) then (s_b1 (s_ix 940 (g.1 130 5)) fun k5 => s_b1 (fM_isLetter_s (g.1 131 k5) g) fun v6 => if v6 = 0 then (s_b1 (fM_isDigit_s (g.1 131 k5) g) fun v7 => if v7 = 0 then (if (g.1 131 k5) = (59 : Int32) then (fM_go_130_174 (g.1 131 k5) g)
  else if (g.1 131 k5) = (60 : Int32) then (fM_go_130_174 (g.1 131 k5) g)
  else if (g.1 131 k5) = (61 : Int32) then (fM_go_130_174 (g.1 131 k5) g)
  else if (g.1 131 k5) = (62 : Int32) then (fM_go_130_174 (g.1 131 k5) g)
  else if (g.1 131 k5) = (40 : Int32) then (fM_go_130_174 (g.1 131 k5) g)
  else if (g.1 131 k5) = (41 : Int32) then (fM_go_130_174 (g.1 131 k5) g)
  else fM_go_130_179 (g.1 131 k5) (1 : Int32) g)
  else fM_go_130_198 (g.1 131 k5) g)
  else fM_go_130_198 (g.1 131 k5) g)
  else some (s_si g 130 7 (0 : Int32))
theorem fM_go_130_96_s {g : s_G} {z : s_G} (hB : fM_go_130_96 g = some z) {v : Option Value} {h' : s_H} (hr : (fun (z : s_G) (v : Option Value) (h' : s_H) => v = none ∧ h' = s_hg z) z v h') : s_Fin 1 s_m166 (96, [some (.ref 130), none, none, none, none], [], s_hg g) v h' := by
  unfold fM_go_130_96 at hB
  refine s_Fin.sg 4 (y := (104, [some (.ref 130), none, none, none, none], [.int (g.1 130 3), .int (g.1 130 5)], s_hg g)) rfl ?_
  by_cases hc : (g.1 130 5) < (g.1 130 3)
  · rw [if_pos hc] at hB
    refine s_Fin.bt (c := (g.1 130 5) < (g.1 130 3)) (tg := 113) (p2 := 104) (L1 := [some (.ref 130), none, none, none, none]) (st1 := []) hc rfl ?_
    refine s_Fin.sg 4 (y := (121, [some (.ref 130), none, none, none, none], [.int (g.1 130 5), .ref 131], s_hg g)) rfl ?_
    obtain ⟨k5, hk5, hB⟩ := s_bd hB
    refine s_Fin.ix (n := 940) (i := g.1 130 5) (pc1 := 122) (L1 := [some (.ref 130), none, none, none, none]) (fun j4 => [.int (g.1 131 j4)]) (fun j4 => s_hg g) hk5 rfl rfl ?_
    refine s_Fin.sg 2 (y := (124, [some (.ref 130), some (.int (g.1 131 k5)), none, none, none], [.int (g.1 131 k5)], s_hg g)) rfl ?_
    obtain ⟨v6, hp, hB⟩ := s_bd hB
    refine s_Fin.cl (d := 0) (q1 := s_m167) (md := 167) (vs := [.int (g.1 131 k5)]) (rest := []) (h1 := s_hg g) (u := some (.int v6)) (s_Ev.up (by omega) (fM_isLetter_s_s hp)) rfl rfl rfl rfl ?_
    by_cases hc : v6 = 0
    · rw [if_pos hc] at hB
      refine s_Fin.bf (c := ¬ v6 = 0) (tg := 198) (p2 := 127) (L1 := [some (.ref 130), some (.int (g.1 131 k5)), none, none, none]) (st1 := []) (fun h => h hc) rfl ?_
      refine s_Fin.sg 1 (y := (131, [some (.ref 130), some (.int (g.1 131 k5)), none, none, none], [.int (g.1 131 k5)], s_hg g)) rfl ?_
      obtain ⟨v7, hp, hB⟩ := s_bd hB
      refine s_Fin.cl (d := 0) (q1 := s_m168) (md := 168) (vs := [.int (g.1 131 k5)]) (rest := []) (h1 := s_hg g) (u := some (.int v7)) (s_Ev.up (by omega) (fM_isDigit_s_s hp)) rfl rfl rfl rfl ?_
      by_cases hc : v7 = 0
      · rw [if_pos hc] at hB
        refine s_Fin.bf (c := ¬ v7 = 0) (tg := 198) (p2 := 134) (L1 := [some (.ref 130), some (.int (g.1 131 k5)), none, none, none]) (st1 := []) (fun h => h hc) rfl ?_
        refine s_Fin.sg 3 (y := (141, [some (.ref 130), some (.int (g.1 131 k5)), none, none, none], [.int (59 : Int32), .int (g.1 131 k5), .ref 130], s_hg g)) rfl ?_
        by_cases hc : (g.1 131 k5) = (59 : Int32)
        · rw [if_pos hc] at hB
          refine s_Fin.bt (c := (g.1 131 k5) = (59 : Int32)) (tg := 174) (p2 := 141) (L1 := [some (.ref 130), some (.int (g.1 131 k5)), none, none, none]) (st1 := [.ref 130]) hc rfl ?_
          exact s_Fin.more (L := [some (.ref 130), some (.int (g.1 131 k5)), none, none, none]) ⟨Or.inr rfl, Or.inr rfl, Or.inl rfl, Or.inl rfl, Or.inl rfl, trivial⟩ (fM_go_130_174_s hB hr)
        · rw [if_neg hc] at hB
          refine s_Fin.bf (c := (g.1 131 k5) = (59 : Int32)) (tg := 174) (p2 := 141) (L1 := [some (.ref 130), some (.int (g.1 131 k5)), none, none, none]) (st1 := [.ref 130]) hc rfl ?_
          refine s_Fin.sg 2 (y := (147, [some (.ref 130), some (.int (g.1 131 k5)), none, none, none], [.int (60 : Int32), .int (g.1 131 k5), .ref 130], s_hg g)) rfl ?_
          by_cases hc : (g.1 131 k5) = (60 : Int32)
          · rw [if_pos hc] at hB
            refine s_Fin.bt (c := (g.1 131 k5) = (60 : Int32)) (tg := 174) (p2 := 147) (L1 := [some (.ref 130), some (.int (g.1 131 k5)), none, none, none]) (st1 := [.ref 130]) hc rfl ?_
            exact s_Fin.more (L := [some (.ref 130), some (.int (g.1 131 k5)), none, none, none]) ⟨Or.inr rfl, Or.inr rfl, Or.inl rfl, Or.inl rfl, Or.inl rfl, trivial⟩ (fM_go_130_174_s hB hr)
          · rw [if_neg hc] at hB
            refine s_Fin.bf (c := (g.1 131 k5) = (60 : Int32)) (tg := 174) (p2 := 147) (L1 := [some (.ref 130), some (.int (g.1 131 k5)), none, none, none]) (st1 := [.ref 130]) hc rfl ?_
            refine s_Fin.sg 2 (y := (153, [some (.ref 130), some (.int (g.1 131 k5)), none, none, none], [.int (61 : Int32), .int (g.1 131 k5), .ref 130], s_hg g)) rfl ?_
            by_cases hc : (g.1 131 k5) = (61 : Int32)
            · rw [if_pos hc] at hB
              refine s_Fin.bt (c := (g.1 131 k5) = (61 : Int32)) (tg := 174) (p2 := 153) (L1 := [some (.ref 130), some (.int (g.1 131 k5)), none, none, none]) (st1 := [.ref 130]) hc rfl ?_
              exact s_Fin.more (L := [some (.ref 130), some (.int (g.1 131 k5)), none, none, none]) ⟨Or.inr rfl, Or.inr rfl, Or.inl rfl, Or.inl rfl, Or.inl rfl, trivial⟩ (fM_go_130_174_s hB hr)
            · rw [if_neg hc] at hB
              refine s_Fin.bf (c := (g.1 131 k5) = (61 : Int32)) (tg := 174) (p2 := 153) (L1 := [some (.ref 130), some (.int (g.1 131 k5)), none, none, none]) (st1 := [.ref 130]) hc rfl ?_
              refine s_Fin.sg 2 (y := (159, [some (.ref 130), some (.int (g.1 131 k5)), none, none, none], [.int (62 : Int32), .int (g.1 131 k5), .ref 130], s_hg g)) rfl ?_
              by_cases hc : (g.1 131 k5) = (62 : Int32)
              · rw [if_pos hc] at hB
                refine s_Fin.bt (c := (g.1 131 k5) = (62 : Int32)) (tg := 174) (p2 := 159) (L1 := [some (.ref 130), some (.int (g.1 131 k5)), none, none, none]) (st1 := [.ref 130]) hc rfl ?_
                exact s_Fin.more (L := [some (.ref 130), some (.int (g.1 131 k5)), none, none, none]) ⟨Or.inr rfl, Or.inr rfl, Or.inl rfl, Or.inl rfl, Or.inl rfl, trivial⟩ (fM_go_130_174_s hB hr)
              · rw [if_neg hc] at hB
                refine s_Fin.bf (c := (g.1 131 k5) = (62 : Int32)) (tg := 174) (p2 := 159) (L1 := [some (.ref 130), some (.int (g.1 131 k5)), none, none, none]) (st1 := [.ref 130]) hc rfl ?_
                refine s_Fin.sg 2 (y := (165, [some (.ref 130), some (.int (g.1 131 k5)), none, none, none], [.int (40 : Int32), .int (g.1 131 k5), .ref 130], s_hg g)) rfl ?_
                by_cases hc : (g.1 131 k5) = (40 : Int32)
                · rw [if_pos hc] at hB
                  refine s_Fin.bt (c := (g.1 131 k5) = (40 : Int32)) (tg := 174) (p2 := 165) (L1 := [some (.ref 130), some (.int (g.1 131 k5)), none, none, none]) (st1 := [.ref 130]) hc rfl ?_
                  exact s_Fin.more (L := [some (.ref 130), some (.int (g.1 131 k5)), none, none, none]) ⟨Or.inr rfl, Or.inr rfl, Or.inl rfl, Or.inl rfl, Or.inl rfl, trivial⟩ (fM_go_130_174_s hB hr)
                · rw [if_neg hc] at hB
                  refine s_Fin.bf (c := (g.1 131 k5) = (40 : Int32)) (tg := 174) (p2 := 165) (L1 := [some (.ref 130), some (.int (g.1 131 k5)), none, none, none]) (st1 := [.ref 130]) hc rfl ?_
                  refine s_Fin.sg 2 (y := (171, [some (.ref 130), some (.int (g.1 131 k5)), none, none, none], [.int (41 : Int32), .int (g.1 131 k5), .ref 130], s_hg g)) rfl ?_
                  by_cases hc : (g.1 131 k5) = (41 : Int32)
                  · rw [if_pos hc] at hB
                    refine s_Fin.bf (c := ¬ (g.1 131 k5) = (41 : Int32)) (tg := 178) (p2 := 171) (L1 := [some (.ref 130), some (.int (g.1 131 k5)), none, none, none]) (st1 := [.ref 130]) (fun h => h hc) rfl ?_
                    exact s_Fin.more (L := [some (.ref 130), some (.int (g.1 131 k5)), none, none, none]) ⟨Or.inr rfl, Or.inr rfl, Or.inl rfl, Or.inl rfl, Or.inl rfl, trivial⟩ (fM_go_130_174_s hB hr)
                  · rw [if_neg hc] at hB
                    refine s_Fin.bt (c := ¬ (g.1 131 k5) = (41 : Int32)) (tg := 178) (p2 := 171) (L1 := [some (.ref 130), some (.int (g.1 131 k5)), none, none, none]) (st1 := [.ref 130]) hc rfl ?_
                    refine s_Fin.sg 1 (y := (179, [some (.ref 130), some (.int (g.1 131 k5)), none, none, none], [.int (1 : Int32), .ref 130], s_hg g)) rfl ?_
                    exact s_Fin.more (L := [some (.ref 130), some (.int (g.1 131 k5)), none, none, none]) ⟨Or.inr rfl, Or.inr rfl, Or.inl rfl, Or.inl rfl, Or.inl rfl, trivial⟩ (fM_go_130_179_s hB hr)
      · rw [if_neg hc] at hB
        refine s_Fin.bt (c := ¬ v7 = 0) (tg := 198) (p2 := 134) (L1 := [some (.ref 130), some (.int (g.1 131 k5)), none, none, none]) (st1 := []) hc rfl ?_
        exact s_Fin.more (L := [some (.ref 130), some (.int (g.1 131 k5)), none, none, none]) ⟨Or.inr rfl, Or.inr rfl, Or.inl rfl, Or.inl rfl, Or.inl rfl, trivial⟩ (fM_go_130_198_s hB hr)
    · rw [if_neg hc] at hB
      refine s_Fin.bt (c := ¬ v6 = 0) (tg := 198) (p2 := 127) (L1 := [some (.ref 130), some (.int (g.1 131 k5)), none, none, none]) (st1 := []) hc rfl ?_
      exact s_Fin.more (L := [some (.ref 130), some (.int (g.1 131 k5)), none, none, none]) ⟨Or.inr rfl, Or.inr rfl, Or.inl rfl, Or.inl rfl, Or.inl rfl, trivial⟩ (fM_go_130_198_s hB hr)
  · rw [if_neg hc] at hB
    refine s_Fin.bf (c := (g.1 130 5) < (g.1 130 3)) (tg := 113) (p2 := 104) (L1 := [some (.ref 130), none, none, none, none]) (st1 := []) hc rfl ?_
    refine s_Fin.sg 3 (y := (112, [some (.ref 130), none, none, none, none], [], s_hg (s_si g 130 7 (0 : Int32)))) rfl ?_
    have hB := Option.some.inj hB
    subst hB
    obtain ⟨rfl, rfl⟩ := hr
    exact s_Fin.rt rfl rfl
noncomputable def fM_go_130_52 (g : s_G) : Option (s_G) :=
  if (g.1 130 4) < (g.1 130 3) then (if (g.1 130 5) < (g.1 130 4) then (fM_go_130_96 (s_si g 130 6 (g.1 130 5)))
  else some (s_si (s_si (s_si g 130 6 (g.1 130 5)) 130 6 (g.1 130 4)) 130 7 (1 : Int32)))
  else fM_go_130_96 (s_si g 130 6 (g.1 130 5))
theorem fM_go_130_52_s {g : s_G} {z : s_G} (hB : fM_go_130_52 g = some z) {v : Option Value} {h' : s_H} (hr : (fun (z : s_G) (v : Option Value) (h' : s_H) => v = none ∧ h' = s_hg z) z v h') : s_Fin 1 s_m166 (52, [some (.ref 130), none, none, none, none], [], s_hg g) v h' := by
  unfold fM_go_130_52 at hB
  refine s_Fin.sg 8 (y := (68, [some (.ref 130), none, none, none, none], [.int (g.1 130 4), .int (g.1 130 3)], s_hg (s_si g 130 6 (g.1 130 5)))) rfl ?_
  by_cases hc : (g.1 130 4) < (g.1 130 3)
  · rw [if_pos hc] at hB
    refine s_Fin.bf (c := (g.1 130 3) ≤ (g.1 130 4)) (tg := 96) (p2 := 68) (L1 := [some (.ref 130), none, none, none, none]) (st1 := []) (Int32.not_le.mpr hc) rfl ?_
    refine s_Fin.sg 4 (y := (79, [some (.ref 130), none, none, none, none], [.int (g.1 130 4), .int (g.1 130 5)], s_hg (s_si g 130 6 (g.1 130 5)))) rfl ?_
    by_cases hc : (g.1 130 5) < (g.1 130 4)
    · rw [if_pos hc] at hB
      refine s_Fin.bt (c := (g.1 130 5) < (g.1 130 4)) (tg := 96) (p2 := 79) (L1 := [some (.ref 130), none, none, none, none]) (st1 := []) hc rfl ?_
      exact s_Fin.more (L := [some (.ref 130), none, none, none, none]) ⟨Or.inr rfl, Or.inl rfl, Or.inl rfl, Or.inl rfl, Or.inl rfl, trivial⟩ (fM_go_130_96_s hB hr)
    · rw [if_neg hc] at hB
      refine s_Fin.bf (c := (g.1 130 5) < (g.1 130 4)) (tg := 96) (p2 := 79) (L1 := [some (.ref 130), none, none, none, none]) (st1 := []) hc rfl ?_
      refine s_Fin.sg 7 (y := (95, [some (.ref 130), none, none, none, none], [], s_hg (s_si (s_si (s_si g 130 6 (g.1 130 5)) 130 6 (g.1 130 4)) 130 7 (1 : Int32)))) rfl ?_
      have hB := Option.some.inj hB
      subst hB
      obtain ⟨rfl, rfl⟩ := hr
      exact s_Fin.rt rfl rfl
  · rw [if_neg hc] at hB
    refine s_Fin.bt (c := (g.1 130 3) ≤ (g.1 130 4)) (tg := 96) (p2 := 68) (L1 := [some (.ref 130), none, none, none, none]) (st1 := []) (Int32.not_lt.mp hc) rfl ?_
    exact s_Fin.more (L := [some (.ref 130), none, none, none, none]) ⟨Or.inr rfl, Or.inl rfl, Or.inl rfl, Or.inl rfl, Or.inl rfl, trivial⟩ (fM_go_130_96_s hB hr)
noncomputable def fM_go_130_0 (g : s_G) : Option ((s_G) ⊕ (s_G)) :=
  if (g.1 130 5) < (g.1 130 3) then (s_b1 (s_ix 940 (g.1 130 5)) fun k2 => if (g.1 131 k2) = (32 : Int32) then (some (.inl (s_si g 130 5 ((g.1 130 5) + (1 : Int32)))))
  else if (g.1 131 k2) = (10 : Int32) then (some (.inl (s_si g 130 5 ((g.1 130 5) + (1 : Int32)))))
  else s_in (fM_go_130_52 g))
  else s_in (fM_go_130_52 g)
theorem fM_go_130_0_s {g : s_G} {z : (s_G) ⊕ (s_G)} (hB : fM_go_130_0 g = some z) {v : Option Value} {h' : s_H} (hr : (s_sm (fun (x : s_G) (v : Option Value) (h' : s_H) => s_Fin 1 s_m166 (0, [some (.ref 130), none, none, none, none], [], s_hg x) v h') (fun (z : s_G) (v : Option Value) (h' : s_H) => v = none ∧ h' = s_hg z)) z v h') : s_Fin 1 s_m166 (0, [some (.ref 130), none, none, none, none], [], s_hg g) v h' := by
  unfold fM_go_130_0 at hB
  refine s_Fin.sg 4 (y := (8, [some (.ref 130), none, none, none, none], [.int (g.1 130 3), .int (g.1 130 5)], s_hg g)) rfl ?_
  by_cases hc : (g.1 130 5) < (g.1 130 3)
  · rw [if_pos hc] at hB
    refine s_Fin.bf (c := (g.1 130 3) ≤ (g.1 130 5)) (tg := 52) (p2 := 8) (L1 := [some (.ref 130), none, none, none, none]) (st1 := []) (Int32.not_le.mpr hc) rfl ?_
    refine s_Fin.sg 4 (y := (19, [some (.ref 130), none, none, none, none], [.int (g.1 130 5), .ref 131], s_hg g)) rfl ?_
    obtain ⟨k2, hk2, hB⟩ := s_bd hB
    refine s_Fin.ix (n := 940) (i := g.1 130 5) (pc1 := 20) (L1 := [some (.ref 130), none, none, none, none]) (fun j1 => [.int (g.1 131 j1)]) (fun j1 => s_hg g) hk2 rfl rfl ?_
    refine s_Fin.sg 1 (y := (22, [some (.ref 130), none, none, none, none], [.int (32 : Int32), .int (g.1 131 k2)], s_hg g)) rfl ?_
    by_cases hc : (g.1 131 k2) = (32 : Int32)
    · rw [if_pos hc] at hB
      refine s_Fin.bt (c := (g.1 131 k2) = (32 : Int32)) (tg := 39) (p2 := 22) (L1 := [some (.ref 130), none, none, none, none]) (st1 := []) hc rfl ?_
      refine s_Fin.sg 7 (y := (0, [some (.ref 130), none, none, none, none], [], s_hg (s_si g 130 5 ((g.1 130 5) + (1 : Int32))))) rfl ?_
      have hB := Option.some.inj hB
      subst hB
      exact s_Fin.more (L := [some (.ref 130), none, none, none, none]) ⟨Or.inr rfl, Or.inl rfl, Or.inl rfl, Or.inl rfl, Or.inl rfl, trivial⟩ hr
    · rw [if_neg hc] at hB
      refine s_Fin.bf (c := (g.1 131 k2) = (32 : Int32)) (tg := 39) (p2 := 22) (L1 := [some (.ref 130), none, none, none, none]) (st1 := []) hc rfl ?_
      refine s_Fin.sg 4 (y := (33, [some (.ref 130), none, none, none, none], [.int (g.1 130 5), .ref 131], s_hg g)) rfl ?_
      refine s_Fin.ix (n := 940) (i := g.1 130 5) (pc1 := 34) (L1 := [some (.ref 130), none, none, none, none]) (fun j3 => [.int (g.1 131 j3)]) (fun j3 => s_hg g) hk2 rfl rfl ?_
      refine s_Fin.sg 1 (y := (36, [some (.ref 130), none, none, none, none], [.int (10 : Int32), .int (g.1 131 k2)], s_hg g)) rfl ?_
      by_cases hc : (g.1 131 k2) = (10 : Int32)
      · rw [if_pos hc] at hB
        refine s_Fin.bf (c := ¬ (g.1 131 k2) = (10 : Int32)) (tg := 52) (p2 := 36) (L1 := [some (.ref 130), none, none, none, none]) (st1 := []) (fun h => h hc) rfl ?_
        refine s_Fin.sg 7 (y := (0, [some (.ref 130), none, none, none, none], [], s_hg (s_si g 130 5 ((g.1 130 5) + (1 : Int32))))) rfl ?_
        have hB := Option.some.inj hB
        subst hB
        exact s_Fin.more (L := [some (.ref 130), none, none, none, none]) ⟨Or.inr rfl, Or.inl rfl, Or.inl rfl, Or.inl rfl, Or.inl rfl, trivial⟩ hr
      · rw [if_neg hc] at hB
        refine s_Fin.bt (c := ¬ (g.1 131 k2) = (10 : Int32)) (tg := 52) (p2 := 36) (L1 := [some (.ref 130), none, none, none, none]) (st1 := []) hc rfl ?_
        obtain ⟨_, hN, hz⟩ := s_in_of hB
        subst hz
        have hB := hN
        exact s_Fin.more (L := [some (.ref 130), none, none, none, none]) ⟨Or.inr rfl, Or.inl rfl, Or.inl rfl, Or.inl rfl, Or.inl rfl, trivial⟩ (fM_go_130_52_s hB hr)
  · rw [if_neg hc] at hB
    refine s_Fin.bt (c := (g.1 130 3) ≤ (g.1 130 5)) (tg := 52) (p2 := 8) (L1 := [some (.ref 130), none, none, none, none]) (st1 := []) (Int32.not_lt.mp hc) rfl ?_
    obtain ⟨_, hN, hz⟩ := s_in_of hB
    subst hz
    have hB := hN
    exact s_Fin.more (L := [some (.ref 130), none, none, none, none]) ⟨Or.inr rfl, Or.inl rfl, Or.inl rfl, Or.inl rfl, Or.inl rfl, trivial⟩ (fM_go_130_52_s hB hr)
noncomputable def fM_go_130 (g : s_G) : Option (s_G) :=
  s_lp (fun x => fM_go_130_0 x) g
theorem fM_go_130_s {g : s_G} {z : s_G} (hB : fM_go_130 g = some z) : s_Ev 1 s_m166 [.ref 130] (s_hg g) (none) (s_hg z) := by
  unfold fM_go_130 at hB
  refine s_Ev.fin ((?_ : ∀ (v : Option Value) (h' : s_H), (fun (z : s_G) (v : Option Value) (h' : s_H) => v = none ∧ h' = s_hg z) z v h' → s_Fin 1 s_m166 (0, s_ent [.ref 130] (s_m166).2.2.1, [], s_hg g) v h') _ _ ⟨rfl, rfl⟩)
  intro v h' hr
  refine (show s_Fin 1 s_m166 (0, [some (.ref 130), none, none, none, none], [], s_hg g) v h' from ?_)
  exact s_Fin.more (L := [some (.ref 130), none, none, none, none]) ⟨Or.inr rfl, Or.inl rfl, Or.inl rfl, Or.inl rfl, Or.inl rfl, trivial⟩ (s_lp_s (P := (fun (x : s_G) (v : Option Value) (h' : s_H) => s_Fin 1 s_m166 (0, [some (.ref 130), none, none, none, none], [], s_hg x) v h')) (Q := (fun (z : s_G) (v : Option Value) (h' : s_H) => v = none ∧ h' = s_hg z)) (fun x z hB v h' hr => fM_go_130_0_s hB hr) hB _ _ hr)
-- CampAshesModel.begin
noncomputable def fM_begin_130 (x1 : Int32) (g : s_G) : Option (s_G) :=
  s_b2 (fM_take_130 (s_si g 130 0 (0 : Int32))) fun v2 g1 => s_b1 (fM_go_130 (s_si (s_si (s_si (s_si g1 130 3 v2) 130 4 x1) 130 10 (0 : Int32)) 130 5 (0 : Int32))) fun g3 => some g3
theorem fM_begin_130_s {x1 : Int32} {g : s_G} {z : s_G} (hB : fM_begin_130 x1 g = some z) : s_Ev 2 s_m164 [.ref 130, .int x1] (s_hg g) (none) (s_hg z) := by
  unfold fM_begin_130 at hB
  refine s_Ev.fin ((?_ : ∀ (v : Option Value) (h' : s_H), (fun (z : s_G) (v : Option Value) (h' : s_H) => v = none ∧ h' = s_hg z) z v h' → s_Fin 2 s_m164 (0, s_ent [.ref 130, .int x1] (s_m164).2.2.1, [], s_hg g) v h') _ _ ⟨rfl, rfl⟩)
  intro v h' hr
  refine (show s_Fin 2 s_m164 (0, [some (.ref 130), some (.int x1)], [], s_hg g) v h' from ?_)
  refine s_Fin.sg 5 (y := (7, [some (.ref 130), some (.int x1)], [.ref 130, .ref 130], s_hg (s_si g 130 0 (0 : Int32)))) rfl ?_
  obtain ⟨v2, g1, hp, hB⟩ := s_bd2 hB
  refine s_Fin.cl (d := 1) (q1 := s_m165) (md := 165) (vs := [.ref 130]) (rest := [.ref 130]) (h1 := s_hg g1) (u := some (.int v2)) (s_Ev.up (by omega) (fM_take_130_s hp)) rfl rfl rfl rfl ?_
  refine s_Fin.sg 11 (y := (29, [some (.ref 130), some (.int x1)], [.ref 130], s_hg (s_si (s_si (s_si (s_si g1 130 3 v2) 130 4 x1) 130 10 (0 : Int32)) 130 5 (0 : Int32)))) rfl ?_
  obtain ⟨g3, hp, hB⟩ := s_bd hB
  refine s_Fin.cl (d := 1) (q1 := s_m166) (md := 166) (vs := [.ref 130]) (rest := []) (h1 := s_hg g3) (u := none) (s_Ev.up (by omega) (fM_go_130_s hp)) rfl rfl rfl rfl ?_
  have hB := Option.some.inj hB
  subst hB
  obtain ⟨rfl, rfl⟩ := hr
  exact s_Fin.rt rfl rfl
-- CampAshesModel.startRead
noncomputable def fM_startRead_130_23 (x1 : Int32) (g : s_G) : Option ((Int32 × s_G) ⊕ (s_G)) :=
  if x1 < (4 : Int32) then (s_b1 (s_ix 4 x1) fun k4 => s_b1 (s_ix 47 ((6 : Int32) + x1)) fun k7 => some (.inl (x1 + (1 : Int32), (s_si (s_si (s_si g 141 k4 ((0 : Int32) &&& 1)) 142 k4 ((0 : Int32) &&& 1)) 133 k7 (3 : Int32)))))
  else s_in (some (s_si (s_si (s_si g 133 2 (10 : Int32)) 133 3 (2 : Int32)) 133 4 (1 : Int32)))
theorem fM_startRead_130_23_s {x1 : Int32} {g : s_G} {z : (Int32 × s_G) ⊕ (s_G)} (hB : fM_startRead_130_23 x1 g = some z) {v : Option Value} {h' : s_H} (hr : (s_sm (fun (x : Int32 × s_G) (v : Option Value) (h' : s_H) => s_Fin 0 s_m161 (23, [some (.ref 130), some (.int x.1)], [], s_hg x.2) v h') (fun (z : s_G) (v : Option Value) (h' : s_H) => v = none ∧ h' = s_hg z)) z v h') : s_Fin 0 s_m161 (23, [some (.ref 130), some (.int x1)], [], s_hg g) v h' := by
  unfold fM_startRead_130_23 at hB
  refine s_Fin.sg 2 (y := (25, [some (.ref 130), some (.int x1)], [.int (4 : Int32), .int x1], s_hg g)) rfl ?_
  by_cases hc : x1 < (4 : Int32)
  · rw [if_pos hc] at hB
    refine s_Fin.bf (c := (4 : Int32) ≤ x1) (tg := 58) (p2 := 25) (L1 := [some (.ref 130), some (.int x1)]) (st1 := []) (Int32.not_le.mpr hc) rfl ?_
    refine s_Fin.sg 4 (y := (34, [some (.ref 130), some (.int x1)], [.int (0 : Int32), .int x1, .ref 141], s_hg g)) rfl ?_
    obtain ⟨k4, hk4, hB⟩ := s_bd hB
    refine s_Fin.ix (n := 4) (i := x1) (pc1 := 35) (L1 := [some (.ref 130), some (.int x1)]) (fun j3 => []) (fun j3 => s_hg (s_si g 141 j3 ((0 : Int32) &&& 1))) hk4 rfl rfl ?_
    refine s_Fin.sg 4 (y := (41, [some (.ref 130), some (.int x1)], [.int (0 : Int32), .int x1, .ref 142], s_hg (s_si g 141 k4 ((0 : Int32) &&& 1)))) rfl ?_
    refine s_Fin.ix (n := 4) (i := x1) (pc1 := 42) (L1 := [some (.ref 130), some (.int x1)]) (fun j5 => []) (fun j5 => s_hg (s_si (s_si g 141 k4 ((0 : Int32) &&& 1)) 142 j5 ((0 : Int32) &&& 1))) hk4 rfl rfl ?_
    refine s_Fin.sg 6 (y := (51, [some (.ref 130), some (.int x1)], [.int (3 : Int32), .int ((6 : Int32) + x1), .ref 133], s_hg (s_si (s_si g 141 k4 ((0 : Int32) &&& 1)) 142 k4 ((0 : Int32) &&& 1)))) rfl ?_
    obtain ⟨k7, hk7, hB⟩ := s_bd hB
    refine s_Fin.ix (n := 47) (i := (6 : Int32) + x1) (pc1 := 52) (L1 := [some (.ref 130), some (.int x1)]) (fun j6 => []) (fun j6 => s_hg (s_si (s_si (s_si g 141 k4 ((0 : Int32) &&& 1)) 142 k4 ((0 : Int32) &&& 1)) 133 j6 (3 : Int32))) hk7 rfl rfl ?_
    refine s_Fin.sg 2 (y := (23, [some (.ref 130), some (.int (x1 + (1 : Int32)))], [], s_hg (s_si (s_si (s_si g 141 k4 ((0 : Int32) &&& 1)) 142 k4 ((0 : Int32) &&& 1)) 133 k7 (3 : Int32)))) rfl ?_
    have hB := Option.some.inj hB
    subst hB
    exact s_Fin.more (L := [some (.ref 130), some (.int (x1 + (1 : Int32)))]) ⟨Or.inr rfl, Or.inr rfl, trivial⟩ hr
  · rw [if_neg hc] at hB
    refine s_Fin.bt (c := (4 : Int32) ≤ x1) (tg := 58) (p2 := 25) (L1 := [some (.ref 130), some (.int x1)]) (st1 := []) (Int32.not_lt.mp hc) rfl ?_
    obtain ⟨_, hN, hz⟩ := s_in_of hB
    subst hz
    have hB := hN
    refine s_Fin.sg 15 (y := (80, [some (.ref 130), some (.int x1)], [], s_hg (s_si (s_si (s_si g 133 2 (10 : Int32)) 133 3 (2 : Int32)) 133 4 (1 : Int32)))) rfl ?_
    have hB := Option.some.inj hB
    subst hB
    obtain ⟨rfl, rfl⟩ := hr
    exact s_Fin.rt rfl rfl
noncomputable def fM_startRead_130_2 (x1 : Int32) (g : s_G) : Option ((Int32 × s_G) ⊕ (s_G)) :=
  if x1 < (47 : Int32) then (s_b1 (s_ix 47 x1) fun k2 => some (.inl (x1 + (1 : Int32), (s_si g 133 k2 (0 : Int32)))))
  else s_in (s_lp (fun x => fM_startRead_130_23 x.1 x.2) ((0 : Int32), g))
theorem fM_startRead_130_2_s {x1 : Int32} {g : s_G} {z : (Int32 × s_G) ⊕ (s_G)} (hB : fM_startRead_130_2 x1 g = some z) {v : Option Value} {h' : s_H} (hr : (s_sm (fun (x : Int32 × s_G) (v : Option Value) (h' : s_H) => s_Fin 0 s_m161 (2, [some (.ref 130), some (.int x.1)], [], s_hg x.2) v h') (fun (z : s_G) (v : Option Value) (h' : s_H) => v = none ∧ h' = s_hg z)) z v h') : s_Fin 0 s_m161 (2, [some (.ref 130), some (.int x1)], [], s_hg g) v h' := by
  unfold fM_startRead_130_2 at hB
  refine s_Fin.sg 2 (y := (5, [some (.ref 130), some (.int x1)], [.int (47 : Int32), .int x1], s_hg g)) rfl ?_
  by_cases hc : x1 < (47 : Int32)
  · rw [if_pos hc] at hB
    refine s_Fin.bf (c := (47 : Int32) ≤ x1) (tg := 21) (p2 := 5) (L1 := [some (.ref 130), some (.int x1)]) (st1 := []) (Int32.not_le.mpr hc) rfl ?_
    refine s_Fin.sg 4 (y := (14, [some (.ref 130), some (.int x1)], [.int (0 : Int32), .int x1, .ref 133], s_hg g)) rfl ?_
    obtain ⟨k2, hk2, hB⟩ := s_bd hB
    refine s_Fin.ix (n := 47) (i := x1) (pc1 := 15) (L1 := [some (.ref 130), some (.int x1)]) (fun j1 => []) (fun j1 => s_hg (s_si g 133 j1 (0 : Int32))) hk2 rfl rfl ?_
    refine s_Fin.sg 2 (y := (2, [some (.ref 130), some (.int (x1 + (1 : Int32)))], [], s_hg (s_si g 133 k2 (0 : Int32)))) rfl ?_
    have hB := Option.some.inj hB
    subst hB
    exact s_Fin.more (L := [some (.ref 130), some (.int (x1 + (1 : Int32)))]) ⟨Or.inr rfl, Or.inr rfl, trivial⟩ hr
  · rw [if_neg hc] at hB
    refine s_Fin.bt (c := (47 : Int32) ≤ x1) (tg := 21) (p2 := 5) (L1 := [some (.ref 130), some (.int x1)]) (st1 := []) (Int32.not_lt.mp hc) rfl ?_
    obtain ⟨_, hN, hz⟩ := s_in_of hB
    subst hz
    have hB := hN
    refine s_Fin.sg 2 (y := (23, [some (.ref 130), some (.int (0 : Int32))], [], s_hg g)) rfl ?_
    exact s_Fin.more (L := [some (.ref 130), some (.int (0 : Int32))]) ⟨Or.inr rfl, Or.inr rfl, trivial⟩ (s_lp_s (P := (fun (x : Int32 × s_G) (v : Option Value) (h' : s_H) => s_Fin 0 s_m161 (23, [some (.ref 130), some (.int x.1)], [], s_hg x.2) v h')) (Q := (fun (z : s_G) (v : Option Value) (h' : s_H) => v = none ∧ h' = s_hg z)) (fun x z hB v h' hr => fM_startRead_130_23_s hB hr) hB _ _ hr)
noncomputable def fM_startRead_130 (g : s_G) : Option (s_G) :=
  s_lp (fun x => fM_startRead_130_2 x.1 x.2) ((0 : Int32), g)
theorem fM_startRead_130_s {g : s_G} {z : s_G} (hB : fM_startRead_130 g = some z) : s_Ev 0 s_m161 [.ref 130] (s_hg g) (none) (s_hg z) := by
  unfold fM_startRead_130 at hB
  refine s_Ev.fin ((?_ : ∀ (v : Option Value) (h' : s_H), (fun (z : s_G) (v : Option Value) (h' : s_H) => v = none ∧ h' = s_hg z) z v h' → s_Fin 0 s_m161 (0, s_ent [.ref 130] (s_m161).2.2.1, [], s_hg g) v h') _ _ ⟨rfl, rfl⟩)
  intro v h' hr
  refine (show s_Fin 0 s_m161 (0, [some (.ref 130), none], [], s_hg g) v h' from ?_)
  refine s_Fin.sg 2 (y := (2, [some (.ref 130), some (.int (0 : Int32))], [], s_hg g)) rfl ?_
  exact s_Fin.more (L := [some (.ref 130), some (.int (0 : Int32))]) ⟨Or.inr rfl, Or.inr rfl, trivial⟩ (s_lp_s (P := (fun (x : Int32 × s_G) (v : Option Value) (h' : s_H) => s_Fin 0 s_m161 (2, [some (.ref 130), some (.int x.1)], [], s_hg x.2) v h')) (Q := (fun (z : s_G) (v : Option Value) (h' : s_H) => v = none ∧ h' = s_hg z)) (fun x z hB v h' hr => fM_startRead_130_2_s hB hr) hB _ _ hr)
-- CampAshesModel.startSo
noncomputable def fM_startSo_130_51 (x1 : Int32) (g : s_G) : Option ((Int32 × s_G) ⊕ (s_G)) :=
  if x1 < (g.1 132 1) then (s_b1 (s_ix 375 ((17 : Int32) + x1)) fun k4 => s_b1 (s_ix 375 ((37 : Int32) + x1)) fun k6 => s_b1 (s_ix 375 (((63 : Int32) + ((10 : Int32) * (g.1 132 k4))) + x1)) fun k8 => some (.inl (x1 + (1 : Int32), (s_si g 132 k8 (g.1 132 k6)))))
  else s_in (some g)
theorem fM_startSo_130_51_s {x1 : Int32} {g : s_G} {z : (Int32 × s_G) ⊕ (s_G)} (hB : fM_startSo_130_51 x1 g = some z) {v : Option Value} {h' : s_H} (hr : (s_sm (fun (x : Int32 × s_G) (v : Option Value) (h' : s_H) => s_Fin 0 s_m162 (51, [some (.ref 130), some (.int x.1)], [], s_hg x.2) v h') (fun (z : s_G) (v : Option Value) (h' : s_H) => v = none ∧ h' = s_hg z)) z v h') : s_Fin 0 s_m162 (51, [some (.ref 130), some (.int x1)], [], s_hg g) v h' := by
  unfold fM_startSo_130_51 at hB
  refine s_Fin.sg 5 (y := (58, [some (.ref 130), some (.int x1)], [.int (g.1 132 1), .int x1], s_hg g)) rfl ?_
  by_cases hc : x1 < (g.1 132 1)
  · rw [if_pos hc] at hB
    refine s_Fin.bf (c := (g.1 132 1) ≤ x1) (tg := 98) (p2 := 58) (L1 := [some (.ref 130), some (.int x1)]) (st1 := []) (Int32.not_le.mpr hc) rfl ?_
    refine s_Fin.sg 9 (y := (77, [some (.ref 130), some (.int x1)], [.int ((17 : Int32) + x1), .ref 132, .int (10 : Int32), .int (63 : Int32), .ref 132], s_hg g)) rfl ?_
    obtain ⟨k4, hk4, hB⟩ := s_bd hB
    refine s_Fin.ix (n := 375) (i := (17 : Int32) + x1) (pc1 := 78) (L1 := [some (.ref 130), some (.int x1)]) (fun j3 => [.int (g.1 132 j3), .int (10 : Int32), .int (63 : Int32), .ref 132]) (fun j3 => s_hg g) hk4 rfl rfl ?_
    refine s_Fin.sg 9 (y := (90, [some (.ref 130), some (.int x1)], [.int ((37 : Int32) + x1), .ref 132, .int (((63 : Int32) + ((10 : Int32) * (g.1 132 k4))) + x1), .ref 132], s_hg g)) rfl ?_
    obtain ⟨k6, hk6, hB⟩ := s_bd hB
    refine s_Fin.ix (n := 375) (i := (37 : Int32) + x1) (pc1 := 91) (L1 := [some (.ref 130), some (.int x1)]) (fun j5 => [.int (g.1 132 j5), .int (((63 : Int32) + ((10 : Int32) * (g.1 132 k4))) + x1), .ref 132]) (fun j5 => s_hg g) hk6 rfl rfl ?_
    obtain ⟨k8, hk8, hB⟩ := s_bd hB
    refine s_Fin.ix (n := 375) (i := ((63 : Int32) + ((10 : Int32) * (g.1 132 k4))) + x1) (pc1 := 92) (L1 := [some (.ref 130), some (.int x1)]) (fun j7 => []) (fun j7 => s_hg (s_si g 132 j7 (g.1 132 k6))) hk8 rfl rfl ?_
    refine s_Fin.sg 2 (y := (51, [some (.ref 130), some (.int (x1 + (1 : Int32)))], [], s_hg (s_si g 132 k8 (g.1 132 k6)))) rfl ?_
    have hB := Option.some.inj hB
    subst hB
    exact s_Fin.more (L := [some (.ref 130), some (.int (x1 + (1 : Int32)))]) ⟨Or.inr rfl, Or.inr rfl, trivial⟩ hr
  · rw [if_neg hc] at hB
    refine s_Fin.bt (c := (g.1 132 1) ≤ x1) (tg := 98) (p2 := 58) (L1 := [some (.ref 130), some (.int x1)]) (st1 := []) (Int32.not_lt.mp hc) rfl ?_
    obtain ⟨_, hN, hz⟩ := s_in_of hB
    subst hz
    have hB := hN
    have hB := Option.some.inj hB
    subst hB
    obtain ⟨rfl, rfl⟩ := hr
    exact s_Fin.rt rfl rfl
noncomputable def fM_startSo_130_3 (x1 : Int32) (g : s_G) : Option ((Int32 × s_G) ⊕ (s_G)) :=
  if x1 < (375 : Int32) then (s_b1 (s_ix 375 x1) fun k2 => some (.inl (x1 + (1 : Int32), (s_si g 132 k2 (0 : Int32)))))
  else s_in (s_lp (fun x => fM_startSo_130_51 x.1 x.2) ((0 : Int32), (s_si (s_si g 132 48 (g.1 132 2)) 132 49 (g.1 132 3))))
theorem fM_startSo_130_3_s {x1 : Int32} {g : s_G} {z : (Int32 × s_G) ⊕ (s_G)} (hB : fM_startSo_130_3 x1 g = some z) {v : Option Value} {h' : s_H} (hr : (s_sm (fun (x : Int32 × s_G) (v : Option Value) (h' : s_H) => s_Fin 0 s_m162 (3, [some (.ref 130), some (.int x.1)], [], s_hg x.2) v h') (fun (z : s_G) (v : Option Value) (h' : s_H) => v = none ∧ h' = s_hg z)) z v h') : s_Fin 0 s_m162 (3, [some (.ref 130), some (.int x1)], [], s_hg g) v h' := by
  unfold fM_startSo_130_3 at hB
  refine s_Fin.sg 2 (y := (7, [some (.ref 130), some (.int x1)], [.int (375 : Int32), .int x1], s_hg g)) rfl ?_
  by_cases hc : x1 < (375 : Int32)
  · rw [if_pos hc] at hB
    refine s_Fin.bf (c := (375 : Int32) ≤ x1) (tg := 23) (p2 := 7) (L1 := [some (.ref 130), some (.int x1)]) (st1 := []) (Int32.not_le.mpr hc) rfl ?_
    refine s_Fin.sg 4 (y := (16, [some (.ref 130), some (.int x1)], [.int (0 : Int32), .int x1, .ref 132], s_hg g)) rfl ?_
    obtain ⟨k2, hk2, hB⟩ := s_bd hB
    refine s_Fin.ix (n := 375) (i := x1) (pc1 := 17) (L1 := [some (.ref 130), some (.int x1)]) (fun j1 => []) (fun j1 => s_hg (s_si g 132 j1 (0 : Int32))) hk2 rfl rfl ?_
    refine s_Fin.sg 2 (y := (3, [some (.ref 130), some (.int (x1 + (1 : Int32)))], [], s_hg (s_si g 132 k2 (0 : Int32)))) rfl ?_
    have hB := Option.some.inj hB
    subst hB
    exact s_Fin.more (L := [some (.ref 130), some (.int (x1 + (1 : Int32)))]) ⟨Or.inr rfl, Or.inr rfl, trivial⟩ hr
  · rw [if_neg hc] at hB
    refine s_Fin.bt (c := (375 : Int32) ≤ x1) (tg := 23) (p2 := 7) (L1 := [some (.ref 130), some (.int x1)]) (st1 := []) (Int32.not_lt.mp hc) rfl ?_
    obtain ⟨_, hN, hz⟩ := s_in_of hB
    subst hz
    have hB := hN
    refine s_Fin.sg 18 (y := (51, [some (.ref 130), some (.int (0 : Int32))], [], s_hg (s_si (s_si g 132 48 (g.1 132 2)) 132 49 (g.1 132 3)))) rfl ?_
    exact s_Fin.more (L := [some (.ref 130), some (.int (0 : Int32))]) ⟨Or.inr rfl, Or.inr rfl, trivial⟩ (s_lp_s (P := (fun (x : Int32 × s_G) (v : Option Value) (h' : s_H) => s_Fin 0 s_m162 (51, [some (.ref 130), some (.int x.1)], [], s_hg x.2) v h')) (Q := (fun (z : s_G) (v : Option Value) (h' : s_H) => v = none ∧ h' = s_hg z)) (fun x z hB v h' hr => fM_startSo_130_51_s hB hr) hB _ _ hr)
noncomputable def fM_startSo_130 (g : s_G) : Option (s_G) :=
  s_lp (fun x => fM_startSo_130_3 x.1 x.2) ((47 : Int32), g)
theorem fM_startSo_130_s {g : s_G} {z : s_G} (hB : fM_startSo_130 g = some z) : s_Ev 0 s_m162 [.ref 130] (s_hg g) (none) (s_hg z) := by
  unfold fM_startSo_130 at hB
  refine s_Ev.fin ((?_ : ∀ (v : Option Value) (h' : s_H), (fun (z : s_G) (v : Option Value) (h' : s_H) => v = none ∧ h' = s_hg z) z v h' → s_Fin 0 s_m162 (0, s_ent [.ref 130] (s_m162).2.2.1, [], s_hg g) v h') _ _ ⟨rfl, rfl⟩)
  intro v h' hr
  refine (show s_Fin 0 s_m162 (0, [some (.ref 130), none], [], s_hg g) v h' from ?_)
  refine s_Fin.sg 2 (y := (3, [some (.ref 130), some (.int (47 : Int32))], [], s_hg g)) rfl ?_
  exact s_Fin.more (L := [some (.ref 130), some (.int (47 : Int32))]) ⟨Or.inr rfl, Or.inr rfl, trivial⟩ (s_lp_s (P := (fun (x : Int32 × s_G) (v : Option Value) (h' : s_H) => s_Fin 0 s_m162 (3, [some (.ref 130), some (.int x.1)], [], s_hg x.2) v h')) (Q := (fun (z : s_G) (v : Option Value) (h' : s_H) => v = none ∧ h' = s_hg z)) (fun x z hB v h' hr => fM_startSo_130_3_s hB hr) hB _ _ hr)
