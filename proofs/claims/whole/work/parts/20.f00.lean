-- CampAshesModel.come
noncomputable def fM_come_130_3 (x1 : Int32) (x2 : Int32) (g : s_G) : Option ((Int32 × s_G) ⊕ (s_G)) :=
  if x2 < 0 then (s_in (some g))
  else s_b1 (s_ix 940 (g.1 130 2)) fun k2 => some (.inl (x2 + (-8 : Int32), (s_si (s_si g 131 k2 (((x1.toUInt32 >>> (x2.toUInt32 &&& Int32.toUInt32 31)).toInt32) &&& (255 : Int32))) 130 2 ((g.1 130 2) + (1 : Int32)))))
theorem fM_come_130_3_s {x1 : Int32} {x2 : Int32} {g : s_G} {z : (Int32 × s_G) ⊕ (s_G)} (hB : fM_come_130_3 x1 x2 g = some z) {v : Option Value} {h' : s_H} (hr : (s_sm (fun (x : Int32 × s_G) (v : Option Value) (h' : s_H) => s_Fin 0 s_m158 (3, [some (.ref 130), some (.int x1), some (.int x.1)], [], s_hg x.2) v h') (fun (z : s_G) (v : Option Value) (h' : s_H) => v = none ∧ h' = s_hg z)) z v h') : s_Fin 0 s_m158 (3, [some (.ref 130), some (.int x1), some (.int x2)], [], s_hg g) v h' := by
  unfold fM_come_130_3 at hB
  refine s_Fin.sg 1 (y := (4, [some (.ref 130), some (.int x1), some (.int x2)], [.int x2], s_hg g)) rfl ?_
  by_cases hc : x2 < 0
  · rw [if_pos hc] at hB
    refine s_Fin.bt (c := x2 < 0) (tg := 39) (p2 := 4) (L1 := [some (.ref 130), some (.int x1), some (.int x2)]) (st1 := []) hc rfl ?_
    obtain ⟨_, hN, hz⟩ := s_in_of hB
    subst hz
    have hB := hN
    have hB := Option.some.inj hB
    subst hB
    obtain ⟨rfl, rfl⟩ := hr
    exact s_Fin.rt rfl rfl
  · rw [if_neg hc] at hB
    refine s_Fin.bf (c := x2 < 0) (tg := 39) (p2 := 4) (L1 := [some (.ref 130), some (.int x1), some (.int x2)]) (st1 := []) hc rfl ?_
    refine s_Fin.sg 9 (y := (22, [some (.ref 130), some (.int x1), some (.int x2)], [.int (((x1.toUInt32 >>> (x2.toUInt32 &&& Int32.toUInt32 31)).toInt32) &&& (255 : Int32)), .int (g.1 130 2), .ref 131], s_hg g)) rfl ?_
    obtain ⟨k2, hk2, hB⟩ := s_bd hB
    refine s_Fin.ix (n := 940) (i := g.1 130 2) (pc1 := 23) (L1 := [some (.ref 130), some (.int x1), some (.int x2)]) (fun j1 => []) (fun j1 => s_hg (s_si g 131 j1 (((x1.toUInt32 >>> (x2.toUInt32 &&& Int32.toUInt32 31)).toInt32) &&& (255 : Int32)))) hk2 rfl rfl ?_
    refine s_Fin.sg 8 (y := (3, [some (.ref 130), some (.int x1), some (.int (x2 + (-8 : Int32)))], [], s_hg (s_si (s_si g 131 k2 (((x1.toUInt32 >>> (x2.toUInt32 &&& Int32.toUInt32 31)).toInt32) &&& (255 : Int32))) 130 2 ((g.1 130 2) + (1 : Int32))))) rfl ?_
    have hB := Option.some.inj hB
    subst hB
    exact s_Fin.more (L := [some (.ref 130), some (.int x1), some (.int (x2 + (-8 : Int32)))]) ⟨Or.inr rfl, Or.inr rfl, Or.inr rfl, trivial⟩ hr
noncomputable def fM_come_130 (x1 : Int32) (g : s_G) : Option (s_G) :=
  s_lp (fun x => fM_come_130_3 x1 x.1 x.2) ((24 : Int32), g)
theorem fM_come_130_s {x1 : Int32} {g : s_G} {z : s_G} (hB : fM_come_130 x1 g = some z) : s_Ev 0 s_m158 [.ref 130, .int x1] (s_hg g) (none) (s_hg z) := by
  unfold fM_come_130 at hB
  refine s_Ev.fin ((?_ : ∀ (v : Option Value) (h' : s_H), (fun (z : s_G) (v : Option Value) (h' : s_H) => v = none ∧ h' = s_hg z) z v h' → s_Fin 0 s_m158 (0, s_ent [.ref 130, .int x1] (s_m158).2.2.1, [], s_hg g) v h') _ _ ⟨rfl, rfl⟩)
  intro v h' hr
  refine (show s_Fin 0 s_m158 (0, [some (.ref 130), some (.int x1), none], [], s_hg g) v h' from ?_)
  refine s_Fin.sg 2 (y := (3, [some (.ref 130), some (.int x1), some (.int (24 : Int32))], [], s_hg g)) rfl ?_
  exact s_Fin.more (L := [some (.ref 130), some (.int x1), some (.int (24 : Int32))]) ⟨Or.inr rfl, Or.inr rfl, Or.inr rfl, trivial⟩ (s_lp_s (P := (fun (x : Int32 × s_G) (v : Option Value) (h' : s_H) => s_Fin 0 s_m158 (3, [some (.ref 130), some (.int x1), some (.int x.1)], [], s_hg x.2) v h')) (Q := (fun (z : s_G) (v : Option Value) (h' : s_H) => v = none ∧ h' = s_hg z)) (fun x z hB v h' hr => fM_come_130_3_s hB hr) hB _ _ hr)
-- CampAshesModel.feed
noncomputable def fM_feed_130 (x1 : Int32) (x2 : Int32) (x3 : Int32) (x4 : Int32) (x5 : Int32) (g : s_G) : Option (Int32 × s_G) :=
  if (940 : Int32) < ((g.1 130 2) + (20 : Int32)) then (some ((-1 : Int32), (s_si g 130 0 (0 : Int32))))
  else s_b1 (fM_come_130 x1 (s_si g 130 0 (0 : Int32))) fun g1 => s_b1 (fM_come_130 x2 g1) fun g2 => s_b1 (fM_come_130 x3 g2) fun g3 => s_b1 (fM_come_130 x4 g3) fun g4 => s_b1 (fM_come_130 x5 g4) fun g5 => some (g5.1 130 2, g5)
theorem fM_feed_130_s {x1 : Int32} {x2 : Int32} {x3 : Int32} {x4 : Int32} {x5 : Int32} {g : s_G} {z : Int32 × s_G} (hB : fM_feed_130 x1 x2 x3 x4 x5 g = some z) : s_Ev 1 s_m157 [.ref 130, .int x1, .int x2, .int x3, .int x4, .int x5] (s_hg g) (some (.int z.1)) (s_hg z.2) := by
  unfold fM_feed_130 at hB
  refine s_Ev.fin ((?_ : ∀ (v : Option Value) (h' : s_H), (fun (z : Int32 × s_G) (v : Option Value) (h' : s_H) => v = some (.int z.1) ∧ h' = s_hg z.2) z v h' → s_Fin 1 s_m157 (0, s_ent [.ref 130, .int x1, .int x2, .int x3, .int x4, .int x5] (s_m157).2.2.1, [], s_hg g) v h') _ _ ⟨rfl, rfl⟩)
  intro v h' hr
  refine (show s_Fin 1 s_m157 (0, [some (.ref 130), some (.int x1), some (.int x2), some (.int x3), some (.int x4), some (.int x5)], [], s_hg g) v h' from ?_)
  refine s_Fin.sg 8 (y := (15, [some (.ref 130), some (.int x1), some (.int x2), some (.int x3), some (.int x4), some (.int x5)], [.int (940 : Int32), .int ((g.1 130 2) + (20 : Int32))], s_hg (s_si g 130 0 (0 : Int32)))) rfl ?_
  by_cases hc : (940 : Int32) < ((g.1 130 2) + (20 : Int32))
  · rw [if_pos hc] at hB
    refine s_Fin.bf (c := ((g.1 130 2) + (20 : Int32)) ≤ (940 : Int32)) (tg := 20) (p2 := 15) (L1 := [some (.ref 130), some (.int x1), some (.int x2), some (.int x3), some (.int x4), some (.int x5)]) (st1 := []) (Int32.not_le.mpr hc) rfl ?_
    refine s_Fin.sg 1 (y := (19, [some (.ref 130), some (.int x1), some (.int x2), some (.int x3), some (.int x4), some (.int x5)], [.int (-1 : Int32)], s_hg (s_si g 130 0 (0 : Int32)))) rfl ?_
    have hB := Option.some.inj hB
    subst hB
    obtain ⟨rfl, rfl⟩ := hr
    exact s_Fin.rt rfl rfl
  · rw [if_neg hc] at hB
    refine s_Fin.bt (c := ((g.1 130 2) + (20 : Int32)) ≤ (940 : Int32)) (tg := 20) (p2 := 15) (L1 := [some (.ref 130), some (.int x1), some (.int x2), some (.int x3), some (.int x4), some (.int x5)]) (st1 := []) (Int32.not_lt.mp hc) rfl ?_
    refine s_Fin.sg 2 (y := (22, [some (.ref 130), some (.int x1), some (.int x2), some (.int x3), some (.int x4), some (.int x5)], [.int x1, .ref 130], s_hg (s_si g 130 0 (0 : Int32)))) rfl ?_
    obtain ⟨g1, hp, hB⟩ := s_bd hB
    refine s_Fin.cl (d := 0) (q1 := s_m158) (md := 158) (vs := [.ref 130, .int x1]) (rest := []) (h1 := s_hg g1) (u := none) (s_Ev.up (by omega) (fM_come_130_s hp)) rfl rfl rfl rfl ?_
    refine s_Fin.sg 2 (y := (27, [some (.ref 130), some (.int x1), some (.int x2), some (.int x3), some (.int x4), some (.int x5)], [.int x2, .ref 130], s_hg g1)) rfl ?_
    obtain ⟨g2, hp, hB⟩ := s_bd hB
    refine s_Fin.cl (d := 0) (q1 := s_m158) (md := 158) (vs := [.ref 130, .int x2]) (rest := []) (h1 := s_hg g2) (u := none) (s_Ev.up (by omega) (fM_come_130_s hp)) rfl rfl rfl rfl ?_
    refine s_Fin.sg 2 (y := (32, [some (.ref 130), some (.int x1), some (.int x2), some (.int x3), some (.int x4), some (.int x5)], [.int x3, .ref 130], s_hg g2)) rfl ?_
    obtain ⟨g3, hp, hB⟩ := s_bd hB
    refine s_Fin.cl (d := 0) (q1 := s_m158) (md := 158) (vs := [.ref 130, .int x3]) (rest := []) (h1 := s_hg g3) (u := none) (s_Ev.up (by omega) (fM_come_130_s hp)) rfl rfl rfl rfl ?_
    refine s_Fin.sg 2 (y := (38, [some (.ref 130), some (.int x1), some (.int x2), some (.int x3), some (.int x4), some (.int x5)], [.int x4, .ref 130], s_hg g3)) rfl ?_
    obtain ⟨g4, hp, hB⟩ := s_bd hB
    refine s_Fin.cl (d := 0) (q1 := s_m158) (md := 158) (vs := [.ref 130, .int x4]) (rest := []) (h1 := s_hg g4) (u := none) (s_Ev.up (by omega) (fM_come_130_s hp)) rfl rfl rfl rfl ?_
    refine s_Fin.sg 2 (y := (44, [some (.ref 130), some (.int x1), some (.int x2), some (.int x3), some (.int x4), some (.int x5)], [.int x5, .ref 130], s_hg g4)) rfl ?_
    obtain ⟨g5, hp, hB⟩ := s_bd hB
    refine s_Fin.cl (d := 0) (q1 := s_m158) (md := 158) (vs := [.ref 130, .int x5]) (rest := []) (h1 := s_hg g5) (u := none) (s_Ev.up (by omega) (fM_come_130_s hp)) rfl rfl rfl rfl ?_
    refine s_Fin.sg 2 (y := (51, [some (.ref 130), some (.int x1), some (.int x2), some (.int x3), some (.int x4), some (.int x5)], [.int (g5.1 130 2)], s_hg g5)) rfl ?_
    have hB := Option.some.inj hB
    subst hB
    obtain ⟨rfl, rfl⟩ := hr
    exact s_Fin.rt rfl rfl
-- CampAshes$Tape.putNumber
noncomputable def fQ_putNumber_1_3 (x1 : Int32) (x2 : Int32) (g : s_G) : Option ((Int32 × s_G) ⊕ (s_G)) :=
  if x2 < 0 then (s_in (some g))
  else if (g.1 1 1) < (940 : Int32) then (s_b1 (s_ix 940 (g.1 1 1)) fun k2 => some (.inl (x2 + (-8 : Int32), (s_si (s_si g 2 k2 (((x1 >>> (x2 &&& 31)).toInt8.toInt32).toInt8.toInt32)) 1 1 ((g.1 1 1) + (1 : Int32))))))
  else s_in (some g)
theorem fQ_putNumber_1_3_s {x1 : Int32} {x2 : Int32} {g : s_G} {z : (Int32 × s_G) ⊕ (s_G)} (hB : fQ_putNumber_1_3 x1 x2 g = some z) {v : Option Value} {h' : s_H} (hr : (s_sm (fun (x : Int32 × s_G) (v : Option Value) (h' : s_H) => s_Fin 0 s_m16 (3, [some (.ref 1), some (.int x1), some (.int x.1)], [], s_hg x.2) v h') (fun (z : s_G) (v : Option Value) (h' : s_H) => v = none ∧ h' = s_hg z)) z v h') : s_Fin 0 s_m16 (3, [some (.ref 1), some (.int x1), some (.int x2)], [], s_hg g) v h' := by
  unfold fQ_putNumber_1_3 at hB
  refine s_Fin.sg 1 (y := (4, [some (.ref 1), some (.int x1), some (.int x2)], [.int x2], s_hg g)) rfl ?_
  by_cases hc : x2 < 0
  · rw [if_pos hc] at hB
    refine s_Fin.bt (c := x2 < 0) (tg := 46) (p2 := 4) (L1 := [some (.ref 1), some (.int x1), some (.int x2)]) (st1 := []) hc rfl ?_
    obtain ⟨_, hN, hz⟩ := s_in_of hB
    subst hz
    have hB := hN
    have hB := Option.some.inj hB
    subst hB
    obtain ⟨rfl, rfl⟩ := hr
    exact s_Fin.rt rfl rfl
  · rw [if_neg hc] at hB
    refine s_Fin.bf (c := x2 < 0) (tg := 46) (p2 := 4) (L1 := [some (.ref 1), some (.int x1), some (.int x2)]) (st1 := []) hc rfl ?_
    refine s_Fin.sg 3 (y := (14, [some (.ref 1), some (.int x1), some (.int x2)], [.int (940 : Int32), .int (g.1 1 1)], s_hg g)) rfl ?_
    by_cases hc : (g.1 1 1) < (940 : Int32)
    · rw [if_pos hc] at hB
      refine s_Fin.bf (c := (940 : Int32) ≤ (g.1 1 1)) (tg := 46) (p2 := 14) (L1 := [some (.ref 1), some (.int x1), some (.int x2)]) (st1 := []) (Int32.not_le.mpr hc) rfl ?_
      refine s_Fin.sg 8 (y := (29, [some (.ref 1), some (.int x1), some (.int x2)], [.int ((x1 >>> (x2 &&& 31)).toInt8.toInt32), .int (g.1 1 1), .ref 2], s_hg g)) rfl ?_
      obtain ⟨k2, hk2, hB⟩ := s_bd hB
      refine s_Fin.ix (n := 940) (i := g.1 1 1) (pc1 := 30) (L1 := [some (.ref 1), some (.int x1), some (.int x2)]) (fun j1 => []) (fun j1 => s_hg (s_si g 2 j1 (((x1 >>> (x2 &&& 31)).toInt8.toInt32).toInt8.toInt32))) hk2 rfl rfl ?_
      refine s_Fin.sg 8 (y := (3, [some (.ref 1), some (.int x1), some (.int (x2 + (-8 : Int32)))], [], s_hg (s_si (s_si g 2 k2 (((x1 >>> (x2 &&& 31)).toInt8.toInt32).toInt8.toInt32)) 1 1 ((g.1 1 1) + (1 : Int32))))) rfl ?_
      have hB := Option.some.inj hB
      subst hB
      exact s_Fin.more (L := [some (.ref 1), some (.int x1), some (.int (x2 + (-8 : Int32)))]) ⟨Or.inr rfl, Or.inr rfl, Or.inr rfl, trivial⟩ hr
    · rw [if_neg hc] at hB
      refine s_Fin.bt (c := (940 : Int32) ≤ (g.1 1 1)) (tg := 46) (p2 := 14) (L1 := [some (.ref 1), some (.int x1), some (.int x2)]) (st1 := []) (Int32.not_lt.mp hc) rfl ?_
      obtain ⟨_, hN, hz⟩ := s_in_of hB
      subst hz
      have hB := hN
      have hB := Option.some.inj hB
      subst hB
      obtain ⟨rfl, rfl⟩ := hr
      exact s_Fin.rt rfl rfl
noncomputable def fQ_putNumber_1 (x1 : Int32) (g : s_G) : Option (s_G) :=
  s_lp (fun x => fQ_putNumber_1_3 x1 x.1 x.2) ((24 : Int32), g)
theorem fQ_putNumber_1_s {x1 : Int32} {g : s_G} {z : s_G} (hB : fQ_putNumber_1 x1 g = some z) : s_Ev 0 s_m16 [.ref 1, .int x1] (s_hg g) (none) (s_hg z) := by
  unfold fQ_putNumber_1 at hB
  refine s_Ev.fin ((?_ : ∀ (v : Option Value) (h' : s_H), (fun (z : s_G) (v : Option Value) (h' : s_H) => v = none ∧ h' = s_hg z) z v h' → s_Fin 0 s_m16 (0, s_ent [.ref 1, .int x1] (s_m16).2.2.1, [], s_hg g) v h') _ _ ⟨rfl, rfl⟩)
  intro v h' hr
  refine (show s_Fin 0 s_m16 (0, [some (.ref 1), some (.int x1), none], [], s_hg g) v h' from ?_)
  refine s_Fin.sg 2 (y := (3, [some (.ref 1), some (.int x1), some (.int (24 : Int32))], [], s_hg g)) rfl ?_
  exact s_Fin.more (L := [some (.ref 1), some (.int x1), some (.int (24 : Int32))]) ⟨Or.inr rfl, Or.inr rfl, Or.inr rfl, trivial⟩ (s_lp_s (P := (fun (x : Int32 × s_G) (v : Option Value) (h' : s_H) => s_Fin 0 s_m16 (3, [some (.ref 1), some (.int x1), some (.int x.1)], [], s_hg x.2) v h')) (Q := (fun (z : s_G) (v : Option Value) (h' : s_H) => v = none ∧ h' = s_hg z)) (fun x z hB v h' hr => fQ_putNumber_1_3_s hB hr) hB _ _ hr)
-- CampAshes.feed
noncomputable def fC_feed_0 (x1 : Int32) (x2 : Int32) (x3 : Int32) (x4 : Int32) (x5 : Int32) (g : s_G) : Option (Int32 × s_G) :=
  if (940 : Int32) < ((g.1 1 1) + (20 : Int32)) then (some ((-1 : Int32), g))
  else s_b1 (fQ_putNumber_1 x1 g) fun g1 => s_b1 (fQ_putNumber_1 x2 g1) fun g2 => s_b1 (fQ_putNumber_1 x3 g2) fun g3 => s_b1 (fQ_putNumber_1 x4 g3) fun g4 => s_b1 (fQ_putNumber_1 x5 g4) fun g5 => some (g5.1 1 1, g5)
theorem fC_feed_0_s {x1 : Int32} {x2 : Int32} {x3 : Int32} {x4 : Int32} {x5 : Int32} {g : s_G} {z : Int32 × s_G} (hB : fC_feed_0 x1 x2 x3 x4 x5 g = some z) : s_Ev 1 s_m15 [.ref 0, .int x1, .int x2, .int x3, .int x4, .int x5] (s_hg g) (some (.int z.1)) (s_hg z.2) := by
  unfold fC_feed_0 at hB
  refine s_Ev.fin ((?_ : ∀ (v : Option Value) (h' : s_H), (fun (z : Int32 × s_G) (v : Option Value) (h' : s_H) => v = some (.int z.1) ∧ h' = s_hg z.2) z v h' → s_Fin 1 s_m15 (0, s_ent [.ref 0, .int x1, .int x2, .int x3, .int x4, .int x5] (s_m15).2.2.1, [], s_hg g) v h') _ _ ⟨rfl, rfl⟩)
  intro v h' hr
  refine (show s_Fin 1 s_m15 (0, [some (.ref 0), some (.int x1), some (.int x2), some (.int x3), some (.int x4), some (.int x5)], [], s_hg g) v h' from ?_)
  refine s_Fin.sg 6 (y := (13, [some (.ref 0), some (.int x1), some (.int x2), some (.int x3), some (.int x4), some (.int x5)], [.int (940 : Int32), .int ((g.1 1 1) + (20 : Int32))], s_hg g)) rfl ?_
  by_cases hc : (940 : Int32) < ((g.1 1 1) + (20 : Int32))
  · rw [if_pos hc] at hB
    refine s_Fin.bf (c := ((g.1 1 1) + (20 : Int32)) ≤ (940 : Int32)) (tg := 18) (p2 := 13) (L1 := [some (.ref 0), some (.int x1), some (.int x2), some (.int x3), some (.int x4), some (.int x5)]) (st1 := []) (Int32.not_le.mpr hc) rfl ?_
    refine s_Fin.sg 1 (y := (17, [some (.ref 0), some (.int x1), some (.int x2), some (.int x3), some (.int x4), some (.int x5)], [.int (-1 : Int32)], s_hg g)) rfl ?_
    have hB := Option.some.inj hB
    subst hB
    obtain ⟨rfl, rfl⟩ := hr
    exact s_Fin.rt rfl rfl
  · rw [if_neg hc] at hB
    refine s_Fin.bt (c := ((g.1 1 1) + (20 : Int32)) ≤ (940 : Int32)) (tg := 18) (p2 := 13) (L1 := [some (.ref 0), some (.int x1), some (.int x2), some (.int x3), some (.int x4), some (.int x5)]) (st1 := []) (Int32.not_lt.mp hc) rfl ?_
    refine s_Fin.sg 3 (y := (23, [some (.ref 0), some (.int x1), some (.int x2), some (.int x3), some (.int x4), some (.int x5)], [.int x1, .ref 1], s_hg g)) rfl ?_
    obtain ⟨g1, hp, hB⟩ := s_bd hB
    refine s_Fin.cl (d := 0) (q1 := s_m16) (md := 16) (vs := [.ref 1, .int x1]) (rest := []) (h1 := s_hg g1) (u := none) (s_Ev.up (by omega) (fQ_putNumber_1_s hp)) rfl rfl rfl rfl ?_
    refine s_Fin.sg 3 (y := (31, [some (.ref 0), some (.int x1), some (.int x2), some (.int x3), some (.int x4), some (.int x5)], [.int x2, .ref 1], s_hg g1)) rfl ?_
    obtain ⟨g2, hp, hB⟩ := s_bd hB
    refine s_Fin.cl (d := 0) (q1 := s_m16) (md := 16) (vs := [.ref 1, .int x2]) (rest := []) (h1 := s_hg g2) (u := none) (s_Ev.up (by omega) (fQ_putNumber_1_s hp)) rfl rfl rfl rfl ?_
    refine s_Fin.sg 3 (y := (39, [some (.ref 0), some (.int x1), some (.int x2), some (.int x3), some (.int x4), some (.int x5)], [.int x3, .ref 1], s_hg g2)) rfl ?_
    obtain ⟨g3, hp, hB⟩ := s_bd hB
    refine s_Fin.cl (d := 0) (q1 := s_m16) (md := 16) (vs := [.ref 1, .int x3]) (rest := []) (h1 := s_hg g3) (u := none) (s_Ev.up (by omega) (fQ_putNumber_1_s hp)) rfl rfl rfl rfl ?_
    refine s_Fin.sg 3 (y := (48, [some (.ref 0), some (.int x1), some (.int x2), some (.int x3), some (.int x4), some (.int x5)], [.int x4, .ref 1], s_hg g3)) rfl ?_
    obtain ⟨g4, hp, hB⟩ := s_bd hB
    refine s_Fin.cl (d := 0) (q1 := s_m16) (md := 16) (vs := [.ref 1, .int x4]) (rest := []) (h1 := s_hg g4) (u := none) (s_Ev.up (by omega) (fQ_putNumber_1_s hp)) rfl rfl rfl rfl ?_
    refine s_Fin.sg 3 (y := (57, [some (.ref 0), some (.int x1), some (.int x2), some (.int x3), some (.int x4), some (.int x5)], [.int x5, .ref 1], s_hg g4)) rfl ?_
    obtain ⟨g5, hp, hB⟩ := s_bd hB
    refine s_Fin.cl (d := 0) (q1 := s_m16) (md := 16) (vs := [.ref 1, .int x5]) (rest := []) (h1 := s_hg g5) (u := none) (s_Ev.up (by omega) (fQ_putNumber_1_s hp)) rfl rfl rfl rfl ?_
    refine s_Fin.sg 3 (y := (67, [some (.ref 0), some (.int x1), some (.int x2), some (.int x3), some (.int x4), some (.int x5)], [.int (g5.1 1 1)], s_hg g5)) rfl ?_
    have hB := Option.some.inj hB
    subst hB
    obtain ⟨rfl, rfl⟩ := hr
    exact s_Fin.rt rfl rfl
-- CampAshesModel.end
noncomputable def fM_end_130 (x1 : Int32) (g : s_G) : Option (Int32 × s_G) :=
  if x1 < 0 then (some ((0 : Int32), (s_si g 130 0 (0 : Int32))))
  else if (g.1 130 2) < x1 then (some ((0 : Int32), (s_si g 130 0 (0 : Int32))))
  else some ((1 : Int32), (s_si (s_si g 130 0 (0 : Int32)) 130 2 x1))
theorem fM_end_130_s {x1 : Int32} {g : s_G} {z : Int32 × s_G} (hB : fM_end_130 x1 g = some z) : s_Ev 0 s_m159 [.ref 130, .int x1] (s_hg g) (some (.int z.1)) (s_hg z.2) := by
  unfold fM_end_130 at hB
  refine s_Ev.fin ((?_ : ∀ (v : Option Value) (h' : s_H), (fun (z : Int32 × s_G) (v : Option Value) (h' : s_H) => v = some (.int z.1) ∧ h' = s_hg z.2) z v h' → s_Fin 0 s_m159 (0, s_ent [.ref 130, .int x1] (s_m159).2.2.1, [], s_hg g) v h') _ _ ⟨rfl, rfl⟩)
  intro v h' hr
  refine (show s_Fin 0 s_m159 (0, [some (.ref 130), some (.int x1)], [], s_hg g) v h' from ?_)
  refine s_Fin.sg 4 (y := (6, [some (.ref 130), some (.int x1)], [.int x1], s_hg (s_si g 130 0 (0 : Int32)))) rfl ?_
  by_cases hc : x1 < 0
  · rw [if_pos hc] at hB
    refine s_Fin.bt (c := x1 < 0) (tg := 17) (p2 := 6) (L1 := [some (.ref 130), some (.int x1)]) (st1 := []) hc rfl ?_
    refine s_Fin.sg 1 (y := (18, [some (.ref 130), some (.int x1)], [.int (0 : Int32)], s_hg (s_si g 130 0 (0 : Int32)))) rfl ?_
    have hB := Option.some.inj hB
    subst hB
    obtain ⟨rfl, rfl⟩ := hr
    exact s_Fin.rt rfl rfl
  · rw [if_neg hc] at hB
    refine s_Fin.bf (c := x1 < 0) (tg := 17) (p2 := 6) (L1 := [some (.ref 130), some (.int x1)]) (st1 := []) hc rfl ?_
    refine s_Fin.sg 3 (y := (14, [some (.ref 130), some (.int x1)], [.int (g.1 130 2), .int x1], s_hg (s_si g 130 0 (0 : Int32)))) rfl ?_
    by_cases hc : (g.1 130 2) < x1
    · rw [if_pos hc] at hB
      refine s_Fin.bf (c := x1 ≤ (g.1 130 2)) (tg := 19) (p2 := 14) (L1 := [some (.ref 130), some (.int x1)]) (st1 := []) (Int32.not_le.mpr hc) rfl ?_
      refine s_Fin.sg 1 (y := (18, [some (.ref 130), some (.int x1)], [.int (0 : Int32)], s_hg (s_si g 130 0 (0 : Int32)))) rfl ?_
      have hB := Option.some.inj hB
      subst hB
      obtain ⟨rfl, rfl⟩ := hr
      exact s_Fin.rt rfl rfl
    · rw [if_neg hc] at hB
      refine s_Fin.bt (c := x1 ≤ (g.1 130 2)) (tg := 19) (p2 := 14) (L1 := [some (.ref 130), some (.int x1)]) (st1 := []) (Int32.not_lt.mp hc) rfl ?_
      refine s_Fin.sg 4 (y := (25, [some (.ref 130), some (.int x1)], [.int (1 : Int32)], s_hg (s_si (s_si g 130 0 (0 : Int32)) 130 2 x1))) rfl ?_
      have hB := Option.some.inj hB
      subst hB
      obtain ⟨rfl, rfl⟩ := hr
      exact s_Fin.rt rfl rfl
-- CampAshes.end
noncomputable def fC_end_0 (x1 : Int32) (g : s_G) : Option (Int32 × s_G) :=
  if x1 < 0 then (some ((0 : Int32), g))
  else if (g.1 1 1) < x1 then (some ((0 : Int32), g))
  else some ((1 : Int32), (s_si g 1 1 x1))
theorem fC_end_0_s {x1 : Int32} {g : s_G} {z : Int32 × s_G} (hB : fC_end_0 x1 g = some z) : s_Ev 0 s_m17 [.ref 0, .int x1] (s_hg g) (some (.int z.1)) (s_hg z.2) := by
  unfold fC_end_0 at hB
  refine s_Ev.fin ((?_ : ∀ (v : Option Value) (h' : s_H), (fun (z : Int32 × s_G) (v : Option Value) (h' : s_H) => v = some (.int z.1) ∧ h' = s_hg z.2) z v h' → s_Fin 0 s_m17 (0, s_ent [.ref 0, .int x1] (s_m17).2.2.1, [], s_hg g) v h') _ _ ⟨rfl, rfl⟩)
  intro v h' hr
  refine (show s_Fin 0 s_m17 (0, [some (.ref 0), some (.int x1)], [], s_hg g) v h' from ?_)
  refine s_Fin.sg 1 (y := (1, [some (.ref 0), some (.int x1)], [.int x1], s_hg g)) rfl ?_
  by_cases hc : x1 < 0
  · rw [if_pos hc] at hB
    refine s_Fin.bt (c := x1 < 0) (tg := 15) (p2 := 1) (L1 := [some (.ref 0), some (.int x1)]) (st1 := []) hc rfl ?_
    refine s_Fin.sg 1 (y := (16, [some (.ref 0), some (.int x1)], [.int (0 : Int32)], s_hg g)) rfl ?_
    have hB := Option.some.inj hB
    subst hB
    obtain ⟨rfl, rfl⟩ := hr
    exact s_Fin.rt rfl rfl
  · rw [if_neg hc] at hB
    refine s_Fin.bf (c := x1 < 0) (tg := 15) (p2 := 1) (L1 := [some (.ref 0), some (.int x1)]) (st1 := []) hc rfl ?_
    refine s_Fin.sg 4 (y := (12, [some (.ref 0), some (.int x1)], [.int (g.1 1 1), .int x1], s_hg g)) rfl ?_
    by_cases hc : (g.1 1 1) < x1
    · rw [if_pos hc] at hB
      refine s_Fin.bf (c := x1 ≤ (g.1 1 1)) (tg := 17) (p2 := 12) (L1 := [some (.ref 0), some (.int x1)]) (st1 := []) (Int32.not_le.mpr hc) rfl ?_
      refine s_Fin.sg 1 (y := (16, [some (.ref 0), some (.int x1)], [.int (0 : Int32)], s_hg g)) rfl ?_
      have hB := Option.some.inj hB
      subst hB
      obtain ⟨rfl, rfl⟩ := hr
      exact s_Fin.rt rfl rfl
    · rw [if_neg hc] at hB
      refine s_Fin.bt (c := x1 ≤ (g.1 1 1)) (tg := 17) (p2 := 12) (L1 := [some (.ref 0), some (.int x1)]) (st1 := []) (Int32.not_lt.mp hc) rfl ?_
      refine s_Fin.sg 5 (y := (26, [some (.ref 0), some (.int x1)], [.int (1 : Int32)], s_hg (s_si g 1 1 x1))) rfl ?_
      have hB := Option.some.inj hB
      subst hB
      obtain ⟨rfl, rfl⟩ := hr
      exact s_Fin.rt rfl rfl
-- CampAshesModel.take
noncomputable def fM_take_130 (g : s_G) : Option (Int32 × s_G) :=
  some (g.1 130 2, (s_si g 130 2 (0 : Int32)))
theorem fM_take_130_s {g : s_G} {z : Int32 × s_G} (hB : fM_take_130 g = some z) : s_Ev 0 s_m165 [.ref 130] (s_hg g) (some (.int z.1)) (s_hg z.2) := by
  unfold fM_take_130 at hB
  refine s_Ev.fin ((?_ : ∀ (v : Option Value) (h' : s_H), (fun (z : Int32 × s_G) (v : Option Value) (h' : s_H) => v = some (.int z.1) ∧ h' = s_hg z.2) z v h' → s_Fin 0 s_m165 (0, s_ent [.ref 130] (s_m165).2.2.1, [], s_hg g) v h') _ _ ⟨rfl, rfl⟩)
  intro v h' hr
  refine (show s_Fin 0 s_m165 (0, [some (.ref 130), none], [], s_hg g) v h' from ?_)
  refine s_Fin.sg 7 (y := (11, [some (.ref 130), some (.int (g.1 130 2))], [.int (g.1 130 2)], s_hg (s_si g 130 2 (0 : Int32)))) rfl ?_
  have hB := Option.some.inj hB
  subst hB
  obtain ⟨rfl, rfl⟩ := hr
  exact s_Fin.rt rfl rfl
-- CampAshesModel.isLetter
noncomputable def fM_isLetter_s (x0 : Int32) (g : s_G) : Option (Int32) :=
  if x0 < (97 : Int32) then (some (0 : Int32))
  else if (122 : Int32) < x0 then (some (0 : Int32))
  else some (1 : Int32)
theorem fM_isLetter_s_s {x0 : Int32} {g : s_G} {z : Int32} (hB : fM_isLetter_s x0 g = some z) : s_Ev 0 s_m167 [.int x0] (s_hg g) (some (.int z)) (s_hg g) := by
  unfold fM_isLetter_s at hB
  refine s_Ev.fin ((?_ : ∀ (v : Option Value) (h' : s_H), (fun (z : Int32) (v : Option Value) (h' : s_H) => v = some (.int z) ∧ h' = s_hg g) z v h' → s_Fin 0 s_m167 (0, s_ent [.int x0] (s_m167).2.2.1, [], s_hg g) v h') _ _ ⟨rfl, rfl⟩)
  intro v h' hr
  refine (show s_Fin 0 s_m167 (0, [some (.int x0)], [], s_hg g) v h' from ?_)
  refine s_Fin.sg 2 (y := (3, [some (.int x0)], [.int (97 : Int32), .int x0], s_hg g)) rfl ?_
  by_cases hc : x0 < (97 : Int32)
  · rw [if_pos hc] at hB
    refine s_Fin.bt (c := x0 < (97 : Int32)) (tg := 16) (p2 := 3) (L1 := [some (.int x0)]) (st1 := []) hc rfl ?_
    refine s_Fin.sg 1 (y := (17, [some (.int x0)], [.int (0 : Int32)], s_hg g)) rfl ?_
    have hB := Option.some.inj hB
    subst hB
    obtain ⟨rfl, rfl⟩ := hr
    exact s_Fin.rt rfl rfl
  · rw [if_neg hc] at hB
    refine s_Fin.bf (c := x0 < (97 : Int32)) (tg := 16) (p2 := 3) (L1 := [some (.int x0)]) (st1 := []) hc rfl ?_
    refine s_Fin.sg 2 (y := (9, [some (.int x0)], [.int (122 : Int32), .int x0], s_hg g)) rfl ?_
    by_cases hc : (122 : Int32) < x0
    · rw [if_pos hc] at hB
      refine s_Fin.bt (c := (122 : Int32) < x0) (tg := 16) (p2 := 9) (L1 := [some (.int x0)]) (st1 := []) hc rfl ?_
      refine s_Fin.sg 1 (y := (17, [some (.int x0)], [.int (0 : Int32)], s_hg g)) rfl ?_
      have hB := Option.some.inj hB
      subst hB
      obtain ⟨rfl, rfl⟩ := hr
      exact s_Fin.rt rfl rfl
    · rw [if_neg hc] at hB
      refine s_Fin.bf (c := (122 : Int32) < x0) (tg := 16) (p2 := 9) (L1 := [some (.int x0)]) (st1 := []) hc rfl ?_
      refine s_Fin.sg 2 (y := (17, [some (.int x0)], [.int (1 : Int32)], s_hg g)) rfl ?_
      have hB := Option.some.inj hB
      subst hB
      obtain ⟨rfl, rfl⟩ := hr
      exact s_Fin.rt rfl rfl
-- CampAshesModel.isDigit
noncomputable def fM_isDigit_s (x0 : Int32) (g : s_G) : Option (Int32) :=
  if x0 < (48 : Int32) then (some (0 : Int32))
  else if (57 : Int32) < x0 then (some (0 : Int32))
  else some (1 : Int32)
theorem fM_isDigit_s_s {x0 : Int32} {g : s_G} {z : Int32} (hB : fM_isDigit_s x0 g = some z) : s_Ev 0 s_m168 [.int x0] (s_hg g) (some (.int z)) (s_hg g) := by
  unfold fM_isDigit_s at hB
  refine s_Ev.fin ((?_ : ∀ (v : Option Value) (h' : s_H), (fun (z : Int32) (v : Option Value) (h' : s_H) => v = some (.int z) ∧ h' = s_hg g) z v h' → s_Fin 0 s_m168 (0, s_ent [.int x0] (s_m168).2.2.1, [], s_hg g) v h') _ _ ⟨rfl, rfl⟩)
  intro v h' hr
  refine (show s_Fin 0 s_m168 (0, [some (.int x0)], [], s_hg g) v h' from ?_)
  refine s_Fin.sg 2 (y := (3, [some (.int x0)], [.int (48 : Int32), .int x0], s_hg g)) rfl ?_
  by_cases hc : x0 < (48 : Int32)
  · rw [if_pos hc] at hB
    refine s_Fin.bt (c := x0 < (48 : Int32)) (tg := 16) (p2 := 3) (L1 := [some (.int x0)]) (st1 := []) hc rfl ?_
    refine s_Fin.sg 1 (y := (17, [some (.int x0)], [.int (0 : Int32)], s_hg g)) rfl ?_
    have hB := Option.some.inj hB
    subst hB
    obtain ⟨rfl, rfl⟩ := hr
    exact s_Fin.rt rfl rfl
  · rw [if_neg hc] at hB
    refine s_Fin.bf (c := x0 < (48 : Int32)) (tg := 16) (p2 := 3) (L1 := [some (.int x0)]) (st1 := []) hc rfl ?_
    refine s_Fin.sg 2 (y := (9, [some (.int x0)], [.int (57 : Int32), .int x0], s_hg g)) rfl ?_
    by_cases hc : (57 : Int32) < x0
    · rw [if_pos hc] at hB
      refine s_Fin.bt (c := (57 : Int32) < x0) (tg := 16) (p2 := 9) (L1 := [some (.int x0)]) (st1 := []) hc rfl ?_
      refine s_Fin.sg 1 (y := (17, [some (.int x0)], [.int (0 : Int32)], s_hg g)) rfl ?_
      have hB := Option.some.inj hB
      subst hB
      obtain ⟨rfl, rfl⟩ := hr
      exact s_Fin.rt rfl rfl
    · rw [if_neg hc] at hB
      refine s_Fin.bf (c := (57 : Int32) < x0) (tg := 16) (p2 := 9) (L1 := [some (.int x0)]) (st1 := []) hc rfl ?_
      refine s_Fin.sg 2 (y := (17, [some (.int x0)], [.int (1 : Int32)], s_hg g)) rfl ?_
      have hB := Option.some.inj hB
      subst hB
      obtain ⟨rfl, rfl⟩ := hr
      exact s_Fin.rt rfl rfl
-- CampAshesModel.tapeAt
noncomputable def fM_tapeAt_130 (x1 : Int32) (g : s_G) : Option (Int32) :=
  if x1 < (g.1 130 3) then (s_b1 (s_ix 940 x1) fun k2 => some (g.1 131 k2))
  else some (0 : Int32)
theorem fM_tapeAt_130_s {x1 : Int32} {g : s_G} {z : Int32} (hB : fM_tapeAt_130 x1 g = some z) : s_Ev 0 s_m169 [.ref 130, .int x1] (s_hg g) (some (.int z)) (s_hg g) := by
  unfold fM_tapeAt_130 at hB
  refine s_Ev.fin ((?_ : ∀ (v : Option Value) (h' : s_H), (fun (z : Int32) (v : Option Value) (h' : s_H) => v = some (.int z) ∧ h' = s_hg g) z v h' → s_Fin 0 s_m169 (0, s_ent [.ref 130, .int x1] (s_m169).2.2.1, [], s_hg g) v h') _ _ ⟨rfl, rfl⟩)
  intro v h' hr
  refine (show s_Fin 0 s_m169 (0, [some (.ref 130), some (.int x1)], [], s_hg g) v h' from ?_)
  refine s_Fin.sg 3 (y := (5, [some (.ref 130), some (.int x1)], [.int (g.1 130 3), .int x1], s_hg g)) rfl ?_
  by_cases hc : x1 < (g.1 130 3)
  · rw [if_pos hc] at hB
    refine s_Fin.bf (c := (g.1 130 3) ≤ x1) (tg := 17) (p2 := 5) (L1 := [some (.ref 130), some (.int x1)]) (st1 := []) (Int32.not_le.mpr hc) rfl ?_
    refine s_Fin.sg 3 (y := (13, [some (.ref 130), some (.int x1)], [.int x1, .ref 131], s_hg g)) rfl ?_
    obtain ⟨k2, hk2, hB⟩ := s_bd hB
    refine s_Fin.ix (n := 940) (i := x1) (pc1 := 14) (L1 := [some (.ref 130), some (.int x1)]) (fun j1 => [.int (g.1 131 j1)]) (fun j1 => s_hg g) hk2 rfl rfl ?_
    refine s_Fin.sg 1 (y := (18, [some (.ref 130), some (.int x1)], [.int (g.1 131 k2)], s_hg g)) rfl ?_
    have hB := Option.some.inj hB
    subst hB
    obtain ⟨rfl, rfl⟩ := hr
    exact s_Fin.rt rfl rfl
  · rw [if_neg hc] at hB
    refine s_Fin.bt (c := (g.1 130 3) ≤ x1) (tg := 17) (p2 := 5) (L1 := [some (.ref 130), some (.int x1)]) (st1 := []) (Int32.not_lt.mp hc) rfl ?_
    refine s_Fin.sg 1 (y := (18, [some (.ref 130), some (.int x1)], [.int (0 : Int32)], s_hg g)) rfl ?_
    have hB := Option.some.inj hB
    subst hB
    obtain ⟨rfl, rfl⟩ := hr
    exact s_Fin.rt rfl rfl
