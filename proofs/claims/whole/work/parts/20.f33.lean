-- CampAshes$Sentence.copyFrom
noncomputable def fS_copyFrom_117_27_2 (x2 : Int32) (g : s_G) : Option ((Int32 × s_G) ⊕ (s_G)) :=
  if x2 < (40 : Int32) then (s_b1 (s_ix 40 x2) fun k2 => if s_okw (g.2.2 28 k2) = true then s_b1 (s_ix 40 x2) fun k4 => some (.inl (x2 + (1 : Int32), (s_sr g 118 k4 (g.2.2 28 k2))))
  else none)
  else s_in (if (g.1 27 6) = 0 ∨ (g.1 27 6) = 1 then (some (s_si (s_si (s_si (s_ci (s_ci g 29 119 0 0 40) 30 120 0 0 40) 117 4 (g.1 27 4)) 117 5 (g.1 27 5)) 117 6 (g.1 27 6)))
  else none)
theorem fS_copyFrom_117_27_2_s {x2 : Int32} {g : s_G} {z : (Int32 × s_G) ⊕ (s_G)} (hB : fS_copyFrom_117_27_2 x2 g = some z) {v : Option Value} {h' : s_H} (hr : (s_sm (fun (x : Int32 × s_G) (v : Option Value) (h' : s_H) => s_Fin 0 s_m144 (2, [some (.ref 117), some (.ref 27), some (.int x.1)], [], s_hg x.2) v h') (fun (z : s_G) (v : Option Value) (h' : s_H) => v = none ∧ h' = s_hg z)) z v h') : s_Fin 0 s_m144 (2, [some (.ref 117), some (.ref 27), some (.int x2)], [], s_hg g) v h' := by
  unfold fS_copyFrom_117_27_2 at hB
  refine s_Fin.sg 2 (y := (5, [some (.ref 117), some (.ref 27), some (.int x2)], [.int (40 : Int32), .int x2], s_hg g)) rfl ?_
  by_cases hc : x2 < (40 : Int32)
  · rw [if_pos hc] at hB
    refine s_Fin.bf (c := (40 : Int32) ≤ x2) (tg := 26) (p2 := 5) (L1 := [some (.ref 117), some (.ref 27), some (.int x2)]) (st1 := []) (Int32.not_le.mpr hc) rfl ?_
    refine s_Fin.sg 6 (y := (18, [some (.ref 117), some (.ref 27), some (.int x2)], [.int x2, .ref 28, .int x2, .ref 118], s_hg g)) rfl ?_
    obtain ⟨k2, hk2, hB⟩ := s_bd hB
    refine s_Fin.ix (n := 40) (i := x2) (pc1 := 19) (L1 := [some (.ref 117), some (.ref 27), some (.int x2)]) (fun j1 => [va_rf (g.2.2 28 j1), .int x2, .ref 118]) (fun j1 => s_hg g) hk2 rfl rfl ?_
    have hw : s_okw (g.2.2 28 k2) = true := Classical.byContradiction fun h => (by rw [if_neg h] at hB; cases hB)
    rw [if_pos hw] at hB
    obtain ⟨k4, hk, hB⟩ := s_bd hB
    refine s_Fin.nx (pc1 := 20) (L1 := [some (.ref 117), some (.ref 27), some (.int x2)]) (st1 := []) (h1 := s_hg (s_sr g 118 k4 (g.2.2 28 k2))) ((show _ = s_aaw 118 40 20 [some (.ref 117), some (.ref 27), some (.int x2)] [] (s_hg g) x2 (va_rf (g.2.2 28 k2)) from rfl).trans (s_aaw_of (k := k4) rfl rfl hw hk (fun k => s_wR_hg rfl))) rfl ?_
    refine s_Fin.sg 2 (y := (2, [some (.ref 117), some (.ref 27), some (.int (x2 + (1 : Int32)))], [], s_hg (s_sr g 118 k4 (g.2.2 28 k2)))) rfl ?_
    have hB := Option.some.inj hB
    subst hB
    exact s_Fin.more (L := [some (.ref 117), some (.ref 27), some (.int (x2 + (1 : Int32)))]) ⟨Or.inr rfl, Or.inr rfl, Or.inr rfl, trivial⟩ hr
  · rw [if_neg hc] at hB
    refine s_Fin.bt (c := (40 : Int32) ≤ x2) (tg := 26) (p2 := 5) (L1 := [some (.ref 117), some (.ref 27), some (.int x2)]) (st1 := []) (Int32.not_lt.mp hc) rfl ?_
    obtain ⟨_, hN, hz⟩ := s_in_of hB
    subst hz
    have hB := hN
    refine s_Fin.sg 27 (y := (77, [some (.ref 117), some (.ref 27), some (.int x2)], [.int (g.1 27 6), .ref 117], s_hg (s_si (s_si (s_ci (s_ci g 29 119 0 0 40) 30 120 0 0 40) 117 4 (g.1 27 4)) 117 5 (g.1 27 5)))) rfl ?_
    have hc : (g.1 27 6) = 0 ∨ (g.1 27 6) = 1 := Classical.byContradiction fun h => (by rw [if_neg h] at hB; cases hB)
    rw [if_pos hc] at hB
    refine s_Fin.nx (pc1 := 80) (L1 := [some (.ref 117), some (.ref 27), some (.int x2)]) (st1 := []) (h1 := s_hg (s_si (s_si (s_si (s_ci (s_ci g 29 119 0 0 40) 30 120 0 0 40) 117 4 (g.1 27 4)) 117 5 (g.1 27 5)) 117 6 (g.1 27 6))) (by rcases hc with hc | hc <;> rw [hc] <;> exact rfl) rfl ?_
    have hB := Option.some.inj hB
    subst hB
    obtain ⟨rfl, rfl⟩ := hr
    exact s_Fin.rt rfl rfl
noncomputable def fS_copyFrom_117_27 (g : s_G) : Option (s_G) :=
  s_lp (fun x => fS_copyFrom_117_27_2 x.1 x.2) ((0 : Int32), g)
theorem fS_copyFrom_117_27_s {g : s_G} {z : s_G} (hB : fS_copyFrom_117_27 g = some z) : s_Ev 0 s_m144 [.ref 117, .ref 27] (s_hg g) (none) (s_hg z) := by
  unfold fS_copyFrom_117_27 at hB
  refine s_Ev.fin ((?_ : ∀ (v : Option Value) (h' : s_H), (fun (z : s_G) (v : Option Value) (h' : s_H) => v = none ∧ h' = s_hg z) z v h' → s_Fin 0 s_m144 (0, s_ent [.ref 117, .ref 27] (s_m144).2.2.1, [], s_hg g) v h') _ _ ⟨rfl, rfl⟩)
  intro v h' hr
  refine (show s_Fin 0 s_m144 (0, [some (.ref 117), some (.ref 27), none], [], s_hg g) v h' from ?_)
  refine s_Fin.sg 2 (y := (2, [some (.ref 117), some (.ref 27), some (.int (0 : Int32))], [], s_hg g)) rfl ?_
  exact s_Fin.more (L := [some (.ref 117), some (.ref 27), some (.int (0 : Int32))]) ⟨Or.inr rfl, Or.inr rfl, Or.inr rfl, trivial⟩ (s_lp_s (P := (fun (x : Int32 × s_G) (v : Option Value) (h' : s_H) => s_Fin 0 s_m144 (2, [some (.ref 117), some (.ref 27), some (.int x.1)], [], s_hg x.2) v h')) (Q := (fun (z : s_G) (v : Option Value) (h' : s_H) => v = none ∧ h' = s_hg z)) (fun x z hB v h' hr => fS_copyFrom_117_27_2_s hB hr) hB _ _ hr)
-- CampAshes$Image.keep
noncomputable def fI_keep_104_3_17_27 (g : s_G) : Option (s_G) :=
  s_b1 (fP_copyFrom_105_3 g) fun g1 => s_b1 (fT_copyFrom_112_17 g1) fun g2 => s_b1 (fS_copyFrom_117_27 g2) fun g3 => some (s_si g3 104 3 (1 : Int32))
theorem fI_keep_104_3_17_27_s {g : s_G} {z : s_G} (hB : fI_keep_104_3_17_27 g = some z) : s_Ev 1 s_m151 [.ref 104, .ref 3, .ref 17, .ref 27] (s_hg g) (none) (s_hg z) := by
  unfold fI_keep_104_3_17_27 at hB
  refine s_Ev.fin ((?_ : ∀ (v : Option Value) (h' : s_H), (fun (z : s_G) (v : Option Value) (h' : s_H) => v = none ∧ h' = s_hg z) z v h' → s_Fin 1 s_m151 (0, s_ent [.ref 104, .ref 3, .ref 17, .ref 27] (s_m151).2.2.1, [], s_hg g) v h') _ _ ⟨rfl, rfl⟩)
  intro v h' hr
  refine (show s_Fin 1 s_m151 (0, [some (.ref 104), some (.ref 3), some (.ref 17), some (.ref 27)], [], s_hg g) v h' from ?_)
  refine s_Fin.sg 3 (y := (5, [some (.ref 104), some (.ref 3), some (.ref 17), some (.ref 27)], [.ref 3, .ref 105], s_hg g)) rfl ?_
  obtain ⟨g1, hp, hB⟩ := s_bd hB
  refine s_Fin.cl (d := 0) (q1 := s_m43) (md := 43) (vs := [.ref 105, .ref 3]) (rest := []) (h1 := s_hg g1) (u := none) (s_Ev.up (by omega) (fP_copyFrom_105_3_s hp)) rfl rfl rfl rfl ?_
  refine s_Fin.sg 3 (y := (13, [some (.ref 104), some (.ref 3), some (.ref 17), some (.ref 27)], [.ref 17, .ref 112], s_hg g1)) rfl ?_
  obtain ⟨g2, hp, hB⟩ := s_bd hB
  refine s_Fin.cl (d := 0) (q1 := s_m62) (md := 62) (vs := [.ref 112, .ref 17]) (rest := []) (h1 := s_hg g2) (u := none) (s_Ev.up (by omega) (fT_copyFrom_112_17_s hp)) rfl rfl rfl rfl ?_
  refine s_Fin.sg 3 (y := (21, [some (.ref 104), some (.ref 3), some (.ref 17), some (.ref 27)], [.ref 27, .ref 117], s_hg g2)) rfl ?_
  obtain ⟨g3, hp, hB⟩ := s_bd hB
  refine s_Fin.cl (d := 0) (q1 := s_m144) (md := 144) (vs := [.ref 117, .ref 27]) (rest := []) (h1 := s_hg g3) (u := none) (s_Ev.up (by omega) (fS_copyFrom_117_27_s hp)) rfl rfl rfl rfl ?_
  refine s_Fin.sg 3 (y := (29, [some (.ref 104), some (.ref 3), some (.ref 17), some (.ref 27)], [], s_hg (s_si g3 104 3 (1 : Int32)))) rfl ?_
  have hB := Option.some.inj hB
  subst hB
  obtain ⟨rfl, rfl⟩ := hr
  exact s_Fin.rt rfl rfl
-- CampAshes.image
noncomputable def fC_image_0 (x1 : Int32) (g : s_G) : Option (Int32 × s_G) :=
  if x1 < 0 then (some ((0 : Int32), g))
  else if x1 < (2 : Int32) then (if x1 = 0 then (s_b1 (fI_keep_86_3_17_27 g) fun g1 => some ((1 : Int32), g1))
  else if x1 = 1 then (s_b1 (fI_keep_104_3_17_27 g) fun g2 => some ((1 : Int32), g2))
  else none)
  else some ((0 : Int32), g)
theorem fC_image_0_s {x1 : Int32} {g : s_G} {z : Int32 × s_G} (hB : fC_image_0 x1 g = some z) : s_Ev 2 s_m150 [.ref 0, .int x1] (s_hg g) (some (.int z.1)) (s_hg z.2) := by
  unfold fC_image_0 at hB
  refine s_Ev.fin ((?_ : ∀ (v : Option Value) (h' : s_H), (fun (z : Int32 × s_G) (v : Option Value) (h' : s_H) => v = some (.int z.1) ∧ h' = s_hg z.2) z v h' → s_Fin 2 s_m150 (0, s_ent [.ref 0, .int x1] (s_m150).2.2.1, [], s_hg g) v h') _ _ ⟨rfl, rfl⟩)
  intro v h' hr
  refine (show s_Fin 2 s_m150 (0, [some (.ref 0), some (.int x1)], [], s_hg g) v h' from ?_)
  refine s_Fin.sg 1 (y := (1, [some (.ref 0), some (.int x1)], [.int x1], s_hg g)) rfl ?_
  by_cases hc : x1 < 0
  · rw [if_pos hc] at hB
    refine s_Fin.bt (c := x1 < 0) (tg := 9) (p2 := 1) (L1 := [some (.ref 0), some (.int x1)]) (st1 := []) hc rfl ?_
    refine s_Fin.sg 1 (y := (10, [some (.ref 0), some (.int x1)], [.int (0 : Int32)], s_hg g)) rfl ?_
    have hB := Option.some.inj hB
    subst hB
    obtain ⟨rfl, rfl⟩ := hr
    exact s_Fin.rt rfl rfl
  · rw [if_neg hc] at hB
    refine s_Fin.bf (c := x1 < 0) (tg := 9) (p2 := 1) (L1 := [some (.ref 0), some (.int x1)]) (st1 := []) hc rfl ?_
    refine s_Fin.sg 2 (y := (6, [some (.ref 0), some (.int x1)], [.int (2 : Int32), .int x1], s_hg g)) rfl ?_
    by_cases hc : x1 < (2 : Int32)
    · rw [if_pos hc] at hB
      refine s_Fin.bt (c := x1 < (2 : Int32)) (tg := 11) (p2 := 6) (L1 := [some (.ref 0), some (.int x1)]) (st1 := []) hc rfl ?_
      refine s_Fin.sg 3 (y := (16, [some (.ref 0), some (.int x1)], [.int x1, .ref 85], s_hg g)) rfl ?_
      by_cases hc : x1 = 0
      · rw [if_pos hc] at hB
        refine s_Fin.nx (pc1 := 17) (L1 := [some (.ref 0), some (.int x1)]) (st1 := [.ref 86]) (h1 := s_hg g) (by rw [hc]; exact rfl) rfl ?_
        refine s_Fin.sg 6 (y := (29, [some (.ref 0), some (.int x1)], [.ref 27, .ref 17, .ref 3, .ref 86], s_hg g)) rfl ?_
        obtain ⟨g1, hp, hB⟩ := s_bd hB
        refine s_Fin.cl (d := 1) (q1 := s_m151) (md := 151) (vs := [.ref 86, .ref 3, .ref 17, .ref 27]) (rest := []) (h1 := s_hg g1) (u := none) (s_Ev.up (by omega) (fI_keep_86_3_17_27_s hp)) rfl rfl rfl rfl ?_
        refine s_Fin.sg 1 (y := (33, [some (.ref 0), some (.int x1)], [.int (1 : Int32)], s_hg g1)) rfl ?_
        have hB := Option.some.inj hB
        subst hB
        obtain ⟨rfl, rfl⟩ := hr
        exact s_Fin.rt rfl rfl
      rw [if_neg hc] at hB
      by_cases hc : x1 = 1
      · rw [if_pos hc] at hB
        refine s_Fin.nx (pc1 := 17) (L1 := [some (.ref 0), some (.int x1)]) (st1 := [.ref 104]) (h1 := s_hg g) (by rw [hc]; exact rfl) rfl ?_
        refine s_Fin.sg 6 (y := (29, [some (.ref 0), some (.int x1)], [.ref 27, .ref 17, .ref 3, .ref 104], s_hg g)) rfl ?_
        obtain ⟨g2, hp, hB⟩ := s_bd hB
        refine s_Fin.cl (d := 1) (q1 := s_m151) (md := 151) (vs := [.ref 104, .ref 3, .ref 17, .ref 27]) (rest := []) (h1 := s_hg g2) (u := none) (s_Ev.up (by omega) (fI_keep_104_3_17_27_s hp)) rfl rfl rfl rfl ?_
        refine s_Fin.sg 1 (y := (33, [some (.ref 0), some (.int x1)], [.int (1 : Int32)], s_hg g2)) rfl ?_
        have hB := Option.some.inj hB
        subst hB
        obtain ⟨rfl, rfl⟩ := hr
        exact s_Fin.rt rfl rfl
      rw [if_neg hc] at hB
      cases hB
    · rw [if_neg hc] at hB
      refine s_Fin.bf (c := x1 < (2 : Int32)) (tg := 11) (p2 := 6) (L1 := [some (.ref 0), some (.int x1)]) (st1 := []) hc rfl ?_
      refine s_Fin.sg 1 (y := (10, [some (.ref 0), some (.int x1)], [.int (0 : Int32)], s_hg g)) rfl ?_
      have hB := Option.some.inj hB
      subst hB
      obtain ⟨rfl, rfl⟩ := hr
      exact s_Fin.rt rfl rfl
-- CampAshesModel.restore
noncomputable def fM_restore_130_60 (x1 : Int32) (x2 : Int32) (g : s_G) : Option ((Int32 × s_G) ⊕ (Int32 × s_G)) :=
  if x2 < (17 : Int32) then (s_b1 (s_ix 34 (((17 : Int32) * x1) + x2)) fun k9 => s_b1 (s_ix 17 x2) fun k11 => some (.inl (x2 + (1 : Int32), (s_sl g 137 k11 (g.2.1 139 k9)))))
  else s_in (some ((1 : Int32), (s_si g 130 25 (0 : Int32))))
theorem fM_restore_130_60_s {x1 : Int32} {x2 : Int32} {g : s_G} {z : (Int32 × s_G) ⊕ (Int32 × s_G)} (hB : fM_restore_130_60 x1 x2 g = some z) {v : Option Value} {h' : s_H} (hr : (s_sm (fun (x : Int32 × s_G) (v : Option Value) (h' : s_H) => s_Fin 1 s_m280 (60, [some (.ref 130), some (.int x1), some (.int x.1)], [], s_hg x.2) v h') (fun (z : Int32 × s_G) (v : Option Value) (h' : s_H) => v = some (.int z.1) ∧ h' = s_hg z.2)) z v h') : s_Fin 1 s_m280 (60, [some (.ref 130), some (.int x1), some (.int x2)], [], s_hg g) v h' := by
  unfold fM_restore_130_60 at hB
  refine s_Fin.sg 2 (y := (63, [some (.ref 130), some (.int x1), some (.int x2)], [.int (17 : Int32), .int x2], s_hg g)) rfl ?_
  by_cases hc : x2 < (17 : Int32)
  · rw [if_pos hc] at hB
    refine s_Fin.bf (c := (17 : Int32) ≤ x2) (tg := 89) (p2 := 63) (L1 := [some (.ref 130), some (.int x1), some (.int x2)]) (st1 := []) (Int32.not_le.mpr hc) rfl ?_
    refine s_Fin.sg 10 (y := (81, [some (.ref 130), some (.int x1), some (.int x2)], [.int (((17 : Int32) * x1) + x2), .ref 139, .int x2, .ref 137], s_hg g)) rfl ?_
    obtain ⟨k9, hk9, hB⟩ := s_bd hB
    refine s_Fin.ix (n := 34) (i := ((17 : Int32) * x1) + x2) (pc1 := 82) (L1 := [some (.ref 130), some (.int x1), some (.int x2)]) (fun j8 => [.long (g.2.1 139 j8), .int x2, .ref 137]) (fun j8 => s_hg g) hk9 rfl rfl ?_
    obtain ⟨k11, hk11, hB⟩ := s_bd hB
    refine s_Fin.ix (n := 17) (i := x2) (pc1 := 83) (L1 := [some (.ref 130), some (.int x1), some (.int x2)]) (fun j10 => []) (fun j10 => s_hg (s_sl g 137 j10 (g.2.1 139 k9))) hk11 rfl rfl ?_
    refine s_Fin.sg 2 (y := (60, [some (.ref 130), some (.int x1), some (.int (x2 + (1 : Int32)))], [], s_hg (s_sl g 137 k11 (g.2.1 139 k9)))) rfl ?_
    have hB := Option.some.inj hB
    subst hB
    exact s_Fin.more (L := [some (.ref 130), some (.int x1), some (.int (x2 + (1 : Int32)))]) ⟨Or.inr rfl, Or.inr rfl, Or.inr rfl, trivial⟩ hr
  · rw [if_neg hc] at hB
    refine s_Fin.bt (c := (17 : Int32) ≤ x2) (tg := 89) (p2 := 63) (L1 := [some (.ref 130), some (.int x1), some (.int x2)]) (st1 := []) (Int32.not_lt.mp hc) rfl ?_
    obtain ⟨_, hN, hz⟩ := s_in_of hB
    subst hz
    have hB := hN
    refine s_Fin.sg 4 (y := (95, [some (.ref 130), some (.int x1), some (.int x2)], [.int (1 : Int32)], s_hg (s_si g 130 25 (0 : Int32)))) rfl ?_
    have hB := Option.some.inj hB
    subst hB
    obtain ⟨rfl, rfl⟩ := hr
    exact s_Fin.rt rfl rfl
noncomputable def fM_restore_130_27 (x1 : Int32) (x2 : Int32) (g : s_G) : Option ((Int32 × s_G) ⊕ (Int32 × s_G)) :=
  if x2 < (375 : Int32) then (s_b1 (s_ix 750 (((375 : Int32) * x1) + x2)) fun k5 => s_b1 (s_ix 375 x2) fun k7 => some (.inl (x2 + (1 : Int32), (s_si g 132 k7 (g.1 134 k5)))))
  else s_in (s_lp (fun x => fM_restore_130_60 x1 x.1 x.2) ((0 : Int32), g))
theorem fM_restore_130_27_s {x1 : Int32} {x2 : Int32} {g : s_G} {z : (Int32 × s_G) ⊕ (Int32 × s_G)} (hB : fM_restore_130_27 x1 x2 g = some z) {v : Option Value} {h' : s_H} (hr : (s_sm (fun (x : Int32 × s_G) (v : Option Value) (h' : s_H) => s_Fin 1 s_m280 (27, [some (.ref 130), some (.int x1), some (.int x.1)], [], s_hg x.2) v h') (fun (z : Int32 × s_G) (v : Option Value) (h' : s_H) => v = some (.int z.1) ∧ h' = s_hg z.2)) z v h') : s_Fin 1 s_m280 (27, [some (.ref 130), some (.int x1), some (.int x2)], [], s_hg g) v h' := by
  unfold fM_restore_130_27 at hB
  refine s_Fin.sg 2 (y := (31, [some (.ref 130), some (.int x1), some (.int x2)], [.int (375 : Int32), .int x2], s_hg g)) rfl ?_
  by_cases hc : x2 < (375 : Int32)
  · rw [if_pos hc] at hB
    refine s_Fin.bf (c := (375 : Int32) ≤ x2) (tg := 58) (p2 := 31) (L1 := [some (.ref 130), some (.int x1), some (.int x2)]) (st1 := []) (Int32.not_le.mpr hc) rfl ?_
    refine s_Fin.sg 10 (y := (50, [some (.ref 130), some (.int x1), some (.int x2)], [.int (((375 : Int32) * x1) + x2), .ref 134, .int x2, .ref 132], s_hg g)) rfl ?_
    obtain ⟨k5, hk5, hB⟩ := s_bd hB
    refine s_Fin.ix (n := 750) (i := ((375 : Int32) * x1) + x2) (pc1 := 51) (L1 := [some (.ref 130), some (.int x1), some (.int x2)]) (fun j4 => [.int (g.1 134 j4), .int x2, .ref 132]) (fun j4 => s_hg g) hk5 rfl rfl ?_
    obtain ⟨k7, hk7, hB⟩ := s_bd hB
    refine s_Fin.ix (n := 375) (i := x2) (pc1 := 52) (L1 := [some (.ref 130), some (.int x1), some (.int x2)]) (fun j6 => []) (fun j6 => s_hg (s_si g 132 j6 (g.1 134 k5))) hk7 rfl rfl ?_
    refine s_Fin.sg 2 (y := (27, [some (.ref 130), some (.int x1), some (.int (x2 + (1 : Int32)))], [], s_hg (s_si g 132 k7 (g.1 134 k5)))) rfl ?_
    have hB := Option.some.inj hB
    subst hB
    exact s_Fin.more (L := [some (.ref 130), some (.int x1), some (.int (x2 + (1 : Int32)))]) ⟨Or.inr rfl, Or.inr rfl, Or.inr rfl, trivial⟩ hr
  · rw [if_neg hc] at hB
    refine s_Fin.bt (c := (375 : Int32) ≤ x2) (tg := 58) (p2 := 31) (L1 := [some (.ref 130), some (.int x1), some (.int x2)]) (st1 := []) (Int32.not_lt.mp hc) rfl ?_
    obtain ⟨_, hN, hz⟩ := s_in_of hB
    subst hz
    have hB := hN
    refine s_Fin.sg 2 (y := (60, [some (.ref 130), some (.int x1), some (.int (0 : Int32))], [], s_hg g)) rfl ?_
    exact s_Fin.more (L := [some (.ref 130), some (.int x1), some (.int (0 : Int32))]) ⟨Or.inr rfl, Or.inr rfl, Or.inr rfl, trivial⟩ (s_lp_s (P := (fun (x : Int32 × s_G) (v : Option Value) (h' : s_H) => s_Fin 1 s_m280 (60, [some (.ref 130), some (.int x1), some (.int x.1)], [], s_hg x.2) v h')) (Q := (fun (z : Int32 × s_G) (v : Option Value) (h' : s_H) => v = some (.int z.1) ∧ h' = s_hg z.2)) (fun x z hB v h' hr => fM_restore_130_60_s hB hr) hB _ _ hr)
noncomputable def fM_restore_130 (x1 : Int32) (g : s_G) : Option (Int32 × s_G) :=
  s_b1 (fM_isIn_s x1 (0 : Int32) (1 : Int32) (s_si g 130 0 (0 : Int32))) fun v1 => if v1 = 0 then (some ((0 : Int32), (s_si g 130 0 (0 : Int32))))
  else s_b1 (s_ix 2 x1) fun k3 => if (g.1 140 k3) = 0 then (some ((0 : Int32), (s_si g 130 0 (0 : Int32))))
  else s_lp (fun x => fM_restore_130_27 x1 x.1 x.2) ((0 : Int32), (s_si g 130 0 (0 : Int32)))
theorem fM_restore_130_s {x1 : Int32} {g : s_G} {z : Int32 × s_G} (hB : fM_restore_130 x1 g = some z) : s_Ev 1 s_m280 [.ref 130, .int x1] (s_hg g) (some (.int z.1)) (s_hg z.2) := by
  unfold fM_restore_130 at hB
  refine s_Ev.fin ((?_ : ∀ (v : Option Value) (h' : s_H), (fun (z : Int32 × s_G) (v : Option Value) (h' : s_H) => v = some (.int z.1) ∧ h' = s_hg z.2) z v h' → s_Fin 1 s_m280 (0, s_ent [.ref 130, .int x1] (s_m280).2.2.1, [], s_hg g) v h') _ _ ⟨rfl, rfl⟩)
  intro v h' hr
  refine (show s_Fin 1 s_m280 (0, [some (.ref 130), some (.int x1), none], [], s_hg g) v h' from ?_)
  refine s_Fin.sg 6 (y := (8, [some (.ref 130), some (.int x1), none], [.int (1 : Int32), .int (0 : Int32), .int x1], s_hg (s_si g 130 0 (0 : Int32)))) rfl ?_
  obtain ⟨v1, hp, hB⟩ := s_bd hB
  refine s_Fin.cl (d := 0) (q1 := s_m181) (md := 181) (vs := [.int x1, .int (0 : Int32), .int (1 : Int32)]) (rest := []) (h1 := s_hg (s_si g 130 0 (0 : Int32))) (u := some (.int v1)) (s_Ev.up (by omega) (fM_isIn_s_s hp)) rfl rfl rfl rfl ?_
  by_cases hc : v1 = 0
  · rw [if_pos hc] at hB
    refine s_Fin.bt (c := v1 = 0) (tg := 23) (p2 := 11) (L1 := [some (.ref 130), some (.int x1), none]) (st1 := []) hc rfl ?_
    refine s_Fin.sg 1 (y := (24, [some (.ref 130), some (.int x1), none], [.int (0 : Int32)], s_hg (s_si g 130 0 (0 : Int32)))) rfl ?_
    have hB := Option.some.inj hB
    subst hB
    obtain ⟨rfl, rfl⟩ := hr
    exact s_Fin.rt rfl rfl
  · rw [if_neg hc] at hB
    refine s_Fin.bf (c := v1 = 0) (tg := 23) (p2 := 11) (L1 := [some (.ref 130), some (.int x1), none]) (st1 := []) hc rfl ?_
    refine s_Fin.sg 3 (y := (19, [some (.ref 130), some (.int x1), none], [.int x1, .ref 140], s_hg (s_si g 130 0 (0 : Int32)))) rfl ?_
    obtain ⟨k3, hk3, hB⟩ := s_bd hB
    refine s_Fin.ix (n := 2) (i := x1) (pc1 := 20) (L1 := [some (.ref 130), some (.int x1), none]) (fun j2 => [.int (g.1 140 j2)]) (fun j2 => s_hg (s_si g 130 0 (0 : Int32))) hk3 rfl rfl ?_
    by_cases hc : (g.1 140 k3) = 0
    · rw [if_pos hc] at hB
      refine s_Fin.bf (c := ¬ (g.1 140 k3) = 0) (tg := 25) (p2 := 20) (L1 := [some (.ref 130), some (.int x1), none]) (st1 := []) (fun h => h hc) rfl ?_
      refine s_Fin.sg 1 (y := (24, [some (.ref 130), some (.int x1), none], [.int (0 : Int32)], s_hg (s_si g 130 0 (0 : Int32)))) rfl ?_
      have hB := Option.some.inj hB
      subst hB
      obtain ⟨rfl, rfl⟩ := hr
      exact s_Fin.rt rfl rfl
    · rw [if_neg hc] at hB
      refine s_Fin.bt (c := ¬ (g.1 140 k3) = 0) (tg := 25) (p2 := 20) (L1 := [some (.ref 130), some (.int x1), none]) (st1 := []) hc rfl ?_
      refine s_Fin.sg 2 (y := (27, [some (.ref 130), some (.int x1), some (.int (0 : Int32))], [], s_hg (s_si g 130 0 (0 : Int32)))) rfl ?_
      exact s_Fin.more (L := [some (.ref 130), some (.int x1), some (.int (0 : Int32))]) ⟨Or.inr rfl, Or.inr rfl, Or.inr rfl, trivial⟩ (s_lp_s (P := (fun (x : Int32 × s_G) (v : Option Value) (h' : s_H) => s_Fin 1 s_m280 (27, [some (.ref 130), some (.int x1), some (.int x.1)], [], s_hg x.2) v h')) (Q := (fun (z : Int32 × s_G) (v : Option Value) (h' : s_H) => v = some (.int z.1) ∧ h' = s_hg z.2)) (fun x z hB v h' hr => fM_restore_130_27_s hB hr) hB _ _ hr)
-- CampAshes$Camp.copyFrom
noncomputable def fP_copyFrom_3_87 (g : s_G) : Option (s_G) :=
  some (s_si (s_si (s_si (s_si (s_ci (s_ci (s_ci (s_ci (s_ci (s_cL (s_si (s_si g 3 0 (g.1 87 0)) 3 1 (g.1 87 1)) 88 4 0 0 17) 89 5 0 0 7) 90 6 0 0 10) 91 7 0 0 10) 92 8 0 0 10) 93 9 0 0 4) 3 8 (g.1 87 8)) 3 9 (g.1 87 9)) 3 10 (g.1 87 10)) 3 11 (g.1 87 11))
theorem fP_copyFrom_3_87_s {g : s_G} {z : s_G} (hB : fP_copyFrom_3_87 g = some z) : s_Ev 0 s_m43 [.ref 3, .ref 87] (s_hg g) (none) (s_hg z) := by
  unfold fP_copyFrom_3_87 at hB
  refine s_Ev.fin ((?_ : ∀ (v : Option Value) (h' : s_H), (fun (z : s_G) (v : Option Value) (h' : s_H) => v = none ∧ h' = s_hg z) z v h' → s_Fin 0 s_m43 (0, s_ent [.ref 3, .ref 87] (s_m43).2.2.1, [], s_hg g) v h') _ _ ⟨rfl, rfl⟩)
  intro v h' hr
  refine (show s_Fin 0 s_m43 (0, [some (.ref 3), some (.ref 87)], [], s_hg g) v h' from ?_)
  refine s_Fin.sg 72 (y := (137, [some (.ref 3), some (.ref 87)], [], s_hg (s_si (s_si (s_si (s_si (s_ci (s_ci (s_ci (s_ci (s_ci (s_cL (s_si (s_si g 3 0 (g.1 87 0)) 3 1 (g.1 87 1)) 88 4 0 0 17) 89 5 0 0 7) 90 6 0 0 10) 91 7 0 0 10) 92 8 0 0 10) 93 9 0 0 4) 3 8 (g.1 87 8)) 3 9 (g.1 87 9)) 3 10 (g.1 87 10)) 3 11 (g.1 87 11)))) rfl ?_
  have hB := Option.some.inj hB
  subst hB
  obtain ⟨rfl, rfl⟩ := hr
  exact s_Fin.rt rfl rfl
-- CampAshes$State.copyFrom
noncomputable def fT_copyFrom_17_94 (g : s_G) : Option (s_G) :=
  some (s_si (s_si (s_si (s_si (s_si (s_ci (s_ci (s_ci (s_ci g 95 18 0 0 70) 96 19 0 0 7) 97 20 0 0 4) 98 21 0 0 7) 17 5 (g.1 94 5)) 17 6 (g.1 94 6)) 17 7 (g.1 94 7)) 17 8 (g.1 94 8)) 17 9 (g.1 94 9))
theorem fT_copyFrom_17_94_s {g : s_G} {z : s_G} (hB : fT_copyFrom_17_94 g = some z) : s_Ev 0 s_m62 [.ref 17, .ref 94] (s_hg g) (none) (s_hg z) := by
  unfold fT_copyFrom_17_94 at hB
  refine s_Ev.fin ((?_ : ∀ (v : Option Value) (h' : s_H), (fun (z : s_G) (v : Option Value) (h' : s_H) => v = none ∧ h' = s_hg z) z v h' → s_Fin 0 s_m62 (0, s_ent [.ref 17, .ref 94] (s_m62).2.2.1, [], s_hg g) v h') _ _ ⟨rfl, rfl⟩)
  intro v h' hr
  refine (show s_Fin 0 s_m62 (0, [some (.ref 17), some (.ref 94)], [], s_hg g) v h' from ?_)
  refine s_Fin.sg 52 (y := (99, [some (.ref 17), some (.ref 94)], [], s_hg (s_si (s_si (s_si (s_si (s_si (s_ci (s_ci (s_ci (s_ci g 95 18 0 0 70) 96 19 0 0 7) 97 20 0 0 4) 98 21 0 0 7) 17 5 (g.1 94 5)) 17 6 (g.1 94 6)) 17 7 (g.1 94 7)) 17 8 (g.1 94 8)) 17 9 (g.1 94 9)))) rfl ?_
  have hB := Option.some.inj hB
  subst hB
  obtain ⟨rfl, rfl⟩ := hr
  exact s_Fin.rt rfl rfl
-- CampAshes$Sentence.copyFrom
noncomputable def fS_copyFrom_27_99_2 (x2 : Int32) (g : s_G) : Option ((Int32 × s_G) ⊕ (s_G)) :=
  if x2 < (40 : Int32) then (s_b1 (s_ix 40 x2) fun k2 => if s_okw (g.2.2 100 k2) = true then s_b1 (s_ix 40 x2) fun k4 => some (.inl (x2 + (1 : Int32), (s_sr g 28 k4 (g.2.2 100 k2))))
  else none)
  else s_in (if (g.1 99 6) = 0 ∨ (g.1 99 6) = 1 then (some (s_si (s_si (s_si (s_ci (s_ci g 101 29 0 0 40) 102 30 0 0 40) 27 4 (g.1 99 4)) 27 5 (g.1 99 5)) 27 6 (g.1 99 6)))
  else none)
theorem fS_copyFrom_27_99_2_s {x2 : Int32} {g : s_G} {z : (Int32 × s_G) ⊕ (s_G)} (hB : fS_copyFrom_27_99_2 x2 g = some z) {v : Option Value} {h' : s_H} (hr : (s_sm (fun (x : Int32 × s_G) (v : Option Value) (h' : s_H) => s_Fin 0 s_m144 (2, [some (.ref 27), some (.ref 99), some (.int x.1)], [], s_hg x.2) v h') (fun (z : s_G) (v : Option Value) (h' : s_H) => v = none ∧ h' = s_hg z)) z v h') : s_Fin 0 s_m144 (2, [some (.ref 27), some (.ref 99), some (.int x2)], [], s_hg g) v h' := by
  unfold fS_copyFrom_27_99_2 at hB
  refine s_Fin.sg 2 (y := (5, [some (.ref 27), some (.ref 99), some (.int x2)], [.int (40 : Int32), .int x2], s_hg g)) rfl ?_
  by_cases hc : x2 < (40 : Int32)
  · rw [if_pos hc] at hB
    refine s_Fin.bf (c := (40 : Int32) ≤ x2) (tg := 26) (p2 := 5) (L1 := [some (.ref 27), some (.ref 99), some (.int x2)]) (st1 := []) (Int32.not_le.mpr hc) rfl ?_
    refine s_Fin.sg 6 (y := (18, [some (.ref 27), some (.ref 99), some (.int x2)], [.int x2, .ref 100, .int x2, .ref 28], s_hg g)) rfl ?_
    obtain ⟨k2, hk2, hB⟩ := s_bd hB
    refine s_Fin.ix (n := 40) (i := x2) (pc1 := 19) (L1 := [some (.ref 27), some (.ref 99), some (.int x2)]) (fun j1 => [va_rf (g.2.2 100 j1), .int x2, .ref 28]) (fun j1 => s_hg g) hk2 rfl rfl ?_
    have hw : s_okw (g.2.2 100 k2) = true := Classical.byContradiction fun h => (by rw [if_neg h] at hB; cases hB)
    rw [if_pos hw] at hB
    obtain ⟨k4, hk, hB⟩ := s_bd hB
    refine s_Fin.nx (pc1 := 20) (L1 := [some (.ref 27), some (.ref 99), some (.int x2)]) (st1 := []) (h1 := s_hg (s_sr g 28 k4 (g.2.2 100 k2))) ((show _ = s_aaw 28 40 20 [some (.ref 27), some (.ref 99), some (.int x2)] [] (s_hg g) x2 (va_rf (g.2.2 100 k2)) from rfl).trans (s_aaw_of (k := k4) rfl rfl hw hk (fun k => s_wR_hg rfl))) rfl ?_
    refine s_Fin.sg 2 (y := (2, [some (.ref 27), some (.ref 99), some (.int (x2 + (1 : Int32)))], [], s_hg (s_sr g 28 k4 (g.2.2 100 k2)))) rfl ?_
    have hB := Option.some.inj hB
    subst hB
    exact s_Fin.more (L := [some (.ref 27), some (.ref 99), some (.int (x2 + (1 : Int32)))]) ⟨Or.inr rfl, Or.inr rfl, Or.inr rfl, trivial⟩ hr
  · rw [if_neg hc] at hB
    refine s_Fin.bt (c := (40 : Int32) ≤ x2) (tg := 26) (p2 := 5) (L1 := [some (.ref 27), some (.ref 99), some (.int x2)]) (st1 := []) (Int32.not_lt.mp hc) rfl ?_
    obtain ⟨_, hN, hz⟩ := s_in_of hB
    subst hz
    have hB := hN
    refine s_Fin.sg 27 (y := (77, [some (.ref 27), some (.ref 99), some (.int x2)], [.int (g.1 99 6), .ref 27], s_hg (s_si (s_si (s_ci (s_ci g 101 29 0 0 40) 102 30 0 0 40) 27 4 (g.1 99 4)) 27 5 (g.1 99 5)))) rfl ?_
    have hc : (g.1 99 6) = 0 ∨ (g.1 99 6) = 1 := Classical.byContradiction fun h => (by rw [if_neg h] at hB; cases hB)
    rw [if_pos hc] at hB
    refine s_Fin.nx (pc1 := 80) (L1 := [some (.ref 27), some (.ref 99), some (.int x2)]) (st1 := []) (h1 := s_hg (s_si (s_si (s_si (s_ci (s_ci g 101 29 0 0 40) 102 30 0 0 40) 27 4 (g.1 99 4)) 27 5 (g.1 99 5)) 27 6 (g.1 99 6))) (by rcases hc with hc | hc <;> rw [hc] <;> exact rfl) rfl ?_
    have hB := Option.some.inj hB
    subst hB
    obtain ⟨rfl, rfl⟩ := hr
    exact s_Fin.rt rfl rfl
noncomputable def fS_copyFrom_27_99 (g : s_G) : Option (s_G) :=
  s_lp (fun x => fS_copyFrom_27_99_2 x.1 x.2) ((0 : Int32), g)
theorem fS_copyFrom_27_99_s {g : s_G} {z : s_G} (hB : fS_copyFrom_27_99 g = some z) : s_Ev 0 s_m144 [.ref 27, .ref 99] (s_hg g) (none) (s_hg z) := by
  unfold fS_copyFrom_27_99 at hB
  refine s_Ev.fin ((?_ : ∀ (v : Option Value) (h' : s_H), (fun (z : s_G) (v : Option Value) (h' : s_H) => v = none ∧ h' = s_hg z) z v h' → s_Fin 0 s_m144 (0, s_ent [.ref 27, .ref 99] (s_m144).2.2.1, [], s_hg g) v h') _ _ ⟨rfl, rfl⟩)
  intro v h' hr
  refine (show s_Fin 0 s_m144 (0, [some (.ref 27), some (.ref 99), none], [], s_hg g) v h' from ?_)
  refine s_Fin.sg 2 (y := (2, [some (.ref 27), some (.ref 99), some (.int (0 : Int32))], [], s_hg g)) rfl ?_
  exact s_Fin.more (L := [some (.ref 27), some (.ref 99), some (.int (0 : Int32))]) ⟨Or.inr rfl, Or.inr rfl, Or.inr rfl, trivial⟩ (s_lp_s (P := (fun (x : Int32 × s_G) (v : Option Value) (h' : s_H) => s_Fin 0 s_m144 (2, [some (.ref 27), some (.ref 99), some (.int x.1)], [], s_hg x.2) v h')) (Q := (fun (z : s_G) (v : Option Value) (h' : s_H) => v = none ∧ h' = s_hg z)) (fun x z hB v h' hr => fS_copyFrom_27_99_2_s hB hr) hB _ _ hr)
-- CampAshes$Image.giveBack
noncomputable def fI_giveBack_86_3_17_27 (g : s_G) : Option (s_G) :=
  s_b1 (fP_copyFrom_3_87 g) fun g1 => s_b1 (fT_copyFrom_17_94 g1) fun g2 => s_b1 (fS_copyFrom_27_99 g2) fun g3 => some g3
theorem fI_giveBack_86_3_17_27_s {g : s_G} {z : s_G} (hB : fI_giveBack_86_3_17_27 g = some z) : s_Ev 1 s_m153 [.ref 86, .ref 3, .ref 17, .ref 27] (s_hg g) (none) (s_hg z) := by
  unfold fI_giveBack_86_3_17_27 at hB
  refine s_Ev.fin ((?_ : ∀ (v : Option Value) (h' : s_H), (fun (z : s_G) (v : Option Value) (h' : s_H) => v = none ∧ h' = s_hg z) z v h' → s_Fin 1 s_m153 (0, s_ent [.ref 86, .ref 3, .ref 17, .ref 27] (s_m153).2.2.1, [], s_hg g) v h') _ _ ⟨rfl, rfl⟩)
  intro v h' hr
  refine (show s_Fin 1 s_m153 (0, [some (.ref 86), some (.ref 3), some (.ref 17), some (.ref 27)], [], s_hg g) v h' from ?_)
  refine s_Fin.sg 3 (y := (5, [some (.ref 86), some (.ref 3), some (.ref 17), some (.ref 27)], [.ref 87, .ref 3], s_hg g)) rfl ?_
  obtain ⟨g1, hp, hB⟩ := s_bd hB
  refine s_Fin.cl (d := 0) (q1 := s_m43) (md := 43) (vs := [.ref 3, .ref 87]) (rest := []) (h1 := s_hg g1) (u := none) (s_Ev.up (by omega) (fP_copyFrom_3_87_s hp)) rfl rfl rfl rfl ?_
  refine s_Fin.sg 3 (y := (13, [some (.ref 86), some (.ref 3), some (.ref 17), some (.ref 27)], [.ref 94, .ref 17], s_hg g1)) rfl ?_
  obtain ⟨g2, hp, hB⟩ := s_bd hB
  refine s_Fin.cl (d := 0) (q1 := s_m62) (md := 62) (vs := [.ref 17, .ref 94]) (rest := []) (h1 := s_hg g2) (u := none) (s_Ev.up (by omega) (fT_copyFrom_17_94_s hp)) rfl rfl rfl rfl ?_
  refine s_Fin.sg 3 (y := (21, [some (.ref 86), some (.ref 3), some (.ref 17), some (.ref 27)], [.ref 99, .ref 27], s_hg g2)) rfl ?_
  obtain ⟨g3, hp, hB⟩ := s_bd hB
  refine s_Fin.cl (d := 0) (q1 := s_m144) (md := 144) (vs := [.ref 27, .ref 99]) (rest := []) (h1 := s_hg g3) (u := none) (s_Ev.up (by omega) (fS_copyFrom_27_99_s hp)) rfl rfl rfl rfl ?_
  have hB := Option.some.inj hB
  subst hB
  obtain ⟨rfl, rfl⟩ := hr
  exact s_Fin.rt rfl rfl
-- CampAshes$Camp.copyFrom
noncomputable def fP_copyFrom_3_105 (g : s_G) : Option (s_G) :=
  some (s_si (s_si (s_si (s_si (s_ci (s_ci (s_ci (s_ci (s_ci (s_cL (s_si (s_si g 3 0 (g.1 105 0)) 3 1 (g.1 105 1)) 106 4 0 0 17) 107 5 0 0 7) 108 6 0 0 10) 109 7 0 0 10) 110 8 0 0 10) 111 9 0 0 4) 3 8 (g.1 105 8)) 3 9 (g.1 105 9)) 3 10 (g.1 105 10)) 3 11 (g.1 105 11))
theorem fP_copyFrom_3_105_s {g : s_G} {z : s_G} (hB : fP_copyFrom_3_105 g = some z) : s_Ev 0 s_m43 [.ref 3, .ref 105] (s_hg g) (none) (s_hg z) := by
  unfold fP_copyFrom_3_105 at hB
  refine s_Ev.fin ((?_ : ∀ (v : Option Value) (h' : s_H), (fun (z : s_G) (v : Option Value) (h' : s_H) => v = none ∧ h' = s_hg z) z v h' → s_Fin 0 s_m43 (0, s_ent [.ref 3, .ref 105] (s_m43).2.2.1, [], s_hg g) v h') _ _ ⟨rfl, rfl⟩)
  intro v h' hr
  refine (show s_Fin 0 s_m43 (0, [some (.ref 3), some (.ref 105)], [], s_hg g) v h' from ?_)
  refine s_Fin.sg 72 (y := (137, [some (.ref 3), some (.ref 105)], [], s_hg (s_si (s_si (s_si (s_si (s_ci (s_ci (s_ci (s_ci (s_ci (s_cL (s_si (s_si g 3 0 (g.1 105 0)) 3 1 (g.1 105 1)) 106 4 0 0 17) 107 5 0 0 7) 108 6 0 0 10) 109 7 0 0 10) 110 8 0 0 10) 111 9 0 0 4) 3 8 (g.1 105 8)) 3 9 (g.1 105 9)) 3 10 (g.1 105 10)) 3 11 (g.1 105 11)))) rfl ?_
  have hB := Option.some.inj hB
  subst hB
  obtain ⟨rfl, rfl⟩ := hr
  exact s_Fin.rt rfl rfl
-- CampAshes$State.copyFrom
noncomputable def fT_copyFrom_17_112 (g : s_G) : Option (s_G) :=
  some (s_si (s_si (s_si (s_si (s_si (s_ci (s_ci (s_ci (s_ci g 113 18 0 0 70) 114 19 0 0 7) 115 20 0 0 4) 116 21 0 0 7) 17 5 (g.1 112 5)) 17 6 (g.1 112 6)) 17 7 (g.1 112 7)) 17 8 (g.1 112 8)) 17 9 (g.1 112 9))
theorem fT_copyFrom_17_112_s {g : s_G} {z : s_G} (hB : fT_copyFrom_17_112 g = some z) : s_Ev 0 s_m62 [.ref 17, .ref 112] (s_hg g) (none) (s_hg z) := by
  unfold fT_copyFrom_17_112 at hB
  refine s_Ev.fin ((?_ : ∀ (v : Option Value) (h' : s_H), (fun (z : s_G) (v : Option Value) (h' : s_H) => v = none ∧ h' = s_hg z) z v h' → s_Fin 0 s_m62 (0, s_ent [.ref 17, .ref 112] (s_m62).2.2.1, [], s_hg g) v h') _ _ ⟨rfl, rfl⟩)
  intro v h' hr
  refine (show s_Fin 0 s_m62 (0, [some (.ref 17), some (.ref 112)], [], s_hg g) v h' from ?_)
  refine s_Fin.sg 52 (y := (99, [some (.ref 17), some (.ref 112)], [], s_hg (s_si (s_si (s_si (s_si (s_si (s_ci (s_ci (s_ci (s_ci g 113 18 0 0 70) 114 19 0 0 7) 115 20 0 0 4) 116 21 0 0 7) 17 5 (g.1 112 5)) 17 6 (g.1 112 6)) 17 7 (g.1 112 7)) 17 8 (g.1 112 8)) 17 9 (g.1 112 9)))) rfl ?_
  have hB := Option.some.inj hB
  subst hB
  obtain ⟨rfl, rfl⟩ := hr
  exact s_Fin.rt rfl rfl
-- CampAshes$Sentence.copyFrom
noncomputable def fS_copyFrom_27_117_2 (x2 : Int32) (g : s_G) : Option ((Int32 × s_G) ⊕ (s_G)) :=
  if x2 < (40 : Int32) then (s_b1 (s_ix 40 x2) fun k2 => if s_okw (g.2.2 118 k2) = true then s_b1 (s_ix 40 x2) fun k4 => some (.inl (x2 + (1 : Int32), (s_sr g 28 k4 (g.2.2 118 k2))))
  else none)
  else s_in (if (g.1 117 6) = 0 ∨ (g.1 117 6) = 1 then (some (s_si (s_si (s_si (s_ci (s_ci g 119 29 0 0 40) 120 30 0 0 40) 27 4 (g.1 117 4)) 27 5 (g.1 117 5)) 27 6 (g.1 117 6)))
  else none)
theorem fS_copyFrom_27_117_2_s {x2 : Int32} {g : s_G} {z : (Int32 × s_G) ⊕ (s_G)} (hB : fS_copyFrom_27_117_2 x2 g = some z) {v : Option Value} {h' : s_H} (hr : (s_sm (fun (x : Int32 × s_G) (v : Option Value) (h' : s_H) => s_Fin 0 s_m144 (2, [some (.ref 27), some (.ref 117), some (.int x.1)], [], s_hg x.2) v h') (fun (z : s_G) (v : Option Value) (h' : s_H) => v = none ∧ h' = s_hg z)) z v h') : s_Fin 0 s_m144 (2, [some (.ref 27), some (.ref 117), some (.int x2)], [], s_hg g) v h' := by
  unfold fS_copyFrom_27_117_2 at hB
  refine s_Fin.sg 2 (y := (5, [some (.ref 27), some (.ref 117), some (.int x2)], [.int (40 : Int32), .int x2], s_hg g)) rfl ?_
  by_cases hc : x2 < (40 : Int32)
  · rw [if_pos hc] at hB
    refine s_Fin.bf (c := (40 : Int32) ≤ x2) (tg := 26) (p2 := 5) (L1 := [some (.ref 27), some (.ref 117), some (.int x2)]) (st1 := []) (Int32.not_le.mpr hc) rfl ?_
    refine s_Fin.sg 6 (y := (18, [some (.ref 27), some (.ref 117), some (.int x2)], [.int x2, .ref 118, .int x2, .ref 28], s_hg g)) rfl ?_
    obtain ⟨k2, hk2, hB⟩ := s_bd hB
    refine s_Fin.ix (n := 40) (i := x2) (pc1 := 19) (L1 := [some (.ref 27), some (.ref 117), some (.int x2)]) (fun j1 => [va_rf (g.2.2 118 j1), .int x2, .ref 28]) (fun j1 => s_hg g) hk2 rfl rfl ?_
    have hw : s_okw (g.2.2 118 k2) = true := Classical.byContradiction fun h => (by rw [if_neg h] at hB; cases hB)
    rw [if_pos hw] at hB
    obtain ⟨k4, hk, hB⟩ := s_bd hB
    refine s_Fin.nx (pc1 := 20) (L1 := [some (.ref 27), some (.ref 117), some (.int x2)]) (st1 := []) (h1 := s_hg (s_sr g 28 k4 (g.2.2 118 k2))) ((show _ = s_aaw 28 40 20 [some (.ref 27), some (.ref 117), some (.int x2)] [] (s_hg g) x2 (va_rf (g.2.2 118 k2)) from rfl).trans (s_aaw_of (k := k4) rfl rfl hw hk (fun k => s_wR_hg rfl))) rfl ?_
    refine s_Fin.sg 2 (y := (2, [some (.ref 27), some (.ref 117), some (.int (x2 + (1 : Int32)))], [], s_hg (s_sr g 28 k4 (g.2.2 118 k2)))) rfl ?_
    have hB := Option.some.inj hB
    subst hB
    exact s_Fin.more (L := [some (.ref 27), some (.ref 117), some (.int (x2 + (1 : Int32)))]) ⟨Or.inr rfl, Or.inr rfl, Or.inr rfl, trivial⟩ hr
  · rw [if_neg hc] at hB
    refine s_Fin.bt (c := (40 : Int32) ≤ x2) (tg := 26) (p2 := 5) (L1 := [some (.ref 27), some (.ref 117), some (.int x2)]) (st1 := []) (Int32.not_lt.mp hc) rfl ?_
    obtain ⟨_, hN, hz⟩ := s_in_of hB
    subst hz
    have hB := hN
    refine s_Fin.sg 27 (y := (77, [some (.ref 27), some (.ref 117), some (.int x2)], [.int (g.1 117 6), .ref 27], s_hg (s_si (s_si (s_ci (s_ci g 119 29 0 0 40) 120 30 0 0 40) 27 4 (g.1 117 4)) 27 5 (g.1 117 5)))) rfl ?_
    have hc : (g.1 117 6) = 0 ∨ (g.1 117 6) = 1 := Classical.byContradiction fun h => (by rw [if_neg h] at hB; cases hB)
    rw [if_pos hc] at hB
    refine s_Fin.nx (pc1 := 80) (L1 := [some (.ref 27), some (.ref 117), some (.int x2)]) (st1 := []) (h1 := s_hg (s_si (s_si (s_si (s_ci (s_ci g 119 29 0 0 40) 120 30 0 0 40) 27 4 (g.1 117 4)) 27 5 (g.1 117 5)) 27 6 (g.1 117 6))) (by rcases hc with hc | hc <;> rw [hc] <;> exact rfl) rfl ?_
    have hB := Option.some.inj hB
    subst hB
    obtain ⟨rfl, rfl⟩ := hr
    exact s_Fin.rt rfl rfl
noncomputable def fS_copyFrom_27_117 (g : s_G) : Option (s_G) :=
  s_lp (fun x => fS_copyFrom_27_117_2 x.1 x.2) ((0 : Int32), g)
theorem fS_copyFrom_27_117_s {g : s_G} {z : s_G} (hB : fS_copyFrom_27_117 g = some z) : s_Ev 0 s_m144 [.ref 27, .ref 117] (s_hg g) (none) (s_hg z) := by
  unfold fS_copyFrom_27_117 at hB
  refine s_Ev.fin ((?_ : ∀ (v : Option Value) (h' : s_H), (fun (z : s_G) (v : Option Value) (h' : s_H) => v = none ∧ h' = s_hg z) z v h' → s_Fin 0 s_m144 (0, s_ent [.ref 27, .ref 117] (s_m144).2.2.1, [], s_hg g) v h') _ _ ⟨rfl, rfl⟩)
  intro v h' hr
  refine (show s_Fin 0 s_m144 (0, [some (.ref 27), some (.ref 117), none], [], s_hg g) v h' from ?_)
  refine s_Fin.sg 2 (y := (2, [some (.ref 27), some (.ref 117), some (.int (0 : Int32))], [], s_hg g)) rfl ?_
  exact s_Fin.more (L := [some (.ref 27), some (.ref 117), some (.int (0 : Int32))]) ⟨Or.inr rfl, Or.inr rfl, Or.inr rfl, trivial⟩ (s_lp_s (P := (fun (x : Int32 × s_G) (v : Option Value) (h' : s_H) => s_Fin 0 s_m144 (2, [some (.ref 27), some (.ref 117), some (.int x.1)], [], s_hg x.2) v h')) (Q := (fun (z : s_G) (v : Option Value) (h' : s_H) => v = none ∧ h' = s_hg z)) (fun x z hB v h' hr => fS_copyFrom_27_117_2_s hB hr) hB _ _ hr)
-- CampAshes$Image.giveBack
noncomputable def fI_giveBack_104_3_17_27 (g : s_G) : Option (s_G) :=
  s_b1 (fP_copyFrom_3_105 g) fun g1 => s_b1 (fT_copyFrom_17_112 g1) fun g2 => s_b1 (fS_copyFrom_27_117 g2) fun g3 => some g3
theorem fI_giveBack_104_3_17_27_s {g : s_G} {z : s_G} (hB : fI_giveBack_104_3_17_27 g = some z) : s_Ev 1 s_m153 [.ref 104, .ref 3, .ref 17, .ref 27] (s_hg g) (none) (s_hg z) := by
  unfold fI_giveBack_104_3_17_27 at hB
  refine s_Ev.fin ((?_ : ∀ (v : Option Value) (h' : s_H), (fun (z : s_G) (v : Option Value) (h' : s_H) => v = none ∧ h' = s_hg z) z v h' → s_Fin 1 s_m153 (0, s_ent [.ref 104, .ref 3, .ref 17, .ref 27] (s_m153).2.2.1, [], s_hg g) v h') _ _ ⟨rfl, rfl⟩)
  intro v h' hr
  refine (show s_Fin 1 s_m153 (0, [some (.ref 104), some (.ref 3), some (.ref 17), some (.ref 27)], [], s_hg g) v h' from ?_)
  refine s_Fin.sg 3 (y := (5, [some (.ref 104), some (.ref 3), some (.ref 17), some (.ref 27)], [.ref 105, .ref 3], s_hg g)) rfl ?_
  obtain ⟨g1, hp, hB⟩ := s_bd hB
  refine s_Fin.cl (d := 0) (q1 := s_m43) (md := 43) (vs := [.ref 3, .ref 105]) (rest := []) (h1 := s_hg g1) (u := none) (s_Ev.up (by omega) (fP_copyFrom_3_105_s hp)) rfl rfl rfl rfl ?_
  refine s_Fin.sg 3 (y := (13, [some (.ref 104), some (.ref 3), some (.ref 17), some (.ref 27)], [.ref 112, .ref 17], s_hg g1)) rfl ?_
  obtain ⟨g2, hp, hB⟩ := s_bd hB
  refine s_Fin.cl (d := 0) (q1 := s_m62) (md := 62) (vs := [.ref 17, .ref 112]) (rest := []) (h1 := s_hg g2) (u := none) (s_Ev.up (by omega) (fT_copyFrom_17_112_s hp)) rfl rfl rfl rfl ?_
  refine s_Fin.sg 3 (y := (21, [some (.ref 104), some (.ref 3), some (.ref 17), some (.ref 27)], [.ref 117, .ref 27], s_hg g2)) rfl ?_
  obtain ⟨g3, hp, hB⟩ := s_bd hB
  refine s_Fin.cl (d := 0) (q1 := s_m144) (md := 144) (vs := [.ref 27, .ref 117]) (rest := []) (h1 := s_hg g3) (u := none) (s_Ev.up (by omega) (fS_copyFrom_27_117_s hp)) rfl rfl rfl rfl ?_
  have hB := Option.some.inj hB
  subst hB
  obtain ⟨rfl, rfl⟩ := hr
  exact s_Fin.rt rfl rfl
-- CampAshes.restore
noncomputable def fC_restore_0 (x1 : Int32) (g : s_G) : Option (Int32 × s_G) :=
  if x1 < 0 then (some ((0 : Int32), g))
  else if x1 < (2 : Int32) then (if x1 = 0 then (if (g.1 86 3) = 0 then (some ((0 : Int32), g))
  else if x1 = 0 then (s_b1 (fI_giveBack_86_3_17_27 g) fun g1 => s_b1 (fH_clear_43 g1) fun g2 => some ((1 : Int32), g2))
  else if x1 = 1 then (s_b1 (fI_giveBack_104_3_17_27 g) fun g3 => s_b1 (fH_clear_43 g3) fun g4 => some ((1 : Int32), g4))
  else none)
  else if x1 = 1 then (if (g.1 104 3) = 0 then (some ((0 : Int32), g))
  else if x1 = 0 then (s_b1 (fI_giveBack_86_3_17_27 g) fun g5 => s_b1 (fH_clear_43 g5) fun g6 => some ((1 : Int32), g6))
  else if x1 = 1 then (s_b1 (fI_giveBack_104_3_17_27 g) fun g7 => s_b1 (fH_clear_43 g7) fun g8 => some ((1 : Int32), g8))
  else none)
  else none)
  else some ((0 : Int32), g)
theorem fC_restore_0_s {x1 : Int32} {g : s_G} {z : Int32 × s_G} (hB : fC_restore_0 x1 g = some z) : s_Ev 2 s_m152 [.ref 0, .int x1] (s_hg g) (some (.int z.1)) (s_hg z.2) := by
  unfold fC_restore_0 at hB
  refine s_Ev.fin ((?_ : ∀ (v : Option Value) (h' : s_H), (fun (z : Int32 × s_G) (v : Option Value) (h' : s_H) => v = some (.int z.1) ∧ h' = s_hg z.2) z v h' → s_Fin 2 s_m152 (0, s_ent [.ref 0, .int x1] (s_m152).2.2.1, [], s_hg g) v h') _ _ ⟨rfl, rfl⟩)
  intro v h' hr
  refine (show s_Fin 2 s_m152 (0, [some (.ref 0), some (.int x1)], [], s_hg g) v h' from ?_)
  refine s_Fin.sg 1 (y := (1, [some (.ref 0), some (.int x1)], [.int x1], s_hg g)) rfl ?_
  by_cases hc : x1 < 0
  · rw [if_pos hc] at hB
    refine s_Fin.bt (c := x1 < 0) (tg := 21) (p2 := 1) (L1 := [some (.ref 0), some (.int x1)]) (st1 := []) hc rfl ?_
    refine s_Fin.sg 1 (y := (22, [some (.ref 0), some (.int x1)], [.int (0 : Int32)], s_hg g)) rfl ?_
    have hB := Option.some.inj hB
    subst hB
    obtain ⟨rfl, rfl⟩ := hr
    exact s_Fin.rt rfl rfl
  · rw [if_neg hc] at hB
    refine s_Fin.bf (c := x1 < 0) (tg := 21) (p2 := 1) (L1 := [some (.ref 0), some (.int x1)]) (st1 := []) hc rfl ?_
    refine s_Fin.sg 2 (y := (6, [some (.ref 0), some (.int x1)], [.int (2 : Int32), .int x1], s_hg g)) rfl ?_
    by_cases hc : x1 < (2 : Int32)
    · rw [if_pos hc] at hB
      refine s_Fin.bf (c := (2 : Int32) ≤ x1) (tg := 21) (p2 := 6) (L1 := [some (.ref 0), some (.int x1)]) (st1 := []) (Int32.not_le.mpr hc) rfl ?_
      refine s_Fin.sg 3 (y := (14, [some (.ref 0), some (.int x1)], [.int x1, .ref 85], s_hg g)) rfl ?_
      by_cases hc : x1 = 0
      · rw [if_pos hc] at hB
        refine s_Fin.nx (pc1 := 15) (L1 := [some (.ref 0), some (.int x1)]) (st1 := [.ref 86]) (h1 := s_hg g) (by rw [hc]; exact rfl) rfl ?_
        refine s_Fin.sg 1 (y := (18, [some (.ref 0), some (.int x1)], [.int (g.1 86 3)], s_hg g)) rfl ?_
        by_cases hc : (g.1 86 3) = 0
        · rw [if_pos hc] at hB
          refine s_Fin.bf (c := ¬ (g.1 86 3) = 0) (tg := 23) (p2 := 18) (L1 := [some (.ref 0), some (.int x1)]) (st1 := []) (fun h => h hc) rfl ?_
          refine s_Fin.sg 1 (y := (22, [some (.ref 0), some (.int x1)], [.int (0 : Int32)], s_hg g)) rfl ?_
          have hB := Option.some.inj hB
          subst hB
          obtain ⟨rfl, rfl⟩ := hr
          exact s_Fin.rt rfl rfl
        · rw [if_neg hc] at hB
          refine s_Fin.bt (c := ¬ (g.1 86 3) = 0) (tg := 23) (p2 := 18) (L1 := [some (.ref 0), some (.int x1)]) (st1 := []) hc rfl ?_
          refine s_Fin.sg 3 (y := (28, [some (.ref 0), some (.int x1)], [.int x1, .ref 85], s_hg g)) rfl ?_
          by_cases hc : x1 = 0
          · rw [if_pos hc] at hB
            refine s_Fin.nx (pc1 := 29) (L1 := [some (.ref 0), some (.int x1)]) (st1 := [.ref 86]) (h1 := s_hg g) (by rw [hc]; exact rfl) rfl ?_
            refine s_Fin.sg 6 (y := (41, [some (.ref 0), some (.int x1)], [.ref 27, .ref 17, .ref 3, .ref 86], s_hg g)) rfl ?_
            obtain ⟨g1, hp, hB⟩ := s_bd hB
            refine s_Fin.cl (d := 1) (q1 := s_m153) (md := 153) (vs := [.ref 86, .ref 3, .ref 17, .ref 27]) (rest := []) (h1 := s_hg g1) (u := none) (s_Ev.up (by omega) (fI_giveBack_86_3_17_27_s hp)) rfl rfl rfl rfl ?_
            refine s_Fin.sg 2 (y := (48, [some (.ref 0), some (.int x1)], [.ref 43], s_hg g1)) rfl ?_
            obtain ⟨g2, hp, hB⟩ := s_bd hB
            refine s_Fin.cl (d := 1) (q1 := s_m45) (md := 45) (vs := [.ref 43]) (rest := []) (h1 := s_hg g2) (u := none) (s_Ev.up (by omega) (fH_clear_43_s hp)) rfl rfl rfl rfl ?_
            refine s_Fin.sg 1 (y := (52, [some (.ref 0), some (.int x1)], [.int (1 : Int32)], s_hg g2)) rfl ?_
            have hB := Option.some.inj hB
            subst hB
            obtain ⟨rfl, rfl⟩ := hr
            exact s_Fin.rt rfl rfl
          rw [if_neg hc] at hB
          by_cases hc : x1 = 1
          · rw [if_pos hc] at hB
            refine s_Fin.nx (pc1 := 29) (L1 := [some (.ref 0), some (.int x1)]) (st1 := [.ref 104]) (h1 := s_hg g) (by rw [hc]; exact rfl) rfl ?_
            refine s_Fin.sg 6 (y := (41, [some (.ref 0), some (.int x1)], [.ref 27, .ref 17, .ref 3, .ref 104], s_hg g)) rfl ?_
            obtain ⟨g3, hp, hB⟩ := s_bd hB
            refine s_Fin.cl (d := 1) (q1 := s_m153) (md := 153) (vs := [.ref 104, .ref 3, .ref 17, .ref 27]) (rest := []) (h1 := s_hg g3) (u := none) (s_Ev.up (by omega) (fI_giveBack_104_3_17_27_s hp)) rfl rfl rfl rfl ?_
            refine s_Fin.sg 2 (y := (48, [some (.ref 0), some (.int x1)], [.ref 43], s_hg g3)) rfl ?_
            obtain ⟨g4, hp, hB⟩ := s_bd hB
            refine s_Fin.cl (d := 1) (q1 := s_m45) (md := 45) (vs := [.ref 43]) (rest := []) (h1 := s_hg g4) (u := none) (s_Ev.up (by omega) (fH_clear_43_s hp)) rfl rfl rfl rfl ?_
            refine s_Fin.sg 1 (y := (52, [some (.ref 0), some (.int x1)], [.int (1 : Int32)], s_hg g4)) rfl ?_
            have hB := Option.some.inj hB
            subst hB
            obtain ⟨rfl, rfl⟩ := hr
            exact s_Fin.rt rfl rfl
          rw [if_neg hc] at hB
          cases hB
      rw [if_neg hc] at hB
      by_cases hc : x1 = 1
      · rw [if_pos hc] at hB
        refine s_Fin.nx (pc1 := 15) (L1 := [some (.ref 0), some (.int x1)]) (st1 := [.ref 104]) (h1 := s_hg g) (by rw [hc]; exact rfl) rfl ?_
        refine s_Fin.sg 1 (y := (18, [some (.ref 0), some (.int x1)], [.int (g.1 104 3)], s_hg g)) rfl ?_
        by_cases hc : (g.1 104 3) = 0
        · rw [if_pos hc] at hB
          refine s_Fin.bf (c := ¬ (g.1 104 3) = 0) (tg := 23) (p2 := 18) (L1 := [some (.ref 0), some (.int x1)]) (st1 := []) (fun h => h hc) rfl ?_
          refine s_Fin.sg 1 (y := (22, [some (.ref 0), some (.int x1)], [.int (0 : Int32)], s_hg g)) rfl ?_
          have hB := Option.some.inj hB
          subst hB
          obtain ⟨rfl, rfl⟩ := hr
          exact s_Fin.rt rfl rfl
        · rw [if_neg hc] at hB
          refine s_Fin.bt (c := ¬ (g.1 104 3) = 0) (tg := 23) (p2 := 18) (L1 := [some (.ref 0), some (.int x1)]) (st1 := []) hc rfl ?_
          refine s_Fin.sg 3 (y := (28, [some (.ref 0), some (.int x1)], [.int x1, .ref 85], s_hg g)) rfl ?_
          by_cases hc : x1 = 0
          · rw [if_pos hc] at hB
            refine s_Fin.nx (pc1 := 29) (L1 := [some (.ref 0), some (.int x1)]) (st1 := [.ref 86]) (h1 := s_hg g) (by rw [hc]; exact rfl) rfl ?_
            refine s_Fin.sg 6 (y := (41, [some (.ref 0), some (.int x1)], [.ref 27, .ref 17, .ref 3, .ref 86], s_hg g)) rfl ?_
            obtain ⟨g5, hp, hB⟩ := s_bd hB
            refine s_Fin.cl (d := 1) (q1 := s_m153) (md := 153) (vs := [.ref 86, .ref 3, .ref 17, .ref 27]) (rest := []) (h1 := s_hg g5) (u := none) (s_Ev.up (by omega) (fI_giveBack_86_3_17_27_s hp)) rfl rfl rfl rfl ?_
            refine s_Fin.sg 2 (y := (48, [some (.ref 0), some (.int x1)], [.ref 43], s_hg g5)) rfl ?_
            obtain ⟨g6, hp, hB⟩ := s_bd hB
            refine s_Fin.cl (d := 1) (q1 := s_m45) (md := 45) (vs := [.ref 43]) (rest := []) (h1 := s_hg g6) (u := none) (s_Ev.up (by omega) (fH_clear_43_s hp)) rfl rfl rfl rfl ?_
            refine s_Fin.sg 1 (y := (52, [some (.ref 0), some (.int x1)], [.int (1 : Int32)], s_hg g6)) rfl ?_
            have hB := Option.some.inj hB
            subst hB
            obtain ⟨rfl, rfl⟩ := hr
            exact s_Fin.rt rfl rfl
          rw [if_neg hc] at hB
          by_cases hc : x1 = 1
          · rw [if_pos hc] at hB
            refine s_Fin.nx (pc1 := 29) (L1 := [some (.ref 0), some (.int x1)]) (st1 := [.ref 104]) (h1 := s_hg g) (by rw [hc]; exact rfl) rfl ?_
            refine s_Fin.sg 6 (y := (41, [some (.ref 0), some (.int x1)], [.ref 27, .ref 17, .ref 3, .ref 104], s_hg g)) rfl ?_
            obtain ⟨g7, hp, hB⟩ := s_bd hB
            refine s_Fin.cl (d := 1) (q1 := s_m153) (md := 153) (vs := [.ref 104, .ref 3, .ref 17, .ref 27]) (rest := []) (h1 := s_hg g7) (u := none) (s_Ev.up (by omega) (fI_giveBack_104_3_17_27_s hp)) rfl rfl rfl rfl ?_
            refine s_Fin.sg 2 (y := (48, [some (.ref 0), some (.int x1)], [.ref 43], s_hg g7)) rfl ?_
            obtain ⟨g8, hp, hB⟩ := s_bd hB
            refine s_Fin.cl (d := 1) (q1 := s_m45) (md := 45) (vs := [.ref 43]) (rest := []) (h1 := s_hg g8) (u := none) (s_Ev.up (by omega) (fH_clear_43_s hp)) rfl rfl rfl rfl ?_
            refine s_Fin.sg 1 (y := (52, [some (.ref 0), some (.int x1)], [.int (1 : Int32)], s_hg g8)) rfl ?_
            have hB := Option.some.inj hB
            subst hB
            obtain ⟨rfl, rfl⟩ := hr
            exact s_Fin.rt rfl rfl
          rw [if_neg hc] at hB
          cases hB
      rw [if_neg hc] at hB
      cases hB
    · rw [if_neg hc] at hB
      refine s_Fin.bt (c := (2 : Int32) ≤ x1) (tg := 21) (p2 := 6) (L1 := [some (.ref 0), some (.int x1)]) (st1 := []) (Int32.not_lt.mp hc) rfl ?_
      refine s_Fin.sg 1 (y := (22, [some (.ref 0), some (.int x1)], [.int (0 : Int32)], s_hg g)) rfl ?_
      have hB := Option.some.inj hB
      subst hB
      obtain ⟨rfl, rfl⟩ := hr
      exact s_Fin.rt rfl rfl
-- CampAshesModel.count
noncomputable def fM_count_130 (x1 : Int32) (g : s_G) : Option (Int32 × s_G) :=
  if x1 = 0 then (some (g.1 132 0, (s_si g 130 0 (0 : Int32))))
  else if x1 = 1 then (some (g.1 132 1, (s_si g 130 0 (0 : Int32))))
  else if x1 = 2 then (some (g.1 132 4, (s_si g 130 0 (0 : Int32))))
  else if x1 = 3 then (some (g.1 132 5, (s_si g 130 0 (0 : Int32))))
  else if x1 = 4 then (some (g.1 130 2, (s_si g 130 0 (0 : Int32))))
  else some ((-1 : Int32), (s_si g 130 0 (0 : Int32)))
theorem fM_count_130_s {x1 : Int32} {g : s_G} {z : Int32 × s_G} (hB : fM_count_130 x1 g = some z) : s_Ev 0 s_m281 [.ref 130, .int x1] (s_hg g) (some (.int z.1)) (s_hg z.2) := by
  unfold fM_count_130 at hB
  refine s_Ev.fin ((?_ : ∀ (v : Option Value) (h' : s_H), (fun (z : Int32 × s_G) (v : Option Value) (h' : s_H) => v = some (.int z.1) ∧ h' = s_hg z.2) z v h' → s_Fin 0 s_m281 (0, s_ent [.ref 130, .int x1] (s_m281).2.2.1, [], s_hg g) v h') _ _ ⟨rfl, rfl⟩)
  intro v h' hr
  refine (show s_Fin 0 s_m281 (0, [some (.ref 130), some (.int x1)], [], s_hg g) v h' from ?_)
  refine s_Fin.sg 4 (y := (6, [some (.ref 130), some (.int x1)], [.int x1], s_hg (s_si g 130 0 (0 : Int32)))) rfl ?_
  by_cases hc0 : x1 = 0
  · rw [if_pos hc0] at hB
    refine s_Fin.nx (pc1 := 40) (L1 := [some (.ref 130), some (.int x1)]) (st1 := []) (h1 := s_hg (s_si g 130 0 (0 : Int32))) (by rw [hc0]; exact rfl) rfl ?_
    refine s_Fin.sg 4 (y := (46, [some (.ref 130), some (.int x1)], [.int (g.1 132 0)], s_hg (s_si g 130 0 (0 : Int32)))) rfl ?_
    have hB := Option.some.inj hB
    subst hB
    obtain ⟨rfl, rfl⟩ := hr
    exact s_Fin.rt rfl rfl
  rw [if_neg hc0] at hB
  by_cases hc1 : x1 = 1
  · rw [if_pos hc1] at hB
    refine s_Fin.nx (pc1 := 47) (L1 := [some (.ref 130), some (.int x1)]) (st1 := []) (h1 := s_hg (s_si g 130 0 (0 : Int32))) (by rw [hc1]; exact rfl) rfl ?_
    refine s_Fin.sg 4 (y := (53, [some (.ref 130), some (.int x1)], [.int (g.1 132 1)], s_hg (s_si g 130 0 (0 : Int32)))) rfl ?_
    have hB := Option.some.inj hB
    subst hB
    obtain ⟨rfl, rfl⟩ := hr
    exact s_Fin.rt rfl rfl
  rw [if_neg hc1] at hB
  by_cases hc2 : x1 = 2
  · rw [if_pos hc2] at hB
    refine s_Fin.nx (pc1 := 54) (L1 := [some (.ref 130), some (.int x1)]) (st1 := []) (h1 := s_hg (s_si g 130 0 (0 : Int32))) (by rw [hc2]; exact rfl) rfl ?_
    refine s_Fin.sg 4 (y := (60, [some (.ref 130), some (.int x1)], [.int (g.1 132 4)], s_hg (s_si g 130 0 (0 : Int32)))) rfl ?_
    have hB := Option.some.inj hB
    subst hB
    obtain ⟨rfl, rfl⟩ := hr
    exact s_Fin.rt rfl rfl
  rw [if_neg hc2] at hB
  by_cases hc3 : x1 = 3
  · rw [if_pos hc3] at hB
    refine s_Fin.nx (pc1 := 61) (L1 := [some (.ref 130), some (.int x1)]) (st1 := []) (h1 := s_hg (s_si g 130 0 (0 : Int32))) (by rw [hc3]; exact rfl) rfl ?_
    refine s_Fin.sg 4 (y := (67, [some (.ref 130), some (.int x1)], [.int (g.1 132 5)], s_hg (s_si g 130 0 (0 : Int32)))) rfl ?_
    have hB := Option.some.inj hB
    subst hB
    obtain ⟨rfl, rfl⟩ := hr
    exact s_Fin.rt rfl rfl
  rw [if_neg hc3] at hB
  by_cases hc4 : x1 = 4
  · rw [if_pos hc4] at hB
    refine s_Fin.nx (pc1 := 68) (L1 := [some (.ref 130), some (.int x1)]) (st1 := []) (h1 := s_hg (s_si g 130 0 (0 : Int32))) (by rw [hc4]; exact rfl) rfl ?_
    refine s_Fin.sg 2 (y := (72, [some (.ref 130), some (.int x1)], [.int (g.1 130 2)], s_hg (s_si g 130 0 (0 : Int32)))) rfl ?_
    have hB := Option.some.inj hB
    subst hB
    obtain ⟨rfl, rfl⟩ := hr
    exact s_Fin.rt rfl rfl
  rw [if_neg hc4] at hB
  have ht : x1.toInt < 0 ∨ (5 : Int) ≤ x1.toInt := by
    have q0 : ¬ x1.toInt = 0 := s_tne hc0 (by decide)
    have q1 : ¬ x1.toInt = 1 := s_tne hc1 (by decide)
    have q2 : ¬ x1.toInt = 2 := s_tne hc2 (by decide)
    have q3 : ¬ x1.toInt = 3 := s_tne hc3 (by decide)
    have q4 : ¬ x1.toInt = 4 := s_tne hc4 (by decide)
    omega
  refine s_Fin.nx (pc1 := 73) (L1 := [some (.ref 130), some (.int x1)]) (st1 := []) (h1 := s_hg (s_si g 130 0 (0 : Int32))) ((show _ = s_ts x1.toInt 6 [some (.ref 130), some (.int x1)] [] (s_hg (s_si g 130 0 (0 : Int32))) 67 0 [34, 41, 48, 55, 62] from rfl).trans (s_ts_ms (n := 5) rfl ht (t := 73) rfl)) rfl ?_
  refine s_Fin.sg 1 (y := (74, [some (.ref 130), some (.int x1)], [.int (-1 : Int32)], s_hg (s_si g 130 0 (0 : Int32)))) rfl ?_
  have hB := Option.some.inj hB
  subst hB
  obtain ⟨rfl, rfl⟩ := hr
  exact s_Fin.rt rfl rfl
-- CampAshes.count
noncomputable def fC_count_0 (x1 : Int32) (g : s_G) : Option (Int32) :=
  if x1 = 0 then (some (g.1 3 0))
  else if x1 = 1 then (some (g.1 3 1))
  else if x1 = 2 then (some (g.1 3 10))
  else if x1 = 3 then (some (g.1 3 11))
  else if x1 = 4 then (some (g.1 1 1))
  else some (-1 : Int32)
theorem fC_count_0_s {x1 : Int32} {g : s_G} {z : Int32} (hB : fC_count_0 x1 g = some z) : s_Ev 0 s_m154 [.ref 0, .int x1] (s_hg g) (some (.int z)) (s_hg g) := by
  unfold fC_count_0 at hB
  refine s_Ev.fin ((?_ : ∀ (v : Option Value) (h' : s_H), (fun (z : Int32) (v : Option Value) (h' : s_H) => v = some (.int z) ∧ h' = s_hg g) z v h' → s_Fin 0 s_m154 (0, s_ent [.ref 0, .int x1] (s_m154).2.2.1, [], s_hg g) v h') _ _ ⟨rfl, rfl⟩)
  intro v h' hr
  refine (show s_Fin 0 s_m154 (0, [some (.ref 0), some (.int x1)], [], s_hg g) v h' from ?_)
  refine s_Fin.sg 1 (y := (1, [some (.ref 0), some (.int x1)], [.int x1], s_hg g)) rfl ?_
  by_cases hc0 : x1 = 0
  · rw [if_pos hc0] at hB
    refine s_Fin.nx (pc1 := 36) (L1 := [some (.ref 0), some (.int x1)]) (st1 := []) (h1 := s_hg g) (by rw [hc0]; exact rfl) rfl ?_
    refine s_Fin.sg 3 (y := (43, [some (.ref 0), some (.int x1)], [.int (g.1 3 0)], s_hg g)) rfl ?_
    have hB := Option.some.inj hB
    subst hB
    obtain ⟨rfl, rfl⟩ := hr
    exact s_Fin.rt rfl rfl
  rw [if_neg hc0] at hB
  by_cases hc1 : x1 = 1
  · rw [if_pos hc1] at hB
    refine s_Fin.nx (pc1 := 44) (L1 := [some (.ref 0), some (.int x1)]) (st1 := []) (h1 := s_hg g) (by rw [hc1]; exact rfl) rfl ?_
    refine s_Fin.sg 3 (y := (51, [some (.ref 0), some (.int x1)], [.int (g.1 3 1)], s_hg g)) rfl ?_
    have hB := Option.some.inj hB
    subst hB
    obtain ⟨rfl, rfl⟩ := hr
    exact s_Fin.rt rfl rfl
  rw [if_neg hc1] at hB
  by_cases hc2 : x1 = 2
  · rw [if_pos hc2] at hB
    refine s_Fin.nx (pc1 := 52) (L1 := [some (.ref 0), some (.int x1)]) (st1 := []) (h1 := s_hg g) (by rw [hc2]; exact rfl) rfl ?_
    refine s_Fin.sg 3 (y := (59, [some (.ref 0), some (.int x1)], [.int (g.1 3 10)], s_hg g)) rfl ?_
    have hB := Option.some.inj hB
    subst hB
    obtain ⟨rfl, rfl⟩ := hr
    exact s_Fin.rt rfl rfl
  rw [if_neg hc2] at hB
  by_cases hc3 : x1 = 3
  · rw [if_pos hc3] at hB
    refine s_Fin.nx (pc1 := 60) (L1 := [some (.ref 0), some (.int x1)]) (st1 := []) (h1 := s_hg g) (by rw [hc3]; exact rfl) rfl ?_
    refine s_Fin.sg 3 (y := (67, [some (.ref 0), some (.int x1)], [.int (g.1 3 11)], s_hg g)) rfl ?_
    have hB := Option.some.inj hB
    subst hB
    obtain ⟨rfl, rfl⟩ := hr
    exact s_Fin.rt rfl rfl
  rw [if_neg hc3] at hB
  by_cases hc4 : x1 = 4
  · rw [if_pos hc4] at hB
    refine s_Fin.nx (pc1 := 68) (L1 := [some (.ref 0), some (.int x1)]) (st1 := []) (h1 := s_hg g) (by rw [hc4]; exact rfl) rfl ?_
    refine s_Fin.sg 3 (y := (75, [some (.ref 0), some (.int x1)], [.int (g.1 1 1)], s_hg g)) rfl ?_
    have hB := Option.some.inj hB
    subst hB
    obtain ⟨rfl, rfl⟩ := hr
    exact s_Fin.rt rfl rfl
  rw [if_neg hc4] at hB
  have ht : x1.toInt < 0 ∨ (5 : Int) ≤ x1.toInt := by
    have q0 : ¬ x1.toInt = 0 := s_tne hc0 (by decide)
    have q1 : ¬ x1.toInt = 1 := s_tne hc1 (by decide)
    have q2 : ¬ x1.toInt = 2 := s_tne hc2 (by decide)
    have q3 : ¬ x1.toInt = 3 := s_tne hc3 (by decide)
    have q4 : ¬ x1.toInt = 4 := s_tne hc4 (by decide)
    omega
  refine s_Fin.nx (pc1 := 76) (L1 := [some (.ref 0), some (.int x1)]) (st1 := []) (h1 := s_hg g) ((show _ = s_ts x1.toInt 1 [some (.ref 0), some (.int x1)] [] (s_hg g) 75 0 [35, 43, 51, 59, 67] from rfl).trans (s_ts_ms (n := 5) rfl ht (t := 76) rfl)) rfl ?_
  refine s_Fin.sg 1 (y := (77, [some (.ref 0), some (.int x1)], [.int (-1 : Int32)], s_hg g)) rfl ?_
  have hB := Option.some.inj hB
  subst hB
  obtain ⟨rfl, rfl⟩ := hr
  exact s_Fin.rt rfl rfl
-- CampAshesModel.thrown
noncomputable def fM_thrown_130 (g : s_G) : Option (Int32) :=
  some (g.1 130 0)
theorem fM_thrown_130_s {g : s_G} {z : Int32} (hB : fM_thrown_130 g = some z) : s_Ev 0 s_m156 [.ref 130] (s_hg g) (some (.int z)) (s_hg g) := by
  unfold fM_thrown_130 at hB
  refine s_Ev.fin ((?_ : ∀ (v : Option Value) (h' : s_H), (fun (z : Int32) (v : Option Value) (h' : s_H) => v = some (.int z) ∧ h' = s_hg g) z v h' → s_Fin 0 s_m156 (0, s_ent [.ref 130] (s_m156).2.2.1, [], s_hg g) v h') _ _ ⟨rfl, rfl⟩)
  intro v h' hr
  refine (show s_Fin 0 s_m156 (0, [some (.ref 130)], [], s_hg g) v h' from ?_)
  refine s_Fin.sg 2 (y := (4, [some (.ref 130)], [.int (g.1 130 0)], s_hg g)) rfl ?_
  have hB := Option.some.inj hB
  subst hB
  obtain ⟨rfl, rfl⟩ := hr
  exact s_Fin.rt rfl rfl
