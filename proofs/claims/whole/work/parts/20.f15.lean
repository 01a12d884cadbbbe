-- CampAshes$Advice.layRow
noncomputable def fA_layRow_122_3_17_54 (x3 : Int32) (x4 : Int32) (x5 : Int32) (x6 : Int32) (t0 : Int32) (g : s_G) : Option ((Int32) ⊕ ((Int32 × Int32 × s_G) ⊕ (s_G))) :=
  if t0 = 0 then (some (.inl (x6 + (1 : Int32))))
  else s_b1 (fA_takenBy_122_3_17 x6 x4 g) fun v2 => s_b1 (s_ix 128 (x4 ||| ((1 : Int32) <<< (x6 &&& 31)))) fun k4 => s_b1 (s_ix 128 x4) fun k6 => if (v2 + (g.1 126 k4)) = (g.1 126 k6) then (s_in (s_b1 (s_ix 7 x5) fun k8 => some (.inl (x4 ||| ((1 : Int32) <<< (x6 &&& 31)), x5 + (1 : Int32), (s_si g 123 k8 x6)))))
  else some (.inl (x6 + (1 : Int32)))
theorem fA_layRow_122_3_17_54_s {x3 : Int32} {x4 : Int32} {x5 : Int32} {x6 : Int32} {t0 : Int32} {g : s_G} {z : (Int32) ⊕ ((Int32 × Int32 × s_G) ⊕ (s_G))} (hB : fA_layRow_122_3_17_54 x3 x4 x5 x6 t0 g = some z) {v : Option Value} {h' : s_H} (hr : (s_sm (fun (x : Int32) (v : Option Value) (h' : s_H) => s_Fin 2 s_m91 (26, [some (.ref 122), some (.ref 3), some (.ref 17), some (.int x3), some (.int x4), some (.int x5), some (.int x), none], [], s_hg g) v h') (s_sm (fun (x : Int32 × Int32 × s_G) (v : Option Value) (h' : s_H) => s_Fin 2 s_m91 (14, [some (.ref 122), some (.ref 3), some (.ref 17), some (.int x3), some (.int x.1), some (.int x.2.1), none, none], [], s_hg x.2.2) v h') (fun (z : s_G) (v : Option Value) (h' : s_H) => v = none ∧ h' = s_hg z))) z v h') : s_Fin 2 s_m91 (54, [some (.ref 122), some (.ref 3), some (.ref 17), some (.int x3), some (.int x4), some (.int x5), some (.int x6), none], [.int t0], s_hg g) v h' := by
  unfold fA_layRow_122_3_17_54 at hB
  refine s_Fin.sg 2 (y := (58, [some (.ref 122), some (.ref 3), some (.ref 17), some (.int x3), some (.int x4), some (.int x5), some (.int x6), some (.int t0)], [.int t0], s_hg g)) rfl ?_
  by_cases hc : t0 = 0
  · rw [if_pos hc] at hB
    refine s_Fin.bt (c := t0 = 0) (tg := 115) (p2 := 58) (L1 := [some (.ref 122), some (.ref 3), some (.ref 17), some (.int x3), some (.int x4), some (.int x5), some (.int x6), some (.int t0)]) (st1 := []) hc rfl ?_
    refine s_Fin.sg 2 (y := (26, [some (.ref 122), some (.ref 3), some (.ref 17), some (.int x3), some (.int x4), some (.int x5), some (.int (x6 + (1 : Int32))), some (.int t0)], [], s_hg g)) rfl ?_
    have hB := Option.some.inj hB
    subst hB
    exact s_Fin.more (L := [some (.ref 122), some (.ref 3), some (.ref 17), some (.int x3), some (.int x4), some (.int x5), some (.int (x6 + (1 : Int32))), none]) ⟨Or.inr rfl, Or.inr rfl, Or.inr rfl, Or.inr rfl, Or.inr rfl, Or.inr rfl, Or.inr rfl, Or.inl rfl, trivial⟩ hr
  · rw [if_neg hc] at hB
    refine s_Fin.bf (c := t0 = 0) (tg := 115) (p2 := 58) (L1 := [some (.ref 122), some (.ref 3), some (.ref 17), some (.int x3), some (.int x4), some (.int x5), some (.int x6), some (.int t0)]) (st1 := []) hc rfl ?_
    refine s_Fin.sg 5 (y := (68, [some (.ref 122), some (.ref 3), some (.ref 17), some (.int x3), some (.int x4), some (.int x5), some (.int x6), some (.int t0)], [.int x4, .int x6, .ref 17, .ref 3, .ref 122], s_hg g)) rfl ?_
    obtain ⟨v2, hp, hB⟩ := s_bd hB
    refine s_Fin.cl (d := 1) (q1 := s_m88) (md := 88) (vs := [.ref 122, .ref 3, .ref 17, .int x6, .int x4]) (rest := []) (h1 := s_hg g) (u := some (.int v2)) (s_Ev.up (by omega) (fA_takenBy_122_3_17_s hp)) rfl rfl rfl rfl ?_
    refine s_Fin.sg 7 (y := (82, [some (.ref 122), some (.ref 3), some (.ref 17), some (.int x3), some (.int x4), some (.int x5), some (.int x6), some (.int t0)], [.int (x4 ||| ((1 : Int32) <<< (x6 &&& 31))), .ref 126, .int v2], s_hg g)) rfl ?_
    obtain ⟨k4, hk4, hB⟩ := s_bd hB
    refine s_Fin.ix (n := 128) (i := x4 ||| ((1 : Int32) <<< (x6 &&& 31))) (pc1 := 83) (L1 := [some (.ref 122), some (.ref 3), some (.ref 17), some (.int x3), some (.int x4), some (.int x5), some (.int x6), some (.int t0)]) (fun j3 => [.int (g.1 126 j3), .int v2]) (fun j3 => s_hg g) hk4 rfl rfl ?_
    refine s_Fin.sg 4 (y := (90, [some (.ref 122), some (.ref 3), some (.ref 17), some (.int x3), some (.int x4), some (.int x5), some (.int x6), some (.int t0)], [.int x4, .ref 126, .int (v2 + (g.1 126 k4))], s_hg g)) rfl ?_
    obtain ⟨k6, hk6, hB⟩ := s_bd hB
    refine s_Fin.ix (n := 128) (i := x4) (pc1 := 91) (L1 := [some (.ref 122), some (.ref 3), some (.ref 17), some (.int x3), some (.int x4), some (.int x5), some (.int x6), some (.int t0)]) (fun j5 => [.int (g.1 126 j5), .int (v2 + (g.1 126 k4))]) (fun j5 => s_hg g) hk6 rfl rfl ?_
    by_cases hc : (v2 + (g.1 126 k4)) = (g.1 126 k6)
    · rw [if_pos hc] at hB
      refine s_Fin.bf (c := ¬ (v2 + (g.1 126 k4)) = (g.1 126 k6)) (tg := 115) (p2 := 91) (L1 := [some (.ref 122), some (.ref 3), some (.ref 17), some (.int x3), some (.int x4), some (.int x5), some (.int x6), some (.int t0)]) (st1 := []) (fun h => h hc) rfl ?_
      obtain ⟨_, hN, hz⟩ := s_in_of hB
      subst hz
      have hB := hN
      refine s_Fin.sg 4 (y := (102, [some (.ref 122), some (.ref 3), some (.ref 17), some (.int x3), some (.int x4), some (.int x5), some (.int x6), some (.int t0)], [.int x6, .int x5, .ref 123], s_hg g)) rfl ?_
      obtain ⟨k8, hk8, hB⟩ := s_bd hB
      refine s_Fin.ix (n := 7) (i := x5) (pc1 := 103) (L1 := [some (.ref 122), some (.ref 3), some (.ref 17), some (.int x3), some (.int x4), some (.int x5), some (.int x6), some (.int t0)]) (fun j7 => []) (fun j7 => s_hg (s_si g 123 j7 x6)) hk8 rfl rfl ?_
      refine s_Fin.sg 9 (y := (14, [some (.ref 122), some (.ref 3), some (.ref 17), some (.int x3), some (.int (x4 ||| ((1 : Int32) <<< (x6 &&& 31)))), some (.int (x5 + (1 : Int32))), some (.int x6), some (.int t0)], [], s_hg (s_si g 123 k8 x6))) rfl ?_
      have hB := Option.some.inj hB
      subst hB
      exact s_Fin.more (L := [some (.ref 122), some (.ref 3), some (.ref 17), some (.int x3), some (.int (x4 ||| ((1 : Int32) <<< (x6 &&& 31)))), some (.int (x5 + (1 : Int32))), none, none]) ⟨Or.inr rfl, Or.inr rfl, Or.inr rfl, Or.inr rfl, Or.inr rfl, Or.inr rfl, Or.inl rfl, Or.inl rfl, trivial⟩ hr
    · rw [if_neg hc] at hB
      refine s_Fin.bt (c := ¬ (v2 + (g.1 126 k4)) = (g.1 126 k6)) (tg := 115) (p2 := 91) (L1 := [some (.ref 122), some (.ref 3), some (.ref 17), some (.int x3), some (.int x4), some (.int x5), some (.int x6), some (.int t0)]) (st1 := []) hc rfl ?_
      refine s_Fin.sg 2 (y := (26, [some (.ref 122), some (.ref 3), some (.ref 17), some (.int x3), some (.int x4), some (.int x5), some (.int (x6 + (1 : Int32))), some (.int t0)], [], s_hg g)) rfl ?_
      have hB := Option.some.inj hB
      subst hB
      exact s_Fin.more (L := [some (.ref 122), some (.ref 3), some (.ref 17), some (.int x3), some (.int x4), some (.int x5), some (.int (x6 + (1 : Int32))), none]) ⟨Or.inr rfl, Or.inr rfl, Or.inr rfl, Or.inr rfl, Or.inr rfl, Or.inr rfl, Or.inr rfl, Or.inl rfl, trivial⟩ hr
noncomputable def fA_layRow_122_3_17_26 (x3 : Int32) (x4 : Int32) (x5 : Int32) (x6 : Int32) (g : s_G) : Option ((Int32) ⊕ ((Int32 × Int32 × s_G) ⊕ (s_G))) :=
  if x6 < (g.1 3 0) then (if ((x3 &&& (x4 ^^^ (-1 : Int32))) &&& ((1 : Int32) <<< (x6 &&& 31))) = 0 then (fA_layRow_122_3_17_54 x3 x4 x5 x6 (0 : Int32) g)
  else fA_layRow_122_3_17_54 x3 x4 x5 x6 (1 : Int32) g)
  else s_in (some (.inl (x4, x5 + (1 : Int32), g)))
theorem fA_layRow_122_3_17_26_s {x3 : Int32} {x4 : Int32} {x5 : Int32} {x6 : Int32} {g : s_G} {z : (Int32) ⊕ ((Int32 × Int32 × s_G) ⊕ (s_G))} (hB : fA_layRow_122_3_17_26 x3 x4 x5 x6 g = some z) {v : Option Value} {h' : s_H} (hr : (s_sm (fun (x : Int32) (v : Option Value) (h' : s_H) => s_Fin 2 s_m91 (26, [some (.ref 122), some (.ref 3), some (.ref 17), some (.int x3), some (.int x4), some (.int x5), some (.int x), none], [], s_hg g) v h') (s_sm (fun (x : Int32 × Int32 × s_G) (v : Option Value) (h' : s_H) => s_Fin 2 s_m91 (14, [some (.ref 122), some (.ref 3), some (.ref 17), some (.int x3), some (.int x.1), some (.int x.2.1), none, none], [], s_hg x.2.2) v h') (fun (z : s_G) (v : Option Value) (h' : s_H) => v = none ∧ h' = s_hg z))) z v h') : s_Fin 2 s_m91 (26, [some (.ref 122), some (.ref 3), some (.ref 17), some (.int x3), some (.int x4), some (.int x5), some (.int x6), none], [], s_hg g) v h' := by
  unfold fA_layRow_122_3_17_26 at hB
  refine s_Fin.sg 3 (y := (32, [some (.ref 122), some (.ref 3), some (.ref 17), some (.int x3), some (.int x4), some (.int x5), some (.int x6), none], [.int (g.1 3 0), .int x6], s_hg g)) rfl ?_
  by_cases hc : x6 < (g.1 3 0)
  · rw [if_pos hc] at hB
    refine s_Fin.bf (c := (g.1 3 0) ≤ x6) (tg := 121) (p2 := 32) (L1 := [some (.ref 122), some (.ref 3), some (.ref 17), some (.int x3), some (.int x4), some (.int x5), some (.int x6), none]) (st1 := []) (Int32.not_le.mpr hc) rfl ?_
    refine s_Fin.sg 9 (y := (46, [some (.ref 122), some (.ref 3), some (.ref 17), some (.int x3), some (.int x4), some (.int x5), some (.int x6), none], [.int ((x3 &&& (x4 ^^^ (-1 : Int32))) &&& ((1 : Int32) <<< (x6 &&& 31)))], s_hg g)) rfl ?_
    by_cases hc : ((x3 &&& (x4 ^^^ (-1 : Int32))) &&& ((1 : Int32) <<< (x6 &&& 31))) = 0
    · rw [if_pos hc] at hB
      refine s_Fin.bt (c := ((x3 &&& (x4 ^^^ (-1 : Int32))) &&& ((1 : Int32) <<< (x6 &&& 31))) = 0) (tg := 53) (p2 := 46) (L1 := [some (.ref 122), some (.ref 3), some (.ref 17), some (.int x3), some (.int x4), some (.int x5), some (.int x6), none]) (st1 := []) hc rfl ?_
      refine s_Fin.sg 1 (y := (54, [some (.ref 122), some (.ref 3), some (.ref 17), some (.int x3), some (.int x4), some (.int x5), some (.int x6), none], [.int (0 : Int32)], s_hg g)) rfl ?_
      exact s_Fin.more (L := [some (.ref 122), some (.ref 3), some (.ref 17), some (.int x3), some (.int x4), some (.int x5), some (.int x6), none]) ⟨Or.inr rfl, Or.inr rfl, Or.inr rfl, Or.inr rfl, Or.inr rfl, Or.inr rfl, Or.inr rfl, Or.inl rfl, trivial⟩ (fA_layRow_122_3_17_54_s hB hr)
    · rw [if_neg hc] at hB
      refine s_Fin.bf (c := ((x3 &&& (x4 ^^^ (-1 : Int32))) &&& ((1 : Int32) <<< (x6 &&& 31))) = 0) (tg := 53) (p2 := 46) (L1 := [some (.ref 122), some (.ref 3), some (.ref 17), some (.int x3), some (.int x4), some (.int x5), some (.int x6), none]) (st1 := []) hc rfl ?_
      refine s_Fin.sg 2 (y := (54, [some (.ref 122), some (.ref 3), some (.ref 17), some (.int x3), some (.int x4), some (.int x5), some (.int x6), none], [.int (1 : Int32)], s_hg g)) rfl ?_
      exact s_Fin.more (L := [some (.ref 122), some (.ref 3), some (.ref 17), some (.int x3), some (.int x4), some (.int x5), some (.int x6), none]) ⟨Or.inr rfl, Or.inr rfl, Or.inr rfl, Or.inr rfl, Or.inr rfl, Or.inr rfl, Or.inr rfl, Or.inl rfl, trivial⟩ (fA_layRow_122_3_17_54_s hB hr)
  · rw [if_neg hc] at hB
    refine s_Fin.bt (c := (g.1 3 0) ≤ x6) (tg := 121) (p2 := 32) (L1 := [some (.ref 122), some (.ref 3), some (.ref 17), some (.int x3), some (.int x4), some (.int x5), some (.int x6), none]) (st1 := []) (Int32.not_lt.mp hc) rfl ?_
    obtain ⟨_, hN, hz⟩ := s_in_of hB
    subst hz
    have hB := hN
    refine s_Fin.sg 2 (y := (14, [some (.ref 122), some (.ref 3), some (.ref 17), some (.int x3), some (.int x4), some (.int (x5 + (1 : Int32))), some (.int x6), none], [], s_hg g)) rfl ?_
    have hB := Option.some.inj hB
    subst hB
    exact s_Fin.more (L := [some (.ref 122), some (.ref 3), some (.ref 17), some (.int x3), some (.int x4), some (.int (x5 + (1 : Int32))), none, none]) ⟨Or.inr rfl, Or.inr rfl, Or.inr rfl, Or.inr rfl, Or.inr rfl, Or.inr rfl, Or.inl rfl, Or.inl rfl, trivial⟩ hr
noncomputable def fA_layRow_122_3_17_14 (x3 : Int32) (x4 : Int32) (x5 : Int32) (g : s_G) : Option ((Int32 × Int32 × s_G) ⊕ (s_G)) :=
  if x5 < (g.1 122 1) then (s_lp (fun x => fA_layRow_122_3_17_26 x3 x4 x5 x g) (0 : Int32))
  else s_in (some g)
theorem fA_layRow_122_3_17_14_s {x3 : Int32} {x4 : Int32} {x5 : Int32} {g : s_G} {z : (Int32 × Int32 × s_G) ⊕ (s_G)} (hB : fA_layRow_122_3_17_14 x3 x4 x5 g = some z) {v : Option Value} {h' : s_H} (hr : (s_sm (fun (x : Int32 × Int32 × s_G) (v : Option Value) (h' : s_H) => s_Fin 2 s_m91 (14, [some (.ref 122), some (.ref 3), some (.ref 17), some (.int x3), some (.int x.1), some (.int x.2.1), none, none], [], s_hg x.2.2) v h') (fun (z : s_G) (v : Option Value) (h' : s_H) => v = none ∧ h' = s_hg z)) z v h') : s_Fin 2 s_m91 (14, [some (.ref 122), some (.ref 3), some (.ref 17), some (.int x3), some (.int x4), some (.int x5), none, none], [], s_hg g) v h' := by
  unfold fA_layRow_122_3_17_14 at hB
  refine s_Fin.sg 3 (y := (20, [some (.ref 122), some (.ref 3), some (.ref 17), some (.int x3), some (.int x4), some (.int x5), none, none], [.int (g.1 122 1), .int x5], s_hg g)) rfl ?_
  by_cases hc : x5 < (g.1 122 1)
  · rw [if_pos hc] at hB
    refine s_Fin.bf (c := (g.1 122 1) ≤ x5) (tg := 127) (p2 := 20) (L1 := [some (.ref 122), some (.ref 3), some (.ref 17), some (.int x3), some (.int x4), some (.int x5), none, none]) (st1 := []) (Int32.not_le.mpr hc) rfl ?_
    refine s_Fin.sg 2 (y := (26, [some (.ref 122), some (.ref 3), some (.ref 17), some (.int x3), some (.int x4), some (.int x5), some (.int (0 : Int32)), none], [], s_hg g)) rfl ?_
    exact s_Fin.more (L := [some (.ref 122), some (.ref 3), some (.ref 17), some (.int x3), some (.int x4), some (.int x5), some (.int (0 : Int32)), none]) ⟨Or.inr rfl, Or.inr rfl, Or.inr rfl, Or.inr rfl, Or.inr rfl, Or.inr rfl, Or.inr rfl, Or.inl rfl, trivial⟩ (s_lp_s (P := (fun (x : Int32) (v : Option Value) (h' : s_H) => s_Fin 2 s_m91 (26, [some (.ref 122), some (.ref 3), some (.ref 17), some (.int x3), some (.int x4), some (.int x5), some (.int x), none], [], s_hg g) v h')) (Q := (s_sm (fun (x : Int32 × Int32 × s_G) (v : Option Value) (h' : s_H) => s_Fin 2 s_m91 (14, [some (.ref 122), some (.ref 3), some (.ref 17), some (.int x3), some (.int x.1), some (.int x.2.1), none, none], [], s_hg x.2.2) v h') (fun (z : s_G) (v : Option Value) (h' : s_H) => v = none ∧ h' = s_hg z))) (fun x z hB v h' hr => fA_layRow_122_3_17_26_s hB hr) hB _ _ hr)
  · rw [if_neg hc] at hB
    refine s_Fin.bt (c := (g.1 122 1) ≤ x5) (tg := 127) (p2 := 20) (L1 := [some (.ref 122), some (.ref 3), some (.ref 17), some (.int x3), some (.int x4), some (.int x5), none, none]) (st1 := []) (Int32.not_lt.mp hc) rfl ?_
    obtain ⟨_, hN, hz⟩ := s_in_of hB
    subst hz
    have hB := hN
    have hB := Option.some.inj hB
    subst hB
    obtain ⟨rfl, rfl⟩ := hr
    exact s_Fin.rt rfl rfl
noncomputable def fA_layRow_122_3_17 (x3 : Int32) (g : s_G) : Option (s_G) :=
  s_b1 (fJ_bitCount_s x3 g) fun v1 => s_lp (fun x => fA_layRow_122_3_17_14 x3 x.1 x.2.1 x.2.2) ((0 : Int32), (0 : Int32), (s_si g 122 1 v1))
theorem fA_layRow_122_3_17_s {x3 : Int32} {g : s_G} {z : s_G} (hB : fA_layRow_122_3_17 x3 g = some z) : s_Ev 2 s_m91 [.ref 122, .ref 3, .ref 17, .int x3] (s_hg g) (none) (s_hg z) := by
  unfold fA_layRow_122_3_17 at hB
  refine s_Ev.fin ((?_ : ∀ (v : Option Value) (h' : s_H), (fun (z : s_G) (v : Option Value) (h' : s_H) => v = none ∧ h' = s_hg z) z v h' → s_Fin 2 s_m91 (0, s_ent [.ref 122, .ref 3, .ref 17, .int x3] (s_m91).2.2.1, [], s_hg g) v h') _ _ ⟨rfl, rfl⟩)
  intro v h' hr
  refine (show s_Fin 2 s_m91 (0, [some (.ref 122), some (.ref 3), some (.ref 17), some (.int x3), none, none, none, none], [], s_hg g) v h' from ?_)
  refine s_Fin.sg 4 (y := (5, [some (.ref 122), some (.ref 3), some (.ref 17), some (.int x3), some (.int (0 : Int32)), none, none, none], [.int x3, .ref 122], s_hg g)) rfl ?_
  obtain ⟨v1, hp, hB⟩ := s_bd hB
  refine s_Fin.cl (d := 1) (q1 := s_m89) (md := 89) (vs := [.int x3]) (rest := [.ref 122]) (h1 := s_hg g) (u := some (.int v1)) (s_Ev.up (by omega) (fJ_bitCount_s_s hp)) rfl rfl rfl rfl ?_
  refine s_Fin.sg 3 (y := (14, [some (.ref 122), some (.ref 3), some (.ref 17), some (.int x3), some (.int (0 : Int32)), some (.int (0 : Int32)), none, none], [], s_hg (s_si g 122 1 v1))) rfl ?_
  exact s_Fin.more (L := [some (.ref 122), some (.ref 3), some (.ref 17), some (.int x3), some (.int (0 : Int32)), some (.int (0 : Int32)), none, none]) ⟨Or.inr rfl, Or.inr rfl, Or.inr rfl, Or.inr rfl, Or.inr rfl, Or.inr rfl, Or.inl rfl, Or.inl rfl, trivial⟩ (s_lp_s (P := (fun (x : Int32 × Int32 × s_G) (v : Option Value) (h' : s_H) => s_Fin 2 s_m91 (14, [some (.ref 122), some (.ref 3), some (.ref 17), some (.int x3), some (.int x.1), some (.int x.2.1), none, none], [], s_hg x.2.2) v h')) (Q := (fun (z : s_G) (v : Option Value) (h' : s_H) => v = none ∧ h' = s_hg z)) (fun x z hB v h' hr => fA_layRow_122_3_17_14_s hB hr) hB _ _ hr)
-- CampAshes$Advice.findBest
noncomputable def fA_findBest_122_3_17_27 (x3 : Int32) (x4 : Int32) (x5 : Int32) (g : s_G) : Option ((Int32 × s_G) ⊕ ((Int32 × s_G) ⊕ (Int32 × s_G))) :=
  if x5 < (g.1 3 0) then (if ((x3 &&& (x4 ^^^ (-1 : Int32))) &&& ((1 : Int32) <<< (x5 &&& 31))) = 0 then (some (.inl (x5 + (1 : Int32), g)))
  else s_b1 (s_ix 128 x4) fun k7 => s_b1 (fA_takenBy_122_3_17 x5 x4 g) fun v8 => s_b1 (s_ix 128 (x4 ||| ((1 : Int32) <<< (x5 &&& 31)))) fun k10 => some (.inl (x5 + (1 : Int32), (s_si g 126 k7 (if (g.1 126 k7) < (v8 + (g.1 126 k10)) then (v8 + (g.1 126 k10)) else (g.1 126 k7))))))
  else s_in (some (.inl (x4 + (-1 : Int32), g)))
theorem fA_findBest_122_3_17_27_s {x3 : Int32} {x4 : Int32} {x5 : Int32} {g : s_G} {z : (Int32 × s_G) ⊕ ((Int32 × s_G) ⊕ (Int32 × s_G))} (hB : fA_findBest_122_3_17_27 x3 x4 x5 g = some z) {v : Option Value} {h' : s_H} (hr : (s_sm (fun (x : Int32 × s_G) (v : Option Value) (h' : s_H) => s_Fin 3 s_m85 (27, [some (.ref 122), some (.ref 3), some (.ref 17), some (.int x3), some (.int x4), some (.int x.1)], [], s_hg x.2) v h') (s_sm (fun (x : Int32 × s_G) (v : Option Value) (h' : s_H) => s_Fin 3 s_m85 (11, [some (.ref 122), some (.ref 3), some (.ref 17), some (.int x3), some (.int x.1), none], [], s_hg x.2) v h') (fun (z : Int32 × s_G) (v : Option Value) (h' : s_H) => v = some (.int z.1) ∧ h' = s_hg z.2))) z v h') : s_Fin 3 s_m85 (27, [some (.ref 122), some (.ref 3), some (.ref 17), some (.int x3), some (.int x4), some (.int x5)], [], s_hg g) v h' := by
  unfold fA_findBest_122_3_17_27 at hB
  refine s_Fin.sg 3 (y := (33, [some (.ref 122), some (.ref 3), some (.ref 17), some (.int x3), some (.int x4), some (.int x5)], [.int (g.1 3 0), .int x5], s_hg g)) rfl ?_
  by_cases hc : x5 < (g.1 3 0)
  · rw [if_pos hc] at hB
    refine s_Fin.bf (c := (g.1 3 0) ≤ x5) (tg := 96) (p2 := 33) (L1 := [some (.ref 122), some (.ref 3), some (.ref 17), some (.int x3), some (.int x4), some (.int x5)]) (st1 := []) (Int32.not_le.mpr hc) rfl ?_
    refine s_Fin.sg 9 (y := (47, [some (.ref 122), some (.ref 3), some (.ref 17), some (.int x3), some (.int x4), some (.int x5)], [.int ((x3 &&& (x4 ^^^ (-1 : Int32))) &&& ((1 : Int32) <<< (x5 &&& 31)))], s_hg g)) rfl ?_
    by_cases hc : ((x3 &&& (x4 ^^^ (-1 : Int32))) &&& ((1 : Int32) <<< (x5 &&& 31))) = 0
    · rw [if_pos hc] at hB
      refine s_Fin.bt (c := ((x3 &&& (x4 ^^^ (-1 : Int32))) &&& ((1 : Int32) <<< (x5 &&& 31))) = 0) (tg := 90) (p2 := 47) (L1 := [some (.ref 122), some (.ref 3), some (.ref 17), some (.int x3), some (.int x4), some (.int x5)]) (st1 := []) hc rfl ?_
      refine s_Fin.sg 2 (y := (27, [some (.ref 122), some (.ref 3), some (.ref 17), some (.int x3), some (.int x4), some (.int (x5 + (1 : Int32)))], [], s_hg g)) rfl ?_
      have hB := Option.some.inj hB
      subst hB
      exact s_Fin.more (L := [some (.ref 122), some (.ref 3), some (.ref 17), some (.int x3), some (.int x4), some (.int (x5 + (1 : Int32)))]) ⟨Or.inr rfl, Or.inr rfl, Or.inr rfl, Or.inr rfl, Or.inr rfl, Or.inr rfl, trivial⟩ hr
    · rw [if_neg hc] at hB
      refine s_Fin.bf (c := ((x3 &&& (x4 ^^^ (-1 : Int32))) &&& ((1 : Int32) <<< (x5 &&& 31))) = 0) (tg := 90) (p2 := 47) (L1 := [some (.ref 122), some (.ref 3), some (.ref 17), some (.int x3), some (.int x4), some (.int x5)]) (st1 := []) hc rfl ?_
      refine s_Fin.sg 6 (y := (62, [some (.ref 122), some (.ref 3), some (.ref 17), some (.int x3), some (.int x4), some (.int x5)], [.int x4, .ref 126, .int x4, .ref 126], s_hg g)) rfl ?_
      obtain ⟨k7, hk7, hB⟩ := s_bd hB
      refine s_Fin.ix (n := 128) (i := x4) (pc1 := 63) (L1 := [some (.ref 122), some (.ref 3), some (.ref 17), some (.int x3), some (.int x4), some (.int x5)]) (fun j6 => [.int (g.1 126 j6), .int x4, .ref 126]) (fun j6 => s_hg g) hk7 rfl rfl ?_
      refine s_Fin.sg 5 (y := (70, [some (.ref 122), some (.ref 3), some (.ref 17), some (.int x3), some (.int x4), some (.int x5)], [.int x4, .int x5, .ref 17, .ref 3, .ref 122, .int (g.1 126 k7), .int x4, .ref 126], s_hg g)) rfl ?_
      obtain ⟨v8, hp, hB⟩ := s_bd hB
      refine s_Fin.cl (d := 2) (q1 := s_m88) (md := 88) (vs := [.ref 122, .ref 3, .ref 17, .int x5, .int x4]) (rest := [.int (g.1 126 k7), .int x4, .ref 126]) (h1 := s_hg g) (u := some (.int v8)) (s_Ev.up (by omega) (fA_takenBy_122_3_17_s hp)) rfl rfl rfl rfl ?_
      refine s_Fin.sg 7 (y := (84, [some (.ref 122), some (.ref 3), some (.ref 17), some (.int x3), some (.int x4), some (.int x5)], [.int (x4 ||| ((1 : Int32) <<< (x5 &&& 31))), .ref 126, .int v8, .int (g.1 126 k7), .int x4, .ref 126], s_hg g)) rfl ?_
      obtain ⟨k10, hk10, hB⟩ := s_bd hB
      refine s_Fin.ix (n := 128) (i := x4 ||| ((1 : Int32) <<< (x5 &&& 31))) (pc1 := 85) (L1 := [some (.ref 122), some (.ref 3), some (.ref 17), some (.int x3), some (.int x4), some (.int x5)]) (fun j9 => [.int (g.1 126 j9), .int v8, .int (g.1 126 k7), .int x4, .ref 126]) (fun j9 => s_hg g) hk10 rfl rfl ?_
      refine s_Fin.sg 2 (y := (89, [some (.ref 122), some (.ref 3), some (.ref 17), some (.int x3), some (.int x4), some (.int x5)], [.int (if (g.1 126 k7) < (v8 + (g.1 126 k10)) then (v8 + (g.1 126 k10)) else (g.1 126 k7)), .int x4, .ref 126], s_hg g)) rfl ?_
      refine s_Fin.ix (n := 128) (i := x4) (pc1 := 90) (L1 := [some (.ref 122), some (.ref 3), some (.ref 17), some (.int x3), some (.int x4), some (.int x5)]) (fun j11 => []) (fun j11 => s_hg (s_si g 126 j11 (if (g.1 126 k7) < (v8 + (g.1 126 k10)) then (v8 + (g.1 126 k10)) else (g.1 126 k7)))) hk7 rfl rfl ?_
      refine s_Fin.sg 2 (y := (27, [some (.ref 122), some (.ref 3), some (.ref 17), some (.int x3), some (.int x4), some (.int (x5 + (1 : Int32)))], [], s_hg (s_si g 126 k7 (if (g.1 126 k7) < (v8 + (g.1 126 k10)) then (v8 + (g.1 126 k10)) else (g.1 126 k7))))) rfl ?_
      have hB := Option.some.inj hB
      subst hB
      exact s_Fin.more (L := [some (.ref 122), some (.ref 3), some (.ref 17), some (.int x3), some (.int x4), some (.int (x5 + (1 : Int32)))]) ⟨Or.inr rfl, Or.inr rfl, Or.inr rfl, Or.inr rfl, Or.inr rfl, Or.inr rfl, trivial⟩ hr
  · rw [if_neg hc] at hB
    refine s_Fin.bt (c := (g.1 3 0) ≤ x5) (tg := 96) (p2 := 33) (L1 := [some (.ref 122), some (.ref 3), some (.ref 17), some (.int x3), some (.int x4), some (.int x5)]) (st1 := []) (Int32.not_lt.mp hc) rfl ?_
    obtain ⟨_, hN, hz⟩ := s_in_of hB
    subst hz
    have hB := hN
    refine s_Fin.sg 2 (y := (11, [some (.ref 122), some (.ref 3), some (.ref 17), some (.int x3), some (.int (x4 + (-1 : Int32))), some (.int x5)], [], s_hg g)) rfl ?_
    have hB := Option.some.inj hB
    subst hB
    exact s_Fin.more (L := [some (.ref 122), some (.ref 3), some (.ref 17), some (.int x3), some (.int (x4 + (-1 : Int32))), none]) ⟨Or.inr rfl, Or.inr rfl, Or.inr rfl, Or.inr rfl, Or.inr rfl, Or.inl rfl, trivial⟩ hr
noncomputable def fA_findBest_122_3_17_11 (x3 : Int32) (x4 : Int32) (g : s_G) : Option ((Int32 × s_G) ⊕ (Int32 × s_G)) :=
  if x4 < 0 then (s_in (s_b1 (fA_layRow_122_3_17 x3 g) fun g3 => some (g3.1 126 0, g3)))
  else s_b1 (s_ix 128 x4) fun k5 => s_lp (fun x => fA_findBest_122_3_17_27 x3 x4 x.1 x.2) ((0 : Int32), (s_si g 126 k5 (0 : Int32)))
theorem fA_findBest_122_3_17_11_s {x3 : Int32} {x4 : Int32} {g : s_G} {z : (Int32 × s_G) ⊕ (Int32 × s_G)} (hB : fA_findBest_122_3_17_11 x3 x4 g = some z) {v : Option Value} {h' : s_H} (hr : (s_sm (fun (x : Int32 × s_G) (v : Option Value) (h' : s_H) => s_Fin 3 s_m85 (11, [some (.ref 122), some (.ref 3), some (.ref 17), some (.int x3), some (.int x.1), none], [], s_hg x.2) v h') (fun (z : Int32 × s_G) (v : Option Value) (h' : s_H) => v = some (.int z.1) ∧ h' = s_hg z.2)) z v h') : s_Fin 3 s_m85 (11, [some (.ref 122), some (.ref 3), some (.ref 17), some (.int x3), some (.int x4), none], [], s_hg g) v h' := by
  unfold fA_findBest_122_3_17_11 at hB
  refine s_Fin.sg 1 (y := (13, [some (.ref 122), some (.ref 3), some (.ref 17), some (.int x3), some (.int x4), none], [.int x4], s_hg g)) rfl ?_
  by_cases hc : x4 < 0
  · rw [if_pos hc] at hB
    refine s_Fin.bt (c := x4 < 0) (tg := 102) (p2 := 13) (L1 := [some (.ref 122), some (.ref 3), some (.ref 17), some (.int x3), some (.int x4), none]) (st1 := []) hc rfl ?_
    obtain ⟨_, hN, hz⟩ := s_in_of hB
    subst hz
    have hB := hN
    refine s_Fin.sg 4 (y := (106, [some (.ref 122), some (.ref 3), some (.ref 17), some (.int x3), some (.int x4), none], [.int x3, .ref 17, .ref 3, .ref 122], s_hg g)) rfl ?_
    obtain ⟨g3, hp, hB⟩ := s_bd hB
    refine s_Fin.cl (d := 2) (q1 := s_m91) (md := 91) (vs := [.ref 122, .ref 3, .ref 17, .int x3]) (rest := []) (h1 := s_hg g3) (u := none) (s_Ev.up (by omega) (fA_layRow_122_3_17_s hp)) rfl rfl rfl rfl ?_
    refine s_Fin.sg 4 (y := (115, [some (.ref 122), some (.ref 3), some (.ref 17), some (.int x3), some (.int x4), none], [.int (g3.1 126 0)], s_hg g3)) rfl ?_
    have hB := Option.some.inj hB
    subst hB
    obtain ⟨rfl, rfl⟩ := hr
    exact s_Fin.rt rfl rfl
  · rw [if_neg hc] at hB
    refine s_Fin.bf (c := x4 < 0) (tg := 102) (p2 := 13) (L1 := [some (.ref 122), some (.ref 3), some (.ref 17), some (.int x3), some (.int x4), none]) (st1 := []) hc rfl ?_
    refine s_Fin.sg 4 (y := (23, [some (.ref 122), some (.ref 3), some (.ref 17), some (.int x3), some (.int x4), none], [.int (0 : Int32), .int x4, .ref 126], s_hg g)) rfl ?_
    obtain ⟨k5, hk5, hB⟩ := s_bd hB
    refine s_Fin.ix (n := 128) (i := x4) (pc1 := 24) (L1 := [some (.ref 122), some (.ref 3), some (.ref 17), some (.int x3), some (.int x4), none]) (fun j4 => []) (fun j4 => s_hg (s_si g 126 j4 (0 : Int32))) hk5 rfl rfl ?_
    refine s_Fin.sg 2 (y := (27, [some (.ref 122), some (.ref 3), some (.ref 17), some (.int x3), some (.int x4), some (.int (0 : Int32))], [], s_hg (s_si g 126 k5 (0 : Int32)))) rfl ?_
    exact s_Fin.more (L := [some (.ref 122), some (.ref 3), some (.ref 17), some (.int x3), some (.int x4), some (.int (0 : Int32))]) ⟨Or.inr rfl, Or.inr rfl, Or.inr rfl, Or.inr rfl, Or.inr rfl, Or.inr rfl, trivial⟩ (s_lp_s (P := (fun (x : Int32 × s_G) (v : Option Value) (h' : s_H) => s_Fin 3 s_m85 (27, [some (.ref 122), some (.ref 3), some (.ref 17), some (.int x3), some (.int x4), some (.int x.1)], [], s_hg x.2) v h')) (Q := (s_sm (fun (x : Int32 × s_G) (v : Option Value) (h' : s_H) => s_Fin 3 s_m85 (11, [some (.ref 122), some (.ref 3), some (.ref 17), some (.int x3), some (.int x.1), none], [], s_hg x.2) v h') (fun (z : Int32 × s_G) (v : Option Value) (h' : s_H) => v = some (.int z.1) ∧ h' = s_hg z.2))) (fun x z hB v h' hr => fA_findBest_122_3_17_27_s hB hr) hB _ _ hr)
noncomputable def fA_findBest_122_3_17 (g : s_G) : Option (Int32 × s_G) :=
  s_b2 (fA_findTellers_122_3_17 g) fun v2 g1 => s_lp (fun x => fA_findBest_122_3_17_11 v2 x.1 x.2) ((127 : Int32), g1)
theorem fA_findBest_122_3_17_s {g : s_G} {z : Int32 × s_G} (hB : fA_findBest_122_3_17 g = some z) : s_Ev 3 s_m85 [.ref 122, .ref 3, .ref 17] (s_hg g) (some (.int z.1)) (s_hg z.2) := by
  unfold fA_findBest_122_3_17 at hB
  refine s_Ev.fin ((?_ : ∀ (v : Option Value) (h' : s_H), (fun (z : Int32 × s_G) (v : Option Value) (h' : s_H) => v = some (.int z.1) ∧ h' = s_hg z.2) z v h' → s_Fin 3 s_m85 (0, s_ent [.ref 122, .ref 3, .ref 17] (s_m85).2.2.1, [], s_hg g) v h') _ _ ⟨rfl, rfl⟩)
  intro v h' hr
  refine (show s_Fin 3 s_m85 (0, [some (.ref 122), some (.ref 3), some (.ref 17), none, none, none], [], s_hg g) v h' from ?_)
  refine s_Fin.sg 3 (y := (3, [some (.ref 122), some (.ref 3), some (.ref 17), none, none, none], [.ref 17, .ref 3, .ref 122], s_hg g)) rfl ?_
  obtain ⟨v2, g1, hp, hB⟩ := s_bd2 hB
  refine s_Fin.cl (d := 2) (q1 := s_m86) (md := 86) (vs := [.ref 122, .ref 3, .ref 17]) (rest := []) (h1 := s_hg g1) (u := some (.int v2)) (s_Ev.up (by omega) (fA_findTellers_122_3_17_s hp)) rfl rfl rfl rfl ?_
  refine s_Fin.sg 3 (y := (11, [some (.ref 122), some (.ref 3), some (.ref 17), some (.int v2), some (.int (127 : Int32)), none], [], s_hg g1)) rfl ?_
  exact s_Fin.more (L := [some (.ref 122), some (.ref 3), some (.ref 17), some (.int v2), some (.int (127 : Int32)), none]) ⟨Or.inr rfl, Or.inr rfl, Or.inr rfl, Or.inr rfl, Or.inr rfl, Or.inl rfl, trivial⟩ (s_lp_s (P := (fun (x : Int32 × s_G) (v : Option Value) (h' : s_H) => s_Fin 3 s_m85 (11, [some (.ref 122), some (.ref 3), some (.ref 17), some (.int v2), some (.int x.1), none], [], s_hg x.2) v h')) (Q := (fun (z : Int32 × s_G) (v : Option Value) (h' : s_H) => v = some (.int z.1) ∧ h' = s_hg z.2)) (fun x z hB v h' hr => fA_findBest_122_3_17_11_s hB hr) hB _ _ hr)
-- CampAshes.best
noncomputable def fC_best_0 (g : s_G) : Option (Int32 × s_G) :=
  s_b2 (fA_findBest_122_3_17 g) fun v2 g1 => some (v2, g1)
theorem fC_best_0_s {g : s_G} {z : Int32 × s_G} (hB : fC_best_0 g = some z) : s_Ev 4 s_m84 [.ref 0] (s_hg g) (some (.int z.1)) (s_hg z.2) := by
  unfold fC_best_0 at hB
  refine s_Ev.fin ((?_ : ∀ (v : Option Value) (h' : s_H), (fun (z : Int32 × s_G) (v : Option Value) (h' : s_H) => v = some (.int z.1) ∧ h' = s_hg z.2) z v h' → s_Fin 4 s_m84 (0, s_ent [.ref 0] (s_m84).2.2.1, [], s_hg g) v h') _ _ ⟨rfl, rfl⟩)
  intro v h' hr
  refine (show s_Fin 4 s_m84 (0, [some (.ref 0)], [], s_hg g) v h' from ?_)
  refine s_Fin.sg 6 (y := (12, [some (.ref 0)], [.ref 17, .ref 3, .ref 122], s_hg g)) rfl ?_
  obtain ⟨v2, g1, hp, hB⟩ := s_bd2 hB
  refine s_Fin.cl (d := 3) (q1 := s_m85) (md := 85) (vs := [.ref 122, .ref 3, .ref 17]) (rest := []) (h1 := s_hg g1) (u := some (.int v2)) (s_Ev.up (by omega) (fA_findBest_122_3_17_s hp)) rfl rfl rfl rfl ?_
  have hB := Option.some.inj hB
  subst hB
  obtain ⟨rfl, rfl⟩ := hr
  exact s_Fin.rt rfl rfl
-- CampAshesModel.bestAt
noncomputable def fM_bestAt_130 (x1 : Int32) (g : s_G) : Option (Int32 × s_G) :=
  s_b1 (fM_isIn_s x1 (0 : Int32) ((g.1 130 28) - (1 : Int32)) (s_si g 130 0 (0 : Int32))) fun v1 => if v1 = 0 then (some ((-1 : Int32), (s_si g 130 0 (0 : Int32))))
  else s_b1 (s_ix 7 x1) fun k3 => some (g.1 144 k3, (s_si g 130 0 (0 : Int32)))
theorem fM_bestAt_130_s {x1 : Int32} {g : s_G} {z : Int32 × s_G} (hB : fM_bestAt_130 x1 g = some z) : s_Ev 1 s_m234 [.ref 130, .int x1] (s_hg g) (some (.int z.1)) (s_hg z.2) := by
  unfold fM_bestAt_130 at hB
  refine s_Ev.fin ((?_ : ∀ (v : Option Value) (h' : s_H), (fun (z : Int32 × s_G) (v : Option Value) (h' : s_H) => v = some (.int z.1) ∧ h' = s_hg z.2) z v h' → s_Fin 1 s_m234 (0, s_ent [.ref 130, .int x1] (s_m234).2.2.1, [], s_hg g) v h') _ _ ⟨rfl, rfl⟩)
  intro v h' hr
  refine (show s_Fin 1 s_m234 (0, [some (.ref 130), some (.int x1)], [], s_hg g) v h' from ?_)
  refine s_Fin.sg 9 (y := (13, [some (.ref 130), some (.int x1)], [.int ((g.1 130 28) - (1 : Int32)), .int (0 : Int32), .int x1], s_hg (s_si g 130 0 (0 : Int32)))) rfl ?_
  obtain ⟨v1, hp, hB⟩ := s_bd hB
  refine s_Fin.cl (d := 0) (q1 := s_m181) (md := 181) (vs := [.int x1, .int (0 : Int32), .int ((g.1 130 28) - (1 : Int32))]) (rest := []) (h1 := s_hg (s_si g 130 0 (0 : Int32))) (u := some (.int v1)) (s_Ev.up (by omega) (fM_isIn_s_s hp)) rfl rfl rfl rfl ?_
  by_cases hc : v1 = 0
  · rw [if_pos hc] at hB
    refine s_Fin.bt (c := v1 = 0) (tg := 28) (p2 := 16) (L1 := [some (.ref 130), some (.int x1)]) (st1 := []) hc rfl ?_
    refine s_Fin.sg 1 (y := (29, [some (.ref 130), some (.int x1)], [.int (-1 : Int32)], s_hg (s_si g 130 0 (0 : Int32)))) rfl ?_
    have hB := Option.some.inj hB
    subst hB
    obtain ⟨rfl, rfl⟩ := hr
    exact s_Fin.rt rfl rfl
  · rw [if_neg hc] at hB
    refine s_Fin.bf (c := v1 = 0) (tg := 28) (p2 := 16) (L1 := [some (.ref 130), some (.int x1)]) (st1 := []) hc rfl ?_
    refine s_Fin.sg 3 (y := (24, [some (.ref 130), some (.int x1)], [.int x1, .ref 144], s_hg (s_si g 130 0 (0 : Int32)))) rfl ?_
    obtain ⟨k3, hk3, hB⟩ := s_bd hB
    refine s_Fin.ix (n := 7) (i := x1) (pc1 := 25) (L1 := [some (.ref 130), some (.int x1)]) (fun j2 => [.int (g.1 144 j2)]) (fun j2 => s_hg (s_si g 130 0 (0 : Int32))) hk3 rfl rfl ?_
    refine s_Fin.sg 1 (y := (29, [some (.ref 130), some (.int x1)], [.int (g.1 144 k3)], s_hg (s_si g 130 0 (0 : Int32)))) rfl ?_
    have hB := Option.some.inj hB
    subst hB
    obtain ⟨rfl, rfl⟩ := hr
    exact s_Fin.rt rfl rfl
-- CampAshes.bestAt
noncomputable def fC_bestAt_0 (x1 : Int32) (g : s_G) : Option (Int32) :=
  if x1 < 0 then (some (-1 : Int32))
  else if x1 < (g.1 122 1) then (s_b1 (s_ix 7 x1) fun k2 => some (g.1 123 k2))
  else some (-1 : Int32)
theorem fC_bestAt_0_s {x1 : Int32} {g : s_G} {z : Int32} (hB : fC_bestAt_0 x1 g = some z) : s_Ev 0 s_m92 [.ref 0, .int x1] (s_hg g) (some (.int z)) (s_hg g) := by
  unfold fC_bestAt_0 at hB
  refine s_Ev.fin ((?_ : ∀ (v : Option Value) (h' : s_H), (fun (z : Int32) (v : Option Value) (h' : s_H) => v = some (.int z) ∧ h' = s_hg g) z v h' → s_Fin 0 s_m92 (0, s_ent [.ref 0, .int x1] (s_m92).2.2.1, [], s_hg g) v h') _ _ ⟨rfl, rfl⟩)
  intro v h' hr
  refine (show s_Fin 0 s_m92 (0, [some (.ref 0), some (.int x1)], [], s_hg g) v h' from ?_)
  refine s_Fin.sg 1 (y := (1, [some (.ref 0), some (.int x1)], [.int x1], s_hg g)) rfl ?_
  by_cases hc : x1 < 0
  · rw [if_pos hc] at hB
    refine s_Fin.bt (c := x1 < 0) (tg := 27) (p2 := 1) (L1 := [some (.ref 0), some (.int x1)]) (st1 := []) hc rfl ?_
    refine s_Fin.sg 1 (y := (28, [some (.ref 0), some (.int x1)], [.int (-1 : Int32)], s_hg g)) rfl ?_
    have hB := Option.some.inj hB
    subst hB
    obtain ⟨rfl, rfl⟩ := hr
    exact s_Fin.rt rfl rfl
  · rw [if_neg hc] at hB
    refine s_Fin.bf (c := x1 < 0) (tg := 27) (p2 := 1) (L1 := [some (.ref 0), some (.int x1)]) (st1 := []) hc rfl ?_
    refine s_Fin.sg 4 (y := (12, [some (.ref 0), some (.int x1)], [.int (g.1 122 1), .int x1], s_hg g)) rfl ?_
    by_cases hc : x1 < (g.1 122 1)
    · rw [if_pos hc] at hB
      refine s_Fin.bf (c := (g.1 122 1) ≤ x1) (tg := 27) (p2 := 12) (L1 := [some (.ref 0), some (.int x1)]) (st1 := []) (Int32.not_le.mpr hc) rfl ?_
      refine s_Fin.sg 4 (y := (23, [some (.ref 0), some (.int x1)], [.int x1, .ref 123], s_hg g)) rfl ?_
      obtain ⟨k2, hk2, hB⟩ := s_bd hB
      refine s_Fin.ix (n := 7) (i := x1) (pc1 := 24) (L1 := [some (.ref 0), some (.int x1)]) (fun j1 => [.int (g.1 123 j1)]) (fun j1 => s_hg g) hk2 rfl rfl ?_
      refine s_Fin.sg 1 (y := (28, [some (.ref 0), some (.int x1)], [.int (g.1 123 k2)], s_hg g)) rfl ?_
      have hB := Option.some.inj hB
      subst hB
      obtain ⟨rfl, rfl⟩ := hr
      exact s_Fin.rt rfl rfl
    · rw [if_neg hc] at hB
      refine s_Fin.bt (c := (g.1 122 1) ≤ x1) (tg := 27) (p2 := 12) (L1 := [some (.ref 0), some (.int x1)]) (st1 := []) (Int32.not_lt.mp hc) rfl ?_
      refine s_Fin.sg 1 (y := (28, [some (.ref 0), some (.int x1)], [.int (-1 : Int32)], s_hg g)) rfl ?_
      have hB := Option.some.inj hB
      subst hB
      obtain ⟨rfl, rfl⟩ := hr
      exact s_Fin.rt rfl rfl
-- CampAshesModel.spread
noncomputable def fM_spread_130_125 (x1 : Int32) (x3 : Int32) (x4 : Int32) (t0 : Int32) (t1 : Int32) (g : s_G) : Option ((Int32 × Int32 × s_G) ⊕ (Int32 × s_G)) :=
  s_b1 (s_ix 7 t1) fun k10 => s_b1 (s_ix 7 x4) fun k12 => some (.inl (x3 - ((s_si g 145 k10 t0).1 145 k12), x4 + (1 : Int32), (s_si g 145 k10 t0)))
theorem fM_spread_130_125_s {x1 : Int32} {x3 : Int32} {x4 : Int32} {t0 : Int32} {t1 : Int32} {g : s_G} {z : (Int32 × Int32 × s_G) ⊕ (Int32 × s_G)} (hB : fM_spread_130_125 x1 x3 x4 t0 t1 g = some z) {v : Option Value} {h' : s_H} (hr : (s_sm (fun (x : Int32 × Int32 × s_G) (v : Option Value) (h' : s_H) => s_Fin 3 s_m235 (74, [some (.ref 130), some (.int x1), none, some (.int x.1), some (.int x.2.1)], [], s_hg x.2.2) v h') (fun (z : Int32 × s_G) (v : Option Value) (h' : s_H) => v = some (.int z.1) ∧ h' = s_hg z.2)) z v h') : s_Fin 3 s_m235 (125, [some (.ref 130), some (.int x1), none, some (.int x3), some (.int x4)], [.int t0, .int t1, .ref 145], s_hg g) v h' := by
  unfold fM_spread_130_125 at hB
  obtain ⟨k10, hk10, hB⟩ := s_bd hB
  refine s_Fin.ix (n := 7) (i := t1) (pc1 := 126) (L1 := [some (.ref 130), some (.int x1), none, some (.int x3), some (.int x4)]) (fun j9 => []) (fun j9 => s_hg (s_si g 145 j9 t0)) hk10 rfl rfl ?_
  refine s_Fin.sg 4 (y := (133, [some (.ref 130), some (.int x1), none, some (.int x3), some (.int x4)], [.int x4, .ref 145, .int x3], s_hg (s_si g 145 k10 t0))) rfl ?_
  obtain ⟨k12, hk12, hB⟩ := s_bd hB
  refine s_Fin.ix (n := 7) (i := x4) (pc1 := 134) (L1 := [some (.ref 130), some (.int x1), none, some (.int x3), some (.int x4)]) (fun j11 => [.int ((s_si g 145 k10 t0).1 145 j11), .int x3]) (fun j11 => s_hg (s_si g 145 k10 t0)) hk12 rfl rfl ?_
  refine s_Fin.sg 4 (y := (74, [some (.ref 130), some (.int x1), none, some (.int (x3 - ((s_si g 145 k10 t0).1 145 k12))), some (.int (x4 + (1 : Int32)))], [], s_hg (s_si g 145 k10 t0))) rfl ?_
  have hB := Option.some.inj hB
  subst hB
  exact s_Fin.more (L := [some (.ref 130), some (.int x1), none, some (.int (x3 - ((s_si g 145 k10 t0).1 145 k12))), some (.int (x4 + (1 : Int32)))]) ⟨Or.inr rfl, Or.inr rfl, Or.inl rfl, Or.inr rfl, Or.inr rfl, trivial⟩ hr
noncomputable def fM_spread_130_74 (x1 : Int32) (x3 : Int32) (x4 : Int32) (g : s_G) : Option ((Int32 × Int32 × s_G) ⊕ (Int32 × s_G)) :=
  if x4 < (g.1 132 0) then (s_b1 (fM_isOver_130 x4 g) fun v4 => if v4 = 0 then (s_b1 (s_ix 375 ((10 : Int32) + x4)) fun k6 => s_b1 (fM_loadOf_130 x4 g) fun v7 => s_b1 (fM_least_s x3 ((g.1 132 k6) - v7) g) fun v8 => fM_spread_130_125 x1 x3 x4 v8 x4 g)
  else fM_spread_130_125 x1 x3 x4 (0 : Int32) x4 g)
  else s_in (some (x1, (s_si (s_si g 130 30 (g.1 132 0)) 130 31 (1 : Int32))))
theorem fM_spread_130_74_s {x1 : Int32} {x3 : Int32} {x4 : Int32} {g : s_G} {z : (Int32 × Int32 × s_G) ⊕ (Int32 × s_G)} (hB : fM_spread_130_74 x1 x3 x4 g = some z) {v : Option Value} {h' : s_H} (hr : (s_sm (fun (x : Int32 × Int32 × s_G) (v : Option Value) (h' : s_H) => s_Fin 3 s_m235 (74, [some (.ref 130), some (.int x1), none, some (.int x.1), some (.int x.2.1)], [], s_hg x.2.2) v h') (fun (z : Int32 × s_G) (v : Option Value) (h' : s_H) => v = some (.int z.1) ∧ h' = s_hg z.2)) z v h') : s_Fin 3 s_m235 (74, [some (.ref 130), some (.int x1), none, some (.int x3), some (.int x4)], [], s_hg g) v h' := by
  unfold fM_spread_130_74 at hB
  refine s_Fin.sg 5 (y := (82, [some (.ref 130), some (.int x1), none, some (.int x3), some (.int x4)], [.int (g.1 132 0), .int x4], s_hg g)) rfl ?_
  by_cases hc : x4 < (g.1 132 0)
  · rw [if_pos hc] at hB
    refine s_Fin.bf (c := (g.1 132 0) ≤ x4) (tg := 142) (p2 := 82) (L1 := [some (.ref 130), some (.int x1), none, some (.int x3), some (.int x4)]) (st1 := []) (Int32.not_le.mpr hc) rfl ?_
    refine s_Fin.sg 5 (y := (94, [some (.ref 130), some (.int x1), none, some (.int x3), some (.int x4)], [.int x4, .ref 130, .int x4, .ref 145], s_hg g)) rfl ?_
    obtain ⟨v4, hp, hB⟩ := s_bd hB
    refine s_Fin.cl (d := 2) (q1 := s_m196) (md := 196) (vs := [.ref 130, .int x4]) (rest := [.int x4, .ref 145]) (h1 := s_hg g) (u := some (.int v4)) (s_Ev.up (by omega) (fM_isOver_130_s hp)) rfl rfl rfl rfl ?_
    by_cases hc : v4 = 0
    · rw [if_pos hc] at hB
      refine s_Fin.bt (c := v4 = 0) (tg := 104) (p2 := 97) (L1 := [some (.ref 130), some (.int x1), none, some (.int x3), some (.int x4)]) (st1 := [.int x4, .ref 145]) hc rfl ?_
      refine s_Fin.sg 6 (y := (114, [some (.ref 130), some (.int x1), none, some (.int x3), some (.int x4)], [.int ((10 : Int32) + x4), .ref 132, .int x3, .int x4, .ref 145], s_hg g)) rfl ?_
      obtain ⟨k6, hk6, hB⟩ := s_bd hB
      refine s_Fin.ix (n := 375) (i := (10 : Int32) + x4) (pc1 := 115) (L1 := [some (.ref 130), some (.int x1), none, some (.int x3), some (.int x4)]) (fun j5 => [.int (g.1 132 j5), .int x3, .int x4, .ref 145]) (fun j5 => s_hg g) hk6 rfl rfl ?_
      refine s_Fin.sg 2 (y := (118, [some (.ref 130), some (.int x1), none, some (.int x3), some (.int x4)], [.int x4, .ref 130, .int (g.1 132 k6), .int x3, .int x4, .ref 145], s_hg g)) rfl ?_
      obtain ⟨v7, hp, hB⟩ := s_bd hB
      refine s_Fin.cl (d := 2) (q1 := s_m194) (md := 194) (vs := [.ref 130, .int x4]) (rest := [.int (g.1 132 k6), .int x3, .int x4, .ref 145]) (h1 := s_hg g) (u := some (.int v7)) (s_Ev.up (by omega) (fM_loadOf_130_s hp)) rfl rfl rfl rfl ?_
      refine s_Fin.sg 1 (y := (122, [some (.ref 130), some (.int x1), none, some (.int x3), some (.int x4)], [.int ((g.1 132 k6) - v7), .int x3, .int x4, .ref 145], s_hg g)) rfl ?_
      obtain ⟨v8, hp, hB⟩ := s_bd hB
      refine s_Fin.cl (d := 2) (q1 := s_m217) (md := 217) (vs := [.int x3, .int ((g.1 132 k6) - v7)]) (rest := [.int x4, .ref 145]) (h1 := s_hg g) (u := some (.int v8)) (s_Ev.up (by omega) (fM_least_s_s hp)) rfl rfl rfl rfl ?_
      exact s_Fin.more (L := [some (.ref 130), some (.int x1), none, some (.int x3), some (.int x4)]) ⟨Or.inr rfl, Or.inr rfl, Or.inl rfl, Or.inr rfl, Or.inr rfl, trivial⟩ (fM_spread_130_125_s hB hr)
    · rw [if_neg hc] at hB
      refine s_Fin.bf (c := v4 = 0) (tg := 104) (p2 := 97) (L1 := [some (.ref 130), some (.int x1), none, some (.int x3), some (.int x4)]) (st1 := [.int x4, .ref 145]) hc rfl ?_
      refine s_Fin.sg 2 (y := (125, [some (.ref 130), some (.int x1), none, some (.int x3), some (.int x4)], [.int (0 : Int32), .int x4, .ref 145], s_hg g)) rfl ?_
      exact s_Fin.more (L := [some (.ref 130), some (.int x1), none, some (.int x3), some (.int x4)]) ⟨Or.inr rfl, Or.inr rfl, Or.inl rfl, Or.inr rfl, Or.inr rfl, trivial⟩ (fM_spread_130_125_s hB hr)
  · rw [if_neg hc] at hB
    refine s_Fin.bt (c := (g.1 132 0) ≤ x4) (tg := 142) (p2 := 82) (L1 := [some (.ref 130), some (.int x1), none, some (.int x3), some (.int x4)]) (st1 := []) (Int32.not_lt.mp hc) rfl ?_
    obtain ⟨_, hN, hz⟩ := s_in_of hB
    subst hz
    have hB := hN
    refine s_Fin.sg 10 (y := (158, [some (.ref 130), some (.int x1), none, some (.int x3), some (.int x4)], [.int x1], s_hg (s_si (s_si g 130 30 (g.1 132 0)) 130 31 (1 : Int32)))) rfl ?_
    have hB := Option.some.inj hB
    subst hB
    obtain ⟨rfl, rfl⟩ := hr
    exact s_Fin.rt rfl rfl
noncomputable def fM_spread_130_11 (x1 : Int32) (x2 : Int32) (x3 : Int32) (g : s_G) : Option ((Int32 × Int32 × Int32) ⊕ (Int32 × s_G)) :=
  if x3 < (g.1 132 0) then (s_b1 (fM_loadOf_130 x3 g) fun v1 => s_b1 (s_ix 375 ((10 : Int32) + x3)) fun k3 => if 0 < (v1 - (g.1 132 k3)) then (some (.inl (x1 + (v1 - (g.1 132 k3)), x2, x3 + (1 : Int32))))
  else some (.inl (x1, x2 - (v1 - (g.1 132 k3)), x3 + (1 : Int32))))
  else s_in (if x2 < x1 then (some ((-1 : Int32), g))
  else s_lp (fun x => fM_spread_130_74 x1 x.1 x.2.1 x.2.2) (x1, (0 : Int32), g))
theorem fM_spread_130_11_s {x1 : Int32} {x2 : Int32} {x3 : Int32} {g : s_G} {z : (Int32 × Int32 × Int32) ⊕ (Int32 × s_G)} (hB : fM_spread_130_11 x1 x2 x3 g = some z) {v : Option Value} {h' : s_H} (hr : (s_sm (fun (x : Int32 × Int32 × Int32) (v : Option Value) (h' : s_H) => s_Fin 3 s_m235 (11, [some (.ref 130), some (.int x.1), some (.int x.2.1), some (.int x.2.2), none], [], s_hg g) v h') (fun (z : Int32 × s_G) (v : Option Value) (h' : s_H) => v = some (.int z.1) ∧ h' = s_hg z.2)) z v h') : s_Fin 3 s_m235 (11, [some (.ref 130), some (.int x1), some (.int x2), some (.int x3), none], [], s_hg g) v h' := by
  unfold fM_spread_130_11 at hB
  refine s_Fin.sg 5 (y := (18, [some (.ref 130), some (.int x1), some (.int x2), some (.int x3), none], [.int (g.1 132 0), .int x3], s_hg g)) rfl ?_
  by_cases hc : x3 < (g.1 132 0)
  · rw [if_pos hc] at hB
    refine s_Fin.bf (c := (g.1 132 0) ≤ x3) (tg := 62) (p2 := 18) (L1 := [some (.ref 130), some (.int x1), some (.int x2), some (.int x3), none]) (st1 := []) (Int32.not_le.mpr hc) rfl ?_
    refine s_Fin.sg 2 (y := (23, [some (.ref 130), some (.int x1), some (.int x2), some (.int x3), none], [.int x3, .ref 130], s_hg g)) rfl ?_
    obtain ⟨v1, hp, hB⟩ := s_bd hB
    refine s_Fin.cl (d := 2) (q1 := s_m194) (md := 194) (vs := [.ref 130, .int x3]) (rest := []) (h1 := s_hg g) (u := some (.int v1)) (s_Ev.up (by omega) (fM_loadOf_130_s hp)) rfl rfl rfl rfl ?_
    refine s_Fin.sg 5 (y := (34, [some (.ref 130), some (.int x1), some (.int x2), some (.int x3), none], [.int ((10 : Int32) + x3), .ref 132, .int v1], s_hg g)) rfl ?_
    obtain ⟨k3, hk3, hB⟩ := s_bd hB
    refine s_Fin.ix (n := 375) (i := (10 : Int32) + x3) (pc1 := 35) (L1 := [some (.ref 130), some (.int x1), some (.int x2), some (.int x3), none]) (fun j2 => [.int (g.1 132 j2), .int v1]) (fun j2 => s_hg g) hk3 rfl rfl ?_
    refine s_Fin.sg 3 (y := (40, [some (.ref 130), some (.int x1), some (.int x2), some (.int x3), some (.int (v1 - (g.1 132 k3)))], [.int (v1 - (g.1 132 k3))], s_hg g)) rfl ?_
    by_cases hc : 0 < (v1 - (g.1 132 k3))
    · rw [if_pos hc] at hB
      refine s_Fin.bf (c := (v1 - (g.1 132 k3)) ≤ 0) (tg := 51) (p2 := 40) (L1 := [some (.ref 130), some (.int x1), some (.int x2), some (.int x3), some (.int (v1 - (g.1 132 k3)))]) (st1 := []) (Int32.not_le.mpr hc) rfl ?_
      refine s_Fin.sg 7 (y := (11, [some (.ref 130), some (.int (x1 + (v1 - (g.1 132 k3)))), some (.int x2), some (.int (x3 + (1 : Int32))), some (.int (v1 - (g.1 132 k3)))], [], s_hg g)) rfl ?_
      have hB := Option.some.inj hB
      subst hB
      exact s_Fin.more (L := [some (.ref 130), some (.int (x1 + (v1 - (g.1 132 k3)))), some (.int x2), some (.int (x3 + (1 : Int32))), none]) ⟨Or.inr rfl, Or.inr rfl, Or.inr rfl, Or.inr rfl, Or.inl rfl, trivial⟩ hr
    · rw [if_neg hc] at hB
      refine s_Fin.bt (c := (v1 - (g.1 132 k3)) ≤ 0) (tg := 51) (p2 := 40) (L1 := [some (.ref 130), some (.int x1), some (.int x2), some (.int x3), some (.int (v1 - (g.1 132 k3)))]) (st1 := []) (Int32.not_lt.mp hc) rfl ?_
      refine s_Fin.sg 6 (y := (11, [some (.ref 130), some (.int x1), some (.int (x2 - (v1 - (g.1 132 k3)))), some (.int (x3 + (1 : Int32))), some (.int (v1 - (g.1 132 k3)))], [], s_hg g)) rfl ?_
      have hB := Option.some.inj hB
      subst hB
      exact s_Fin.more (L := [some (.ref 130), some (.int x1), some (.int (x2 - (v1 - (g.1 132 k3)))), some (.int (x3 + (1 : Int32))), none]) ⟨Or.inr rfl, Or.inr rfl, Or.inr rfl, Or.inr rfl, Or.inl rfl, trivial⟩ hr
  · rw [if_neg hc] at hB
    refine s_Fin.bt (c := (g.1 132 0) ≤ x3) (tg := 62) (p2 := 18) (L1 := [some (.ref 130), some (.int x1), some (.int x2), some (.int x3), none]) (st1 := []) (Int32.not_lt.mp hc) rfl ?_
    obtain ⟨_, hN, hz⟩ := s_in_of hB
    subst hz
    have hB := hN
    refine s_Fin.sg 2 (y := (64, [some (.ref 130), some (.int x1), some (.int x2), some (.int x3), none], [.int x2, .int x1], s_hg g)) rfl ?_
    by_cases hc : x2 < x1
    · rw [if_pos hc] at hB
      refine s_Fin.bf (c := x1 ≤ x2) (tg := 69) (p2 := 64) (L1 := [some (.ref 130), some (.int x1), some (.int x2), some (.int x3), none]) (st1 := []) (Int32.not_le.mpr hc) rfl ?_
      refine s_Fin.sg 1 (y := (68, [some (.ref 130), some (.int x1), some (.int x2), some (.int x3), none], [.int (-1 : Int32)], s_hg g)) rfl ?_
      have hB := Option.some.inj hB
      subst hB
      obtain ⟨rfl, rfl⟩ := hr
      exact s_Fin.rt rfl rfl
    · rw [if_neg hc] at hB
      refine s_Fin.bt (c := x1 ≤ x2) (tg := 69) (p2 := 64) (L1 := [some (.ref 130), some (.int x1), some (.int x2), some (.int x3), none]) (st1 := []) (Int32.not_lt.mp hc) rfl ?_
      refine s_Fin.sg 4 (y := (74, [some (.ref 130), some (.int x1), some (.int x2), some (.int x1), some (.int (0 : Int32))], [], s_hg g)) rfl ?_
      exact s_Fin.more (L := [some (.ref 130), some (.int x1), none, some (.int x1), some (.int (0 : Int32))]) ⟨Or.inr rfl, Or.inr rfl, Or.inl rfl, Or.inr rfl, Or.inr rfl, trivial⟩ (s_lp_s (P := (fun (x : Int32 × Int32 × s_G) (v : Option Value) (h' : s_H) => s_Fin 3 s_m235 (74, [some (.ref 130), some (.int x1), none, some (.int x.1), some (.int x.2.1)], [], s_hg x.2.2) v h')) (Q := (fun (z : Int32 × s_G) (v : Option Value) (h' : s_H) => v = some (.int z.1) ∧ h' = s_hg z.2)) (fun x z hB v h' hr => fM_spread_130_74_s hB hr) hB _ _ hr)
noncomputable def fM_spread_130 (g : s_G) : Option (Int32 × s_G) :=
  s_lp (fun x => fM_spread_130_11 x.1 x.2.1 x.2.2 (s_si g 130 0 (0 : Int32))) ((0 : Int32), (0 : Int32), (0 : Int32))
theorem fM_spread_130_s {g : s_G} {z : Int32 × s_G} (hB : fM_spread_130 g = some z) : s_Ev 3 s_m235 [.ref 130] (s_hg g) (some (.int z.1)) (s_hg z.2) := by
  unfold fM_spread_130 at hB
  refine s_Ev.fin ((?_ : ∀ (v : Option Value) (h' : s_H), (fun (z : Int32 × s_G) (v : Option Value) (h' : s_H) => v = some (.int z.1) ∧ h' = s_hg z.2) z v h' → s_Fin 3 s_m235 (0, s_ent [.ref 130] (s_m235).2.2.1, [], s_hg g) v h') _ _ ⟨rfl, rfl⟩)
  intro v h' hr
  refine (show s_Fin 3 s_m235 (0, [some (.ref 130), none, none, none, none], [], s_hg g) v h' from ?_)
  refine s_Fin.sg 9 (y := (11, [some (.ref 130), some (.int (0 : Int32)), some (.int (0 : Int32)), some (.int (0 : Int32)), none], [], s_hg (s_si g 130 0 (0 : Int32)))) rfl ?_
  exact s_Fin.more (L := [some (.ref 130), some (.int (0 : Int32)), some (.int (0 : Int32)), some (.int (0 : Int32)), none]) ⟨Or.inr rfl, Or.inr rfl, Or.inr rfl, Or.inr rfl, Or.inl rfl, trivial⟩ (s_lp_s (P := (fun (x : Int32 × Int32 × Int32) (v : Option Value) (h' : s_H) => s_Fin 3 s_m235 (11, [some (.ref 130), some (.int x.1), some (.int x.2.1), some (.int x.2.2), none], [], s_hg (s_si g 130 0 (0 : Int32))) v h')) (Q := (fun (z : Int32 × s_G) (v : Option Value) (h' : s_H) => v = some (.int z.1) ∧ h' = s_hg z.2)) (fun x z hB v h' hr => fM_spread_130_11_s hB hr) hB _ _ hr)
-- java/util/Arrays.fill
noncomputable def fJ_fill_124_5 (x1 : Int32) (x2 : Int32) (x3 : Int32) (g : s_G) : Option ((Int32 × s_G) ⊕ (s_G)) :=
  if x2 < x3 then (s_b1 (s_ix 7 x2) fun k2 => some (.inl (x2 + (1 : Int32), (s_si g 124 k2 x1))))
  else s_in (some g)
theorem fJ_fill_124_5_s {x1 : Int32} {x2 : Int32} {x3 : Int32} {g : s_G} {z : (Int32 × s_G) ⊕ (s_G)} (hB : fJ_fill_124_5 x1 x2 x3 g = some z) {v : Option Value} {h' : s_H} (hr : (s_sm (fun (x : Int32 × s_G) (v : Option Value) (h' : s_H) => s_Fin 0 s_m4 (5, [some (.ref 124), some (.int x1), some (.int x.1), some (.int x3)], [], s_hg x.2) v h') (fun (z : s_G) (v : Option Value) (h' : s_H) => v = none ∧ h' = s_hg z)) z v h') : s_Fin 0 s_m4 (5, [some (.ref 124), some (.int x1), some (.int x2), some (.int x3)], [], s_hg g) v h' := by
  unfold fJ_fill_124_5 at hB
  refine s_Fin.sg 2 (y := (7, [some (.ref 124), some (.int x1), some (.int x2), some (.int x3)], [.int x3, .int x2], s_hg g)) rfl ?_
  by_cases hc : x2 < x3
  · rw [if_pos hc] at hB
    refine s_Fin.bf (c := x3 ≤ x2) (tg := 20) (p2 := 7) (L1 := [some (.ref 124), some (.int x1), some (.int x2), some (.int x3)]) (st1 := []) (Int32.not_le.mpr hc) rfl ?_
    refine s_Fin.sg 3 (y := (13, [some (.ref 124), some (.int x1), some (.int x2), some (.int x3)], [.int x1, .int x2, .ref 124], s_hg g)) rfl ?_
    obtain ⟨k2, hk2, hB⟩ := s_bd hB
    refine s_Fin.ix (n := 7) (i := x2) (pc1 := 14) (L1 := [some (.ref 124), some (.int x1), some (.int x2), some (.int x3)]) (fun j1 => []) (fun j1 => s_hg (s_si g 124 j1 x1)) hk2 rfl rfl ?_
    refine s_Fin.sg 2 (y := (5, [some (.ref 124), some (.int x1), some (.int (x2 + (1 : Int32))), some (.int x3)], [], s_hg (s_si g 124 k2 x1))) rfl ?_
    have hB := Option.some.inj hB
    subst hB
    exact s_Fin.more (L := [some (.ref 124), some (.int x1), some (.int (x2 + (1 : Int32))), some (.int x3)]) ⟨Or.inr rfl, Or.inr rfl, Or.inr rfl, Or.inr rfl, trivial⟩ hr
  · rw [if_neg hc] at hB
    refine s_Fin.bt (c := x3 ≤ x2) (tg := 20) (p2 := 7) (L1 := [some (.ref 124), some (.int x1), some (.int x2), some (.int x3)]) (st1 := []) (Int32.not_lt.mp hc) rfl ?_
    obtain ⟨_, hN, hz⟩ := s_in_of hB
    subst hz
    have hB := hN
    have hB := Option.some.inj hB
    subst hB
    obtain ⟨rfl, rfl⟩ := hr
    exact s_Fin.rt rfl rfl
noncomputable def fJ_fill_124 (x1 : Int32) (g : s_G) : Option (s_G) :=
  s_lp (fun x => fJ_fill_124_5 x1 x.1 (7 : Int32) x.2) ((0 : Int32), g)
theorem fJ_fill_124_s {x1 : Int32} {g : s_G} {z : s_G} (hB : fJ_fill_124 x1 g = some z) : s_Ev 0 s_m4 [.ref 124, .int x1] (s_hg g) (none) (s_hg z) := by
  unfold fJ_fill_124 at hB
  refine s_Ev.fin ((?_ : ∀ (v : Option Value) (h' : s_H), (fun (z : s_G) (v : Option Value) (h' : s_H) => v = none ∧ h' = s_hg z) z v h' → s_Fin 0 s_m4 (0, s_ent [.ref 124, .int x1] (s_m4).2.2.1, [], s_hg g) v h') _ _ ⟨rfl, rfl⟩)
  intro v h' hr
  refine (show s_Fin 0 s_m4 (0, [some (.ref 124), some (.int x1), none, none], [], s_hg g) v h' from ?_)
  refine s_Fin.sg 5 (y := (5, [some (.ref 124), some (.int x1), some (.int (0 : Int32)), some (.int (7 : Int32))], [], s_hg g)) rfl ?_
  exact s_Fin.more (L := [some (.ref 124), some (.int x1), some (.int (0 : Int32)), some (.int (7 : Int32))]) ⟨Or.inr rfl, Or.inr rfl, Or.inr rfl, Or.inr rfl, trivial⟩ (s_lp_s (P := (fun (x : Int32 × s_G) (v : Option Value) (h' : s_H) => s_Fin 0 s_m4 (5, [some (.ref 124), some (.int x1), some (.int x.1), some (.int (7 : Int32))], [], s_hg x.2) v h')) (Q := (fun (z : s_G) (v : Option Value) (h' : s_H) => v = none ∧ h' = s_hg z)) (fun x z hB v h' hr => fJ_fill_124_5_s hB hr) hB _ _ hr)
