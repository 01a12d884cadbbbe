-- CampAshes$Tape.next
noncomputable def fQ_next_1_169 (x2 : Int32) (x3 : Int32) (g : s_G) : Option (s_G) :=
  if x2 = x3 then (if (3 : Int32) < x3 then (some (s_si g 1 5 (1 : Int32)))
  else some (s_si g 1 5 (4 : Int32)))
  else some (s_si g 1 5 (1 : Int32))
theorem fQ_next_1_169_s {x2 : Int32} {x3 : Int32} {g : s_G} {z : s_G} (hB : fQ_next_1_169 x2 x3 g = some z) {v : Option Value} {h' : s_H} (hr : (fun (z : s_G) (v : Option Value) (h' : s_H) => v = none ∧ h' = s_hg z) z v h') : s_Fin 1 s_m20 (169, [some (.ref 1), none, some (.int x2), some (.int x3)], [], s_hg g) v h' := by
  unfold fQ_next_1_169 at hB
  refine s_Fin.sg 3 (y := (172, [some (.ref 1), none, some (.int x2), some (.int x3)], [.int x3, .int x2, .ref 1], s_hg g)) rfl ?_
  by_cases hc : x2 = x3
  · rw [if_pos hc] at hB
    refine s_Fin.bf (c := ¬ x2 = x3) (tg := 184) (p2 := 172) (L1 := [some (.ref 1), none, some (.int x2), some (.int x3)]) (st1 := [.ref 1]) (fun h => h hc) rfl ?_
    refine s_Fin.sg 2 (y := (177, [some (.ref 1), none, some (.int x2), some (.int x3)], [.int (3 : Int32), .int x3, .ref 1], s_hg g)) rfl ?_
    by_cases hc : (3 : Int32) < x3
    · rw [if_pos hc] at hB
      refine s_Fin.bt (c := (3 : Int32) < x3) (tg := 184) (p2 := 177) (L1 := [some (.ref 1), none, some (.int x2), some (.int x3)]) (st1 := [.ref 1]) hc rfl ?_
      refine s_Fin.sg 2 (y := (188, [some (.ref 1), none, some (.int x2), some (.int x3)], [], s_hg (s_si g 1 5 (1 : Int32)))) rfl ?_
      have hB := Option.some.inj hB
      subst hB
      obtain ⟨rfl, rfl⟩ := hr
      exact s_Fin.rt rfl rfl
    · rw [if_neg hc] at hB
      refine s_Fin.bf (c := (3 : Int32) < x3) (tg := 184) (p2 := 177) (L1 := [some (.ref 1), none, some (.int x2), some (.int x3)]) (st1 := [.ref 1]) hc rfl ?_
      refine s_Fin.sg 3 (y := (188, [some (.ref 1), none, some (.int x2), some (.int x3)], [], s_hg (s_si g 1 5 (4 : Int32)))) rfl ?_
      have hB := Option.some.inj hB
      subst hB
      obtain ⟨rfl, rfl⟩ := hr
      exact s_Fin.rt rfl rfl
  · rw [if_neg hc] at hB
    refine s_Fin.bt (c := ¬ x2 = x3) (tg := 184) (p2 := 172) (L1 := [some (.ref 1), none, some (.int x2), some (.int x3)]) (st1 := [.ref 1]) hc rfl ?_
    refine s_Fin.sg 2 (y := (188, [some (.ref 1), none, some (.int x2), some (.int x3)], [], s_hg (s_si g 1 5 (1 : Int32)))) rfl ?_
    have hB := Option.some.inj hB
    subst hB
    obtain ⟨rfl, rfl⟩ := hr
    exact s_Fin.rt rfl rfl
noncomputable def fQ_next_1_61 (x1 : Int32) (g : s_G) : Option (s_G) :=
  if (g.1 1 4) < x1 then (s_b2 (fQ_readRun_1 (s_si (s_sl (s_si (s_sr g 1 9 none) 1 7 (0 : Int32)) 1 8 (0 : Int64)) 1 6 (g.1 1 4))) fun v6 g5 => if ((g5.1 1 4) - (g5.1 1 6)) = 0 then (s_b1 (fQ_readSign_1 g5) fun g7 => some g7)
  else if v6 = 0 then (if (7 : Int32) < ((g5.1 1 4) - (g5.1 1 6)) then (fQ_next_1_169 v6 ((g5.1 1 4) - (g5.1 1 6)) g5)
  else s_b1 (fW_spelt_s (g5.2.1 1 8) g5) fun v8 => if v8 = none then (some (s_si (s_sr g5 1 9 v8) 1 5 (3 : Int32)))
  else some (s_si (s_sr g5 1 9 v8) 1 5 (2 : Int32)))
  else fQ_next_1_169 v6 ((g5.1 1 4) - (g5.1 1 6)) g5)
  else some (s_si (s_si (s_sl (s_si (s_sr g 1 9 none) 1 7 (0 : Int32)) 1 8 (0 : Int64)) 1 6 x1) 1 5 (0 : Int32))
theorem fQ_next_1_61_s {x1 : Int32} {g : s_G} {z : s_G} (hB : fQ_next_1_61 x1 g = some z) {v : Option Value} {h' : s_H} (hr : (fun (z : s_G) (v : Option Value) (h' : s_H) => v = none ∧ h' = s_hg z) z v h') : s_Fin 1 s_m20 (61, [some (.ref 1), some (.int x1), none, none], [], s_hg g) v h' := by
  unfold fQ_next_1_61 at hB
  refine s_Fin.sg 2 (y := (63, [some (.ref 1), some (.int x1), none, none], [.null, .ref 1], s_hg g)) rfl ?_
  refine s_Fin.nx (pc1 := 66) (L1 := [some (.ref 1), some (.int x1), none, none]) (st1 := []) (h1 := s_hg (s_sr g 1 9 none)) ((show _ = s_nx 66 [some (.ref 1), some (.int x1), none, none] [] (s_wR (s_hg g) 1 9 none) from (by exact rfl)).trans (by rw [s_wR_hg rfl]; exact rfl)) rfl ?_
  refine s_Fin.sg 9 (y := (81, [some (.ref 1), some (.int x1), none, none], [.int x1, .int (g.1 1 4)], s_hg (s_sl (s_si (s_sr g 1 9 none) 1 7 (0 : Int32)) 1 8 (0 : Int64)))) rfl ?_
  by_cases hc : (g.1 1 4) < x1
  · rw [if_pos hc] at hB
    refine s_Fin.bt (c := (g.1 1 4) < x1) (tg := 95) (p2 := 81) (L1 := [some (.ref 1), some (.int x1), none, none]) (st1 := []) hc rfl ?_
    refine s_Fin.sg 5 (y := (104, [some (.ref 1), some (.int x1), none, none], [.ref 1], s_hg (s_si (s_sl (s_si (s_sr g 1 9 none) 1 7 (0 : Int32)) 1 8 (0 : Int64)) 1 6 (g.1 1 4)))) rfl ?_
    obtain ⟨v6, g5, hp, hB⟩ := s_bd2 hB
    refine s_Fin.cl (d := 0) (q1 := s_m22) (md := 22) (vs := [.ref 1]) (rest := []) (h1 := s_hg g5) (u := some (.int v6)) (s_Ev.up (by omega) (fQ_readRun_1_s hp)) rfl rfl rfl rfl ?_
    refine s_Fin.sg 8 (y := (119, [some (.ref 1), some (.int x1), some (.int v6), some (.int ((g5.1 1 4) - (g5.1 1 6)))], [.int ((g5.1 1 4) - (g5.1 1 6))], s_hg g5)) rfl ?_
    by_cases hc : ((g5.1 1 4) - (g5.1 1 6)) = 0
    · rw [if_pos hc] at hB
      refine s_Fin.bf (c := ¬ ((g5.1 1 4) - (g5.1 1 6)) = 0) (tg := 129) (p2 := 119) (L1 := [some (.ref 1), some (.int x1), some (.int v6), some (.int ((g5.1 1 4) - (g5.1 1 6)))]) (st1 := []) (fun h => h hc) rfl ?_
      refine s_Fin.sg 1 (y := (123, [some (.ref 1), some (.int x1), some (.int v6), some (.int ((g5.1 1 4) - (g5.1 1 6)))], [.ref 1], s_hg g5)) rfl ?_
      obtain ⟨g7, hp, hB⟩ := s_bd hB
      refine s_Fin.cl (d := 0) (q1 := s_m23) (md := 23) (vs := [.ref 1]) (rest := []) (h1 := s_hg g7) (u := none) (s_Ev.up (by omega) (fQ_readSign_1_s hp)) rfl rfl rfl rfl ?_
      refine s_Fin.sg 1 (y := (188, [some (.ref 1), some (.int x1), some (.int v6), some (.int ((g5.1 1 4) - (g5.1 1 6)))], [], s_hg g7)) rfl ?_
      have hB := Option.some.inj hB
      subst hB
      obtain ⟨rfl, rfl⟩ := hr
      exact s_Fin.rt rfl rfl
    · rw [if_neg hc] at hB
      refine s_Fin.bt (c := ¬ ((g5.1 1 4) - (g5.1 1 6)) = 0) (tg := 129) (p2 := 119) (L1 := [some (.ref 1), some (.int x1), some (.int v6), some (.int ((g5.1 1 4) - (g5.1 1 6)))]) (st1 := []) hc rfl ?_
      refine s_Fin.sg 1 (y := (130, [some (.ref 1), some (.int x1), some (.int v6), some (.int ((g5.1 1 4) - (g5.1 1 6)))], [.int v6], s_hg g5)) rfl ?_
      by_cases hc : v6 = 0
      · rw [if_pos hc] at hB
        refine s_Fin.bf (c := ¬ v6 = 0) (tg := 169) (p2 := 130) (L1 := [some (.ref 1), some (.int x1), some (.int v6), some (.int ((g5.1 1 4) - (g5.1 1 6)))]) (st1 := []) (fun h => h hc) rfl ?_
        refine s_Fin.sg 2 (y := (136, [some (.ref 1), some (.int x1), some (.int v6), some (.int ((g5.1 1 4) - (g5.1 1 6)))], [.int (7 : Int32), .int ((g5.1 1 4) - (g5.1 1 6))], s_hg g5)) rfl ?_
        by_cases hc : (7 : Int32) < ((g5.1 1 4) - (g5.1 1 6))
        · rw [if_pos hc] at hB
          refine s_Fin.bt (c := (7 : Int32) < ((g5.1 1 4) - (g5.1 1 6))) (tg := 169) (p2 := 136) (L1 := [some (.ref 1), some (.int x1), some (.int v6), some (.int ((g5.1 1 4) - (g5.1 1 6)))]) (st1 := []) hc rfl ?_
          exact s_Fin.more (L := [some (.ref 1), none, some (.int v6), some (.int ((g5.1 1 4) - (g5.1 1 6)))]) ⟨Or.inr rfl, Or.inl rfl, Or.inr rfl, Or.inr rfl, trivial⟩ (fQ_next_1_169_s hB hr)
        · rw [if_neg hc] at hB
          refine s_Fin.bf (c := (7 : Int32) < ((g5.1 1 4) - (g5.1 1 6))) (tg := 169) (p2 := 136) (L1 := [some (.ref 1), some (.int x1), some (.int v6), some (.int ((g5.1 1 4) - (g5.1 1 6)))]) (st1 := []) hc rfl ?_
          refine s_Fin.sg 3 (y := (144, [some (.ref 1), some (.int x1), some (.int v6), some (.int ((g5.1 1 4) - (g5.1 1 6)))], [.long (g5.2.1 1 8), .ref 1], s_hg g5)) rfl ?_
          obtain ⟨v8, hp, hB⟩ := s_bd hB
          refine s_Fin.cl (d := 0) (q1 := s_m24) (md := 24) (vs := [.long (g5.2.1 1 8)]) (rest := [.ref 1]) (h1 := s_hg g5) (u := some (va_rf v8)) (s_Ev.up (by omega) (fW_spelt_s_s hp)) rfl rfl rfl rfl ?_
          refine s_Fin.nx (pc1 := 150) (L1 := [some (.ref 1), some (.int x1), some (.int v6), some (.int ((g5.1 1 4) - (g5.1 1 6)))]) (st1 := []) (h1 := s_hg (s_sr g5 1 9 v8)) ((show _ = s_nx 150 [some (.ref 1), some (.int x1), some (.int v6), some (.int ((g5.1 1 4) - (g5.1 1 6)))] [] (s_wR (s_hg g5) 1 9 v8) from (by generalize v8 = w; cases w <;> exact rfl)).trans (by rw [s_wR_hg rfl]; exact rfl)) rfl ?_
          refine s_Fin.sg 3 (y := (155, [some (.ref 1), some (.int x1), some (.int v6), some (.int ((g5.1 1 4) - (g5.1 1 6)))], [va_rf v8, .ref 1], s_hg (s_sr g5 1 9 v8))) rfl ?_
          by_cases hc : v8 = none
          · rw [if_pos hc] at hB
            refine s_Fin.nx (pc1 := 158) (L1 := [some (.ref 1), some (.int x1), some (.int v6), some (.int ((g5.1 1 4) - (g5.1 1 6)))]) (st1 := [.ref 1]) (h1 := s_hg (s_sr g5 1 9 v8)) (by rw [hc]; exact rfl) rfl ?_
            refine s_Fin.sg 4 (y := (188, [some (.ref 1), some (.int x1), some (.int v6), some (.int ((g5.1 1 4) - (g5.1 1 6)))], [], s_hg (s_si (s_sr g5 1 9 v8) 1 5 (3 : Int32)))) rfl ?_
            have hB := Option.some.inj hB
            subst hB
            obtain ⟨rfl, rfl⟩ := hr
            exact s_Fin.rt rfl rfl
          · rw [if_neg hc] at hB
            refine s_Fin.nx (pc1 := 162) (L1 := [some (.ref 1), some (.int x1), some (.int v6), some (.int ((g5.1 1 4) - (g5.1 1 6)))]) (st1 := [.ref 1]) (h1 := s_hg (s_sr g5 1 9 v8)) (by generalize v8 = w at hc ⊢; cases w with
      | none => exact absurd rfl hc
      | some a => exact rfl) rfl ?_
            refine s_Fin.sg 3 (y := (188, [some (.ref 1), some (.int x1), some (.int v6), some (.int ((g5.1 1 4) - (g5.1 1 6)))], [], s_hg (s_si (s_sr g5 1 9 v8) 1 5 (2 : Int32)))) rfl ?_
            have hB := Option.some.inj hB
            subst hB
            obtain ⟨rfl, rfl⟩ := hr
            exact s_Fin.rt rfl rfl
      · rw [if_neg hc] at hB
        refine s_Fin.bt (c := ¬ v6 = 0) (tg := 169) (p2 := 130) (L1 := [some (.ref 1), some (.int x1), some (.int v6), some (.int ((g5.1 1 4) - (g5.1 1 6)))]) (st1 := []) hc rfl ?_
        exact s_Fin.more (L := [some (.ref 1), none, some (.int v6), some (.int ((g5.1 1 4) - (g5.1 1 6)))]) ⟨Or.inr rfl, Or.inl rfl, Or.inr rfl, Or.inr rfl, trivial⟩ (fQ_next_1_169_s hB hr)
  · rw [if_neg hc] at hB
    refine s_Fin.bf (c := (g.1 1 4) < x1) (tg := 95) (p2 := 81) (L1 := [some (.ref 1), some (.int x1), none, none]) (st1 := []) hc rfl ?_
    refine s_Fin.sg 6 (y := (94, [some (.ref 1), some (.int x1), none, none], [], s_hg (s_si (s_si (s_sl (s_si (s_sr g 1 9 none) 1 7 (0 : Int32)) 1 8 (0 : Int64)) 1 6 x1) 1 5 (0 : Int32)))) rfl ?_
    have hB := Option.some.inj hB
    subst hB
    obtain ⟨rfl, rfl⟩ := hr
    exact s_Fin.rt rfl rfl
noncomputable def fQ_next_1_12 (x1 : Int32) (g : s_G) : Option ((s_G) ⊕ (s_G)) :=
  if (g.1 1 4) < x1 then (s_b1 (s_ix 940 (g.1 1 4)) fun k3 => if (g.1 2 k3) = (32 : Int32) then (some (.inl (s_si g 1 4 ((g.1 1 4) + (1 : Int32)))))
  else if (g.1 2 k3) = (10 : Int32) then (some (.inl (s_si g 1 4 ((g.1 1 4) + (1 : Int32)))))
  else s_in (fQ_next_1_61 x1 g))
  else s_in (fQ_next_1_61 x1 g)
theorem fQ_next_1_12_s {x1 : Int32} {g : s_G} {z : (s_G) ⊕ (s_G)} (hB : fQ_next_1_12 x1 g = some z) {v : Option Value} {h' : s_H} (hr : (s_sm (fun (x : s_G) (v : Option Value) (h' : s_H) => s_Fin 1 s_m20 (12, [some (.ref 1), some (.int x1), none, none], [], s_hg x) v h') (fun (z : s_G) (v : Option Value) (h' : s_H) => v = none ∧ h' = s_hg z)) z v h') : s_Fin 1 s_m20 (12, [some (.ref 1), some (.int x1), none, none], [], s_hg g) v h' := by
  unfold fQ_next_1_12 at hB
  refine s_Fin.sg 3 (y := (17, [some (.ref 1), some (.int x1), none, none], [.int x1, .int (g.1 1 4)], s_hg g)) rfl ?_
  by_cases hc : (g.1 1 4) < x1
  · rw [if_pos hc] at hB
    refine s_Fin.bf (c := x1 ≤ (g.1 1 4)) (tg := 61) (p2 := 17) (L1 := [some (.ref 1), some (.int x1), none, none]) (st1 := []) (Int32.not_le.mpr hc) rfl ?_
    refine s_Fin.sg 4 (y := (28, [some (.ref 1), some (.int x1), none, none], [.int (g.1 1 4), .ref 2], s_hg g)) rfl ?_
    obtain ⟨k3, hk3, hB⟩ := s_bd hB
    refine s_Fin.ix (n := 940) (i := g.1 1 4) (pc1 := 29) (L1 := [some (.ref 1), some (.int x1), none, none]) (fun j2 => [.int (g.1 2 j2)]) (fun j2 => s_hg g) hk3 rfl rfl ?_
    refine s_Fin.sg 1 (y := (31, [some (.ref 1), some (.int x1), none, none], [.int (32 : Int32), .int (g.1 2 k3)], s_hg g)) rfl ?_
    by_cases hc : (g.1 2 k3) = (32 : Int32)
    · rw [if_pos hc] at hB
      refine s_Fin.bt (c := (g.1 2 k3) = (32 : Int32)) (tg := 48) (p2 := 31) (L1 := [some (.ref 1), some (.int x1), none, none]) (st1 := []) hc rfl ?_
      refine s_Fin.sg 7 (y := (12, [some (.ref 1), some (.int x1), none, none], [], s_hg (s_si g 1 4 ((g.1 1 4) + (1 : Int32))))) rfl ?_
      have hB := Option.some.inj hB
      subst hB
      exact s_Fin.more (L := [some (.ref 1), some (.int x1), none, none]) ⟨Or.inr rfl, Or.inr rfl, Or.inl rfl, Or.inl rfl, trivial⟩ hr
    · rw [if_neg hc] at hB
      refine s_Fin.bf (c := (g.1 2 k3) = (32 : Int32)) (tg := 48) (p2 := 31) (L1 := [some (.ref 1), some (.int x1), none, none]) (st1 := []) hc rfl ?_
      refine s_Fin.sg 4 (y := (42, [some (.ref 1), some (.int x1), none, none], [.int (g.1 1 4), .ref 2], s_hg g)) rfl ?_
      refine s_Fin.ix (n := 940) (i := g.1 1 4) (pc1 := 43) (L1 := [some (.ref 1), some (.int x1), none, none]) (fun j4 => [.int (g.1 2 j4)]) (fun j4 => s_hg g) hk3 rfl rfl ?_
      refine s_Fin.sg 1 (y := (45, [some (.ref 1), some (.int x1), none, none], [.int (10 : Int32), .int (g.1 2 k3)], s_hg g)) rfl ?_
      by_cases hc : (g.1 2 k3) = (10 : Int32)
      · rw [if_pos hc] at hB
        refine s_Fin.bf (c := ¬ (g.1 2 k3) = (10 : Int32)) (tg := 61) (p2 := 45) (L1 := [some (.ref 1), some (.int x1), none, none]) (st1 := []) (fun h => h hc) rfl ?_
        refine s_Fin.sg 7 (y := (12, [some (.ref 1), some (.int x1), none, none], [], s_hg (s_si g 1 4 ((g.1 1 4) + (1 : Int32))))) rfl ?_
        have hB := Option.some.inj hB
        subst hB
        exact s_Fin.more (L := [some (.ref 1), some (.int x1), none, none]) ⟨Or.inr rfl, Or.inr rfl, Or.inl rfl, Or.inl rfl, trivial⟩ hr
      · rw [if_neg hc] at hB
        refine s_Fin.bt (c := ¬ (g.1 2 k3) = (10 : Int32)) (tg := 61) (p2 := 45) (L1 := [some (.ref 1), some (.int x1), none, none]) (st1 := []) hc rfl ?_
        obtain ⟨_, hN, hz⟩ := s_in_of hB
        subst hz
        have hB := hN
        exact s_Fin.more (L := [some (.ref 1), some (.int x1), none, none]) ⟨Or.inr rfl, Or.inr rfl, Or.inl rfl, Or.inl rfl, trivial⟩ (fQ_next_1_61_s hB hr)
  · rw [if_neg hc] at hB
    refine s_Fin.bt (c := x1 ≤ (g.1 1 4)) (tg := 61) (p2 := 17) (L1 := [some (.ref 1), some (.int x1), none, none]) (st1 := []) (Int32.not_lt.mp hc) rfl ?_
    obtain ⟨_, hN, hz⟩ := s_in_of hB
    subst hz
    have hB := hN
    exact s_Fin.more (L := [some (.ref 1), some (.int x1), none, none]) ⟨Or.inr rfl, Or.inr rfl, Or.inl rfl, Or.inl rfl, trivial⟩ (fQ_next_1_61_s hB hr)
noncomputable def fQ_next_1 (g : s_G) : Option (s_G) :=
  s_b1 (some (if (g.1 1 3) < (g.1 1 2) then (g.1 1 3) else (g.1 1 2))) fun v1 => s_lp (fun x => fQ_next_1_12 v1 x) g
theorem fQ_next_1_s {g : s_G} {z : s_G} (hB : fQ_next_1 g = some z) : s_Ev 1 s_m20 [.ref 1] (s_hg g) (none) (s_hg z) := by
  unfold fQ_next_1 at hB
  refine s_Ev.fin ((?_ : ∀ (v : Option Value) (h' : s_H), (fun (z : s_G) (v : Option Value) (h' : s_H) => v = none ∧ h' = s_hg z) z v h' → s_Fin 1 s_m20 (0, s_ent [.ref 1] (s_m20).2.2.1, [], s_hg g) v h') _ _ ⟨rfl, rfl⟩)
  intro v h' hr
  refine (show s_Fin 1 s_m20 (0, [some (.ref 1), none, none, none], [], s_hg g) v h' from ?_)
  refine s_Fin.sg 5 (y := (11, [some (.ref 1), none, none, none], [.int (if (g.1 1 3) < (g.1 1 2) then (g.1 1 3) else (g.1 1 2))], s_hg g)) rfl ?_
  obtain ⟨v1, hx, hB⟩ := s_bd hB
  have hx := Option.some.inj hx
  rw [hx]
  refine s_Fin.sg 1 (y := (12, [some (.ref 1), some (.int v1), none, none], [], s_hg g)) rfl ?_
  exact s_Fin.more (L := [some (.ref 1), some (.int v1), none, none]) ⟨Or.inr rfl, Or.inr rfl, Or.inl rfl, Or.inl rfl, trivial⟩ (s_lp_s (P := (fun (x : s_G) (v : Option Value) (h' : s_H) => s_Fin 1 s_m20 (12, [some (.ref 1), some (.int v1), none, none], [], s_hg x) v h')) (Q := (fun (z : s_G) (v : Option Value) (h' : s_H) => v = none ∧ h' = s_hg z)) (fun x z hB v h' hr => fQ_next_1_12_s hB hr) hB _ _ hr)
-- CampAshes$Tape.startText
noncomputable def fQ_startText_1 (x1 : Int32) (g : s_G) : Option (s_G) :=
  s_b1 (fQ_next_1 (s_si (s_si (s_si (s_si (s_si (s_si g 1 2 (g.1 1 1)) 1 1 (0 : Int32)) 1 3 x1) 1 4 (0 : Int32)) 1 10 (0 : Int32)) 1 11 (0 : Int32))) fun g1 => some g1
theorem fQ_startText_1_s {x1 : Int32} {g : s_G} {z : s_G} (hB : fQ_startText_1 x1 g = some z) : s_Ev 2 s_m19 [.ref 1, .int x1] (s_hg g) (none) (s_hg z) := by
  unfold fQ_startText_1 at hB
  refine s_Ev.fin ((?_ : ∀ (v : Option Value) (h' : s_H), (fun (z : s_G) (v : Option Value) (h' : s_H) => v = none ∧ h' = s_hg z) z v h' → s_Fin 2 s_m19 (0, s_ent [.ref 1, .int x1] (s_m19).2.2.1, [], s_hg g) v h') _ _ ⟨rfl, rfl⟩)
  intro v h' hr
  refine (show s_Fin 2 s_m19 (0, [some (.ref 1), some (.int x1)], [], s_hg g) v h' from ?_)
  refine s_Fin.sg 20 (y := (34, [some (.ref 1), some (.int x1)], [.ref 1], s_hg (s_si (s_si (s_si (s_si (s_si (s_si g 1 2 (g.1 1 1)) 1 1 (0 : Int32)) 1 3 x1) 1 4 (0 : Int32)) 1 10 (0 : Int32)) 1 11 (0 : Int32)))) rfl ?_
  obtain ⟨g1, hp, hB⟩ := s_bd hB
  refine s_Fin.cl (d := 1) (q1 := s_m20) (md := 20) (vs := [.ref 1]) (rest := []) (h1 := s_hg g1) (u := none) (s_Ev.up (by omega) (fQ_next_1_s hp)) rfl rfl rfl rfl ?_
  have hB := Option.some.inj hB
  subst hB
  obtain ⟨rfl, rfl⟩ := hr
  exact s_Fin.rt rfl rfl
-- java/util/Arrays.fill
noncomputable def fJ_fill_16_5 (x1 : Int32) (x2 : Int32) (x3 : Int32) (g : s_G) : Option ((Int32 × s_G) ⊕ (s_G)) :=
  if x2 < x3 then (s_b1 (s_ix 4 x2) fun k2 => some (.inl (x2 + (1 : Int32), (s_si g 16 k2 x1))))
  else s_in (some g)
theorem fJ_fill_16_5_s {x1 : Int32} {x2 : Int32} {x3 : Int32} {g : s_G} {z : (Int32 × s_G) ⊕ (s_G)} (hB : fJ_fill_16_5 x1 x2 x3 g = some z) {v : Option Value} {h' : s_H} (hr : (s_sm (fun (x : Int32 × s_G) (v : Option Value) (h' : s_H) => s_Fin 0 s_m4 (5, [some (.ref 16), some (.int x1), some (.int x.1), some (.int x3)], [], s_hg x.2) v h') (fun (z : s_G) (v : Option Value) (h' : s_H) => v = none ∧ h' = s_hg z)) z v h') : s_Fin 0 s_m4 (5, [some (.ref 16), some (.int x1), some (.int x2), some (.int x3)], [], s_hg g) v h' := by
  unfold fJ_fill_16_5 at hB
  refine s_Fin.sg 2 (y := (7, [some (.ref 16), some (.int x1), some (.int x2), some (.int x3)], [.int x3, .int x2], s_hg g)) rfl ?_
  by_cases hc : x2 < x3
  · rw [if_pos hc] at hB
    refine s_Fin.bf (c := x3 ≤ x2) (tg := 20) (p2 := 7) (L1 := [some (.ref 16), some (.int x1), some (.int x2), some (.int x3)]) (st1 := []) (Int32.not_le.mpr hc) rfl ?_
    refine s_Fin.sg 3 (y := (13, [some (.ref 16), some (.int x1), some (.int x2), some (.int x3)], [.int x1, .int x2, .ref 16], s_hg g)) rfl ?_
    obtain ⟨k2, hk2, hB⟩ := s_bd hB
    refine s_Fin.ix (n := 4) (i := x2) (pc1 := 14) (L1 := [some (.ref 16), some (.int x1), some (.int x2), some (.int x3)]) (fun j1 => []) (fun j1 => s_hg (s_si g 16 j1 x1)) hk2 rfl rfl ?_
    refine s_Fin.sg 2 (y := (5, [some (.ref 16), some (.int x1), some (.int (x2 + (1 : Int32))), some (.int x3)], [], s_hg (s_si g 16 k2 x1))) rfl ?_
    have hB := Option.some.inj hB
    subst hB
    exact s_Fin.more (L := [some (.ref 16), some (.int x1), some (.int (x2 + (1 : Int32))), some (.int x3)]) ⟨Or.inr rfl, Or.inr rfl, Or.inr rfl, Or.inr rfl, trivial⟩ hr
  · rw [if_neg hc] at hB
    refine s_Fin.bt (c := x3 ≤ x2) (tg := 20) (p2 := 7) (L1 := [some (.ref 16), some (.int x1), some (.int x2), some (.int x3)]) (st1 := []) (Int32.not_lt.mp hc) rfl ?_
    obtain ⟨_, hN, hz⟩ := s_in_of hB
    subst hz
    have hB := hN
    have hB := Option.some.inj hB
    subst hB
    obtain ⟨rfl, rfl⟩ := hr
    exact s_Fin.rt rfl rfl
noncomputable def fJ_fill_16 (x1 : Int32) (g : s_G) : Option (s_G) :=
  s_lp (fun x => fJ_fill_16_5 x1 x.1 (4 : Int32) x.2) ((0 : Int32), g)
theorem fJ_fill_16_s {x1 : Int32} {g : s_G} {z : s_G} (hB : fJ_fill_16 x1 g = some z) : s_Ev 0 s_m4 [.ref 16, .int x1] (s_hg g) (none) (s_hg z) := by
  unfold fJ_fill_16 at hB
  refine s_Ev.fin ((?_ : ∀ (v : Option Value) (h' : s_H), (fun (z : s_G) (v : Option Value) (h' : s_H) => v = none ∧ h' = s_hg z) z v h' → s_Fin 0 s_m4 (0, s_ent [.ref 16, .int x1] (s_m4).2.2.1, [], s_hg g) v h') _ _ ⟨rfl, rfl⟩)
  intro v h' hr
  refine (show s_Fin 0 s_m4 (0, [some (.ref 16), some (.int x1), none, none], [], s_hg g) v h' from ?_)
  refine s_Fin.sg 5 (y := (5, [some (.ref 16), some (.int x1), some (.int (0 : Int32)), some (.int (4 : Int32))], [], s_hg g)) rfl ?_
  exact s_Fin.more (L := [some (.ref 16), some (.int x1), some (.int (0 : Int32)), some (.int (4 : Int32))]) ⟨Or.inr rfl, Or.inr rfl, Or.inr rfl, Or.inr rfl, trivial⟩ (s_lp_s (P := (fun (x : Int32 × s_G) (v : Option Value) (h' : s_H) => s_Fin 0 s_m4 (5, [some (.ref 16), some (.int x1), some (.int x.1), some (.int (4 : Int32))], [], s_hg x.2) v h')) (Q := (fun (z : s_G) (v : Option Value) (h' : s_H) => v = none ∧ h' = s_hg z)) (fun x z hB v h' hr => fJ_fill_16_5_s hB hr) hB _ _ hr)
-- CampAshes$Camp.clear
noncomputable def fP_clear_10 (g : s_G) : Option (s_G) :=
  s_b1 (fJ_fill_16 (3 : Int32) (s_si (s_si g 10 0 (0 : Int32)) 10 1 (0 : Int32))) fun g1 => some (s_si (s_si (s_si (s_si (s_si (s_si g1 10 8 (10 : Int32)) 10 9 (2 : Int32)) 10 10 (1 : Int32)) 10 11 (0 : Int32)) 10 12 (0 : Int32)) 10 13 (0 : Int32))
theorem fP_clear_10_s {g : s_G} {z : s_G} (hB : fP_clear_10 g = some z) : s_Ev 1 s_m3 [.ref 10] (s_hg g) (none) (s_hg z) := by
  unfold fP_clear_10 at hB
  refine s_Ev.fin ((?_ : ∀ (v : Option Value) (h' : s_H), (fun (z : s_G) (v : Option Value) (h' : s_H) => v = none ∧ h' = s_hg z) z v h' → s_Fin 1 s_m3 (0, s_ent [.ref 10] (s_m3).2.2.1, [], s_hg g) v h') _ _ ⟨rfl, rfl⟩)
  intro v h' hr
  refine (show s_Fin 1 s_m3 (0, [some (.ref 10)], [], s_hg g) v h' from ?_)
  refine s_Fin.sg 9 (y := (15, [some (.ref 10)], [.int (3 : Int32), .ref 16], s_hg (s_si (s_si g 10 0 (0 : Int32)) 10 1 (0 : Int32)))) rfl ?_
  obtain ⟨g1, hp, hB⟩ := s_bd hB
  refine s_Fin.cl (d := 0) (q1 := s_m4) (md := 4) (vs := [.ref 16, .int (3 : Int32)]) (rest := []) (h1 := s_hg g1) (u := none) (s_Ev.up (by omega) (fJ_fill_16_s hp)) rfl rfl rfl rfl ?_
  refine s_Fin.sg 18 (y := (49, [some (.ref 10)], [], s_hg (s_si (s_si (s_si (s_si (s_si (s_si g1 10 8 (10 : Int32)) 10 9 (2 : Int32)) 10 10 (1 : Int32)) 10 11 (0 : Int32)) 10 12 (0 : Int32)) 10 13 (0 : Int32)))) rfl ?_
  have hB := Option.some.inj hB
  subst hB
  obtain ⟨rfl, rfl⟩ := hr
  exact s_Fin.rt rfl rfl
-- CampAshes$Tape.hasEnded
noncomputable def fQ_hasEnded_1 (g : s_G) : Option (Int32) :=
  if (g.1 1 5) = 0 then (if (g.1 1 3) < (g.1 1 2) then (some (0 : Int32))
  else some (1 : Int32))
  else some (0 : Int32)
theorem fQ_hasEnded_1_s {g : s_G} {z : Int32} (hB : fQ_hasEnded_1 g = some z) : s_Ev 0 s_m26 [.ref 1] (s_hg g) (some (.int z)) (s_hg g) := by
  unfold fQ_hasEnded_1 at hB
  refine s_Ev.fin ((?_ : ∀ (v : Option Value) (h' : s_H), (fun (z : Int32) (v : Option Value) (h' : s_H) => v = some (.int z) ∧ h' = s_hg g) z v h' → s_Fin 0 s_m26 (0, s_ent [.ref 1] (s_m26).2.2.1, [], s_hg g) v h') _ _ ⟨rfl, rfl⟩)
  intro v h' hr
  refine (show s_Fin 0 s_m26 (0, [some (.ref 1)], [], s_hg g) v h' from ?_)
  refine s_Fin.sg 2 (y := (4, [some (.ref 1)], [.int (g.1 1 5)], s_hg g)) rfl ?_
  by_cases hc : (g.1 1 5) = 0
  · rw [if_pos hc] at hB
    refine s_Fin.bf (c := ¬ (g.1 1 5) = 0) (tg := 22) (p2 := 4) (L1 := [some (.ref 1)]) (st1 := []) (fun h => h hc) rfl ?_
    refine s_Fin.sg 4 (y := (15, [some (.ref 1)], [.int (g.1 1 3), .int (g.1 1 2)], s_hg g)) rfl ?_
    by_cases hc : (g.1 1 3) < (g.1 1 2)
    · rw [if_pos hc] at hB
      refine s_Fin.bt (c := (g.1 1 3) < (g.1 1 2)) (tg := 22) (p2 := 15) (L1 := [some (.ref 1)]) (st1 := []) hc rfl ?_
      refine s_Fin.sg 1 (y := (23, [some (.ref 1)], [.int (0 : Int32)], s_hg g)) rfl ?_
      have hB := Option.some.inj hB
      subst hB
      obtain ⟨rfl, rfl⟩ := hr
      exact s_Fin.rt rfl rfl
    · rw [if_neg hc] at hB
      refine s_Fin.bf (c := (g.1 1 3) < (g.1 1 2)) (tg := 22) (p2 := 15) (L1 := [some (.ref 1)]) (st1 := []) hc rfl ?_
      refine s_Fin.sg 2 (y := (23, [some (.ref 1)], [.int (1 : Int32)], s_hg g)) rfl ?_
      have hB := Option.some.inj hB
      subst hB
      obtain ⟨rfl, rfl⟩ := hr
      exact s_Fin.rt rfl rfl
  · rw [if_neg hc] at hB
    refine s_Fin.bt (c := ¬ (g.1 1 5) = 0) (tg := 22) (p2 := 4) (L1 := [some (.ref 1)]) (st1 := []) hc rfl ?_
    refine s_Fin.sg 1 (y := (23, [some (.ref 1)], [.int (0 : Int32)], s_hg g)) rfl ?_
    have hB := Option.some.inj hB
    subst hB
    obtain ⟨rfl, rfl⟩ := hr
    exact s_Fin.rt rfl rfl
-- CampAshes$Tape.isWord
noncomputable def fQ_isWord_1_1000 (g : s_G) : Option (Int32) :=
  if (g.1 1 5) = (2 : Int32) then (if s_okw (g.2.2 1 9) = true then (if (g.2.2 1 9) = some 1000 then (some (1 : Int32))
  else some (0 : Int32)) else none)
  else some (0 : Int32)
theorem fQ_isWord_1_1000_s {g : s_G} {z : Int32} (hB : fQ_isWord_1_1000 g = some z) : s_Ev 0 s_m28 [.ref 1, .ref 1000] (s_hg g) (some (.int z)) (s_hg g) := by
  unfold fQ_isWord_1_1000 at hB
  refine s_Ev.fin ((?_ : ∀ (v : Option Value) (h' : s_H), (fun (z : Int32) (v : Option Value) (h' : s_H) => v = some (.int z) ∧ h' = s_hg g) z v h' → s_Fin 0 s_m28 (0, s_ent [.ref 1, .ref 1000] (s_m28).2.2.1, [], s_hg g) v h') _ _ ⟨rfl, rfl⟩)
  intro v h' hr
  refine (show s_Fin 0 s_m28 (0, [some (.ref 1), some (.ref 1000)], [], s_hg g) v h' from ?_)
  refine s_Fin.sg 3 (y := (5, [some (.ref 1), some (.ref 1000)], [.int (2 : Int32), .int (g.1 1 5)], s_hg g)) rfl ?_
  by_cases hc : (g.1 1 5) = (2 : Int32)
  · rw [if_pos hc] at hB
    refine s_Fin.bf (c := ¬ (g.1 1 5) = (2 : Int32)) (tg := 20) (p2 := 5) (L1 := [some (.ref 1), some (.ref 1000)]) (st1 := []) (fun h => h hc) rfl ?_
    refine s_Fin.sg 3 (y := (13, [some (.ref 1), some (.ref 1000)], [.ref 1000, va_rf (g.2.2 1 9)], s_hg g)) rfl ?_
    have hw : s_okw (g.2.2 1 9) = true := Classical.byContradiction fun h => (by rw [if_neg h] at hB; cases hB)
    rw [if_pos hw] at hB
    by_cases hc : (g.2.2 1 9) = some 1000
    · rw [if_pos hc] at hB
      refine s_Fin.nx (pc1 := 16) (L1 := [some (.ref 1), some (.ref 1000)]) (st1 := []) (h1 := s_hg g) ((show _ = s_acN 20 13 [some (.ref 1), some (.ref 1000)] [] (s_hg g) (.ref 1000) (va_rf (g.2.2 1 9)) from rfl).trans (s_acN_t hw rfl hc)) rfl ?_
      refine s_Fin.sg 2 (y := (21, [some (.ref 1), some (.ref 1000)], [.int (1 : Int32)], s_hg g)) rfl ?_
      have hB := Option.some.inj hB
      subst hB
      obtain ⟨rfl, rfl⟩ := hr
      exact s_Fin.rt rfl rfl
    · rw [if_neg hc] at hB
      refine s_Fin.nx (pc1 := 20) (L1 := [some (.ref 1), some (.ref 1000)]) (st1 := []) (h1 := s_hg g) ((show _ = s_acN 20 13 [some (.ref 1), some (.ref 1000)] [] (s_hg g) (.ref 1000) (va_rf (g.2.2 1 9)) from rfl).trans (s_acN_f hw rfl hc)) rfl ?_
      refine s_Fin.sg 1 (y := (21, [some (.ref 1), some (.ref 1000)], [.int (0 : Int32)], s_hg g)) rfl ?_
      have hB := Option.some.inj hB
      subst hB
      obtain ⟨rfl, rfl⟩ := hr
      exact s_Fin.rt rfl rfl
  · rw [if_neg hc] at hB
    refine s_Fin.bt (c := ¬ (g.1 1 5) = (2 : Int32)) (tg := 20) (p2 := 5) (L1 := [some (.ref 1), some (.ref 1000)]) (st1 := []) hc rfl ?_
    refine s_Fin.sg 1 (y := (21, [some (.ref 1), some (.ref 1000)], [.int (0 : Int32)], s_hg g)) rfl ?_
    have hB := Option.some.inj hB
    subst hB
    obtain ⟨rfl, rfl⟩ := hr
    exact s_Fin.rt rfl rfl
-- CampAshes$Tape.isWord
noncomputable def fQ_isWord_1_1001 (g : s_G) : Option (Int32) :=
  if (g.1 1 5) = (2 : Int32) then (if s_okw (g.2.2 1 9) = true then (if (g.2.2 1 9) = some 1001 then (some (1 : Int32))
  else some (0 : Int32)) else none)
  else some (0 : Int32)
theorem fQ_isWord_1_1001_s {g : s_G} {z : Int32} (hB : fQ_isWord_1_1001 g = some z) : s_Ev 0 s_m28 [.ref 1, .ref 1001] (s_hg g) (some (.int z)) (s_hg g) := by
  unfold fQ_isWord_1_1001 at hB
  refine s_Ev.fin ((?_ : ∀ (v : Option Value) (h' : s_H), (fun (z : Int32) (v : Option Value) (h' : s_H) => v = some (.int z) ∧ h' = s_hg g) z v h' → s_Fin 0 s_m28 (0, s_ent [.ref 1, .ref 1001] (s_m28).2.2.1, [], s_hg g) v h') _ _ ⟨rfl, rfl⟩)
  intro v h' hr
  refine (show s_Fin 0 s_m28 (0, [some (.ref 1), some (.ref 1001)], [], s_hg g) v h' from ?_)
  refine s_Fin.sg 3 (y := (5, [some (.ref 1), some (.ref 1001)], [.int (2 : Int32), .int (g.1 1 5)], s_hg g)) rfl ?_
  by_cases hc : (g.1 1 5) = (2 : Int32)
  · rw [if_pos hc] at hB
    refine s_Fin.bf (c := ¬ (g.1 1 5) = (2 : Int32)) (tg := 20) (p2 := 5) (L1 := [some (.ref 1), some (.ref 1001)]) (st1 := []) (fun h => h hc) rfl ?_
    refine s_Fin.sg 3 (y := (13, [some (.ref 1), some (.ref 1001)], [.ref 1001, va_rf (g.2.2 1 9)], s_hg g)) rfl ?_
    have hw : s_okw (g.2.2 1 9) = true := Classical.byContradiction fun h => (by rw [if_neg h] at hB; cases hB)
    rw [if_pos hw] at hB
    by_cases hc : (g.2.2 1 9) = some 1001
    · rw [if_pos hc] at hB
      refine s_Fin.nx (pc1 := 16) (L1 := [some (.ref 1), some (.ref 1001)]) (st1 := []) (h1 := s_hg g) ((show _ = s_acN 20 13 [some (.ref 1), some (.ref 1001)] [] (s_hg g) (.ref 1001) (va_rf (g.2.2 1 9)) from rfl).trans (s_acN_t hw rfl hc)) rfl ?_
      refine s_Fin.sg 2 (y := (21, [some (.ref 1), some (.ref 1001)], [.int (1 : Int32)], s_hg g)) rfl ?_
      have hB := Option.some.inj hB
      subst hB
      obtain ⟨rfl, rfl⟩ := hr
      exact s_Fin.rt rfl rfl
    · rw [if_neg hc] at hB
      refine s_Fin.nx (pc1 := 20) (L1 := [some (.ref 1), some (.ref 1001)]) (st1 := []) (h1 := s_hg g) ((show _ = s_acN 20 13 [some (.ref 1), some (.ref 1001)] [] (s_hg g) (.ref 1001) (va_rf (g.2.2 1 9)) from rfl).trans (s_acN_f hw rfl hc)) rfl ?_
      refine s_Fin.sg 1 (y := (21, [some (.ref 1), some (.ref 1001)], [.int (0 : Int32)], s_hg g)) rfl ?_
      have hB := Option.some.inj hB
      subst hB
      obtain ⟨rfl, rfl⟩ := hr
      exact s_Fin.rt rfl rfl
  · rw [if_neg hc] at hB
    refine s_Fin.bt (c := ¬ (g.1 1 5) = (2 : Int32)) (tg := 20) (p2 := 5) (L1 := [some (.ref 1), some (.ref 1001)]) (st1 := []) hc rfl ?_
    refine s_Fin.sg 1 (y := (21, [some (.ref 1), some (.ref 1001)], [.int (0 : Int32)], s_hg g)) rfl ?_
    have hB := Option.some.inj hB
    subst hB
    obtain ⟨rfl, rfl⟩ := hr
    exact s_Fin.rt rfl rfl
-- CampAshes$Tape.isWord
noncomputable def fQ_isWord_1_1002 (g : s_G) : Option (Int32) :=
  if (g.1 1 5) = (2 : Int32) then (if s_okw (g.2.2 1 9) = true then (if (g.2.2 1 9) = some 1002 then (some (1 : Int32))
  else some (0 : Int32)) else none)
  else some (0 : Int32)
theorem fQ_isWord_1_1002_s {g : s_G} {z : Int32} (hB : fQ_isWord_1_1002 g = some z) : s_Ev 0 s_m28 [.ref 1, .ref 1002] (s_hg g) (some (.int z)) (s_hg g) := by
  unfold fQ_isWord_1_1002 at hB
  refine s_Ev.fin ((?_ : ∀ (v : Option Value) (h' : s_H), (fun (z : Int32) (v : Option Value) (h' : s_H) => v = some (.int z) ∧ h' = s_hg g) z v h' → s_Fin 0 s_m28 (0, s_ent [.ref 1, .ref 1002] (s_m28).2.2.1, [], s_hg g) v h') _ _ ⟨rfl, rfl⟩)
  intro v h' hr
  refine (show s_Fin 0 s_m28 (0, [some (.ref 1), some (.ref 1002)], [], s_hg g) v h' from ?_)
  refine s_Fin.sg 3 (y := (5, [some (.ref 1), some (.ref 1002)], [.int (2 : Int32), .int (g.1 1 5)], s_hg g)) rfl ?_
  by_cases hc : (g.1 1 5) = (2 : Int32)
  · rw [if_pos hc] at hB
    refine s_Fin.bf (c := ¬ (g.1 1 5) = (2 : Int32)) (tg := 20) (p2 := 5) (L1 := [some (.ref 1), some (.ref 1002)]) (st1 := []) (fun h => h hc) rfl ?_
    refine s_Fin.sg 3 (y := (13, [some (.ref 1), some (.ref 1002)], [.ref 1002, va_rf (g.2.2 1 9)], s_hg g)) rfl ?_
    have hw : s_okw (g.2.2 1 9) = true := Classical.byContradiction fun h => (by rw [if_neg h] at hB; cases hB)
    rw [if_pos hw] at hB
    by_cases hc : (g.2.2 1 9) = some 1002
    · rw [if_pos hc] at hB
      refine s_Fin.nx (pc1 := 16) (L1 := [some (.ref 1), some (.ref 1002)]) (st1 := []) (h1 := s_hg g) ((show _ = s_acN 20 13 [some (.ref 1), some (.ref 1002)] [] (s_hg g) (.ref 1002) (va_rf (g.2.2 1 9)) from rfl).trans (s_acN_t hw rfl hc)) rfl ?_
      refine s_Fin.sg 2 (y := (21, [some (.ref 1), some (.ref 1002)], [.int (1 : Int32)], s_hg g)) rfl ?_
      have hB := Option.some.inj hB
      subst hB
      obtain ⟨rfl, rfl⟩ := hr
      exact s_Fin.rt rfl rfl
    · rw [if_neg hc] at hB
      refine s_Fin.nx (pc1 := 20) (L1 := [some (.ref 1), some (.ref 1002)]) (st1 := []) (h1 := s_hg g) ((show _ = s_acN 20 13 [some (.ref 1), some (.ref 1002)] [] (s_hg g) (.ref 1002) (va_rf (g.2.2 1 9)) from rfl).trans (s_acN_f hw rfl hc)) rfl ?_
      refine s_Fin.sg 1 (y := (21, [some (.ref 1), some (.ref 1002)], [.int (0 : Int32)], s_hg g)) rfl ?_
      have hB := Option.some.inj hB
      subst hB
      obtain ⟨rfl, rfl⟩ := hr
      exact s_Fin.rt rfl rfl
  · rw [if_neg hc] at hB
    refine s_Fin.bt (c := ¬ (g.1 1 5) = (2 : Int32)) (tg := 20) (p2 := 5) (L1 := [some (.ref 1), some (.ref 1002)]) (st1 := []) hc rfl ?_
    refine s_Fin.sg 1 (y := (21, [some (.ref 1), some (.ref 1002)], [.int (0 : Int32)], s_hg g)) rfl ?_
    have hB := Option.some.inj hB
    subst hB
    obtain ⟨rfl, rfl⟩ := hr
    exact s_Fin.rt rfl rfl
-- CampAshes$Tape.isWord
noncomputable def fQ_isWord_1_1003 (g : s_G) : Option (Int32) :=
  if (g.1 1 5) = (2 : Int32) then (if s_okw (g.2.2 1 9) = true then (if (g.2.2 1 9) = some 1003 then (some (1 : Int32))
  else some (0 : Int32)) else none)
  else some (0 : Int32)
theorem fQ_isWord_1_1003_s {g : s_G} {z : Int32} (hB : fQ_isWord_1_1003 g = some z) : s_Ev 0 s_m28 [.ref 1, .ref 1003] (s_hg g) (some (.int z)) (s_hg g) := by
  unfold fQ_isWord_1_1003 at hB
  refine s_Ev.fin ((?_ : ∀ (v : Option Value) (h' : s_H), (fun (z : Int32) (v : Option Value) (h' : s_H) => v = some (.int z) ∧ h' = s_hg g) z v h' → s_Fin 0 s_m28 (0, s_ent [.ref 1, .ref 1003] (s_m28).2.2.1, [], s_hg g) v h') _ _ ⟨rfl, rfl⟩)
  intro v h' hr
  refine (show s_Fin 0 s_m28 (0, [some (.ref 1), some (.ref 1003)], [], s_hg g) v h' from ?_)
  refine s_Fin.sg 3 (y := (5, [some (.ref 1), some (.ref 1003)], [.int (2 : Int32), .int (g.1 1 5)], s_hg g)) rfl ?_
  by_cases hc : (g.1 1 5) = (2 : Int32)
  · rw [if_pos hc] at hB
    refine s_Fin.bf (c := ¬ (g.1 1 5) = (2 : Int32)) (tg := 20) (p2 := 5) (L1 := [some (.ref 1), some (.ref 1003)]) (st1 := []) (fun h => h hc) rfl ?_
    refine s_Fin.sg 3 (y := (13, [some (.ref 1), some (.ref 1003)], [.ref 1003, va_rf (g.2.2 1 9)], s_hg g)) rfl ?_
    have hw : s_okw (g.2.2 1 9) = true := Classical.byContradiction fun h => (by rw [if_neg h] at hB; cases hB)
    rw [if_pos hw] at hB
    by_cases hc : (g.2.2 1 9) = some 1003
    · rw [if_pos hc] at hB
      refine s_Fin.nx (pc1 := 16) (L1 := [some (.ref 1), some (.ref 1003)]) (st1 := []) (h1 := s_hg g) ((show _ = s_acN 20 13 [some (.ref 1), some (.ref 1003)] [] (s_hg g) (.ref 1003) (va_rf (g.2.2 1 9)) from rfl).trans (s_acN_t hw rfl hc)) rfl ?_
      refine s_Fin.sg 2 (y := (21, [some (.ref 1), some (.ref 1003)], [.int (1 : Int32)], s_hg g)) rfl ?_
      have hB := Option.some.inj hB
      subst hB
      obtain ⟨rfl, rfl⟩ := hr
      exact s_Fin.rt rfl rfl
    · rw [if_neg hc] at hB
      refine s_Fin.nx (pc1 := 20) (L1 := [some (.ref 1), some (.ref 1003)]) (st1 := []) (h1 := s_hg g) ((show _ = s_acN 20 13 [some (.ref 1), some (.ref 1003)] [] (s_hg g) (.ref 1003) (va_rf (g.2.2 1 9)) from rfl).trans (s_acN_f hw rfl hc)) rfl ?_
      refine s_Fin.sg 1 (y := (21, [some (.ref 1), some (.ref 1003)], [.int (0 : Int32)], s_hg g)) rfl ?_
      have hB := Option.some.inj hB
      subst hB
      obtain ⟨rfl, rfl⟩ := hr
      exact s_Fin.rt rfl rfl
  · rw [if_neg hc] at hB
    refine s_Fin.bt (c := ¬ (g.1 1 5) = (2 : Int32)) (tg := 20) (p2 := 5) (L1 := [some (.ref 1), some (.ref 1003)]) (st1 := []) hc rfl ?_
    refine s_Fin.sg 1 (y := (21, [some (.ref 1), some (.ref 1003)], [.int (0 : Int32)], s_hg g)) rfl ?_
    have hB := Option.some.inj hB
    subst hB
    obtain ⟨rfl, rfl⟩ := hr
    exact s_Fin.rt rfl rfl
-- CampAshes$Tape.isWord
noncomputable def fQ_isWord_1_1004 (g : s_G) : Option (Int32) :=
  if (g.1 1 5) = (2 : Int32) then (if s_okw (g.2.2 1 9) = true then (if (g.2.2 1 9) = some 1004 then (some (1 : Int32))
  else some (0 : Int32)) else none)
  else some (0 : Int32)
theorem fQ_isWord_1_1004_s {g : s_G} {z : Int32} (hB : fQ_isWord_1_1004 g = some z) : s_Ev 0 s_m28 [.ref 1, .ref 1004] (s_hg g) (some (.int z)) (s_hg g) := by
  unfold fQ_isWord_1_1004 at hB
  refine s_Ev.fin ((?_ : ∀ (v : Option Value) (h' : s_H), (fun (z : Int32) (v : Option Value) (h' : s_H) => v = some (.int z) ∧ h' = s_hg g) z v h' → s_Fin 0 s_m28 (0, s_ent [.ref 1, .ref 1004] (s_m28).2.2.1, [], s_hg g) v h') _ _ ⟨rfl, rfl⟩)
  intro v h' hr
  refine (show s_Fin 0 s_m28 (0, [some (.ref 1), some (.ref 1004)], [], s_hg g) v h' from ?_)
  refine s_Fin.sg 3 (y := (5, [some (.ref 1), some (.ref 1004)], [.int (2 : Int32), .int (g.1 1 5)], s_hg g)) rfl ?_
  by_cases hc : (g.1 1 5) = (2 : Int32)
  · rw [if_pos hc] at hB
    refine s_Fin.bf (c := ¬ (g.1 1 5) = (2 : Int32)) (tg := 20) (p2 := 5) (L1 := [some (.ref 1), some (.ref 1004)]) (st1 := []) (fun h => h hc) rfl ?_
    refine s_Fin.sg 3 (y := (13, [some (.ref 1), some (.ref 1004)], [.ref 1004, va_rf (g.2.2 1 9)], s_hg g)) rfl ?_
    have hw : s_okw (g.2.2 1 9) = true := Classical.byContradiction fun h => (by rw [if_neg h] at hB; cases hB)
    rw [if_pos hw] at hB
    by_cases hc : (g.2.2 1 9) = some 1004
    · rw [if_pos hc] at hB
      refine s_Fin.nx (pc1 := 16) (L1 := [some (.ref 1), some (.ref 1004)]) (st1 := []) (h1 := s_hg g) ((show _ = s_acN 20 13 [some (.ref 1), some (.ref 1004)] [] (s_hg g) (.ref 1004) (va_rf (g.2.2 1 9)) from rfl).trans (s_acN_t hw rfl hc)) rfl ?_
      refine s_Fin.sg 2 (y := (21, [some (.ref 1), some (.ref 1004)], [.int (1 : Int32)], s_hg g)) rfl ?_
      have hB := Option.some.inj hB
      subst hB
      obtain ⟨rfl, rfl⟩ := hr
      exact s_Fin.rt rfl rfl
    · rw [if_neg hc] at hB
      refine s_Fin.nx (pc1 := 20) (L1 := [some (.ref 1), some (.ref 1004)]) (st1 := []) (h1 := s_hg g) ((show _ = s_acN 20 13 [some (.ref 1), some (.ref 1004)] [] (s_hg g) (.ref 1004) (va_rf (g.2.2 1 9)) from rfl).trans (s_acN_f hw rfl hc)) rfl ?_
      refine s_Fin.sg 1 (y := (21, [some (.ref 1), some (.ref 1004)], [.int (0 : Int32)], s_hg g)) rfl ?_
      have hB := Option.some.inj hB
      subst hB
      obtain ⟨rfl, rfl⟩ := hr
      exact s_Fin.rt rfl rfl
  · rw [if_neg hc] at hB
    refine s_Fin.bt (c := ¬ (g.1 1 5) = (2 : Int32)) (tg := 20) (p2 := 5) (L1 := [some (.ref 1), some (.ref 1004)]) (st1 := []) hc rfl ?_
    refine s_Fin.sg 1 (y := (21, [some (.ref 1), some (.ref 1004)], [.int (0 : Int32)], s_hg g)) rfl ?_
    have hB := Option.some.inj hB
    subst hB
    obtain ⟨rfl, rfl⟩ := hr
    exact s_Fin.rt rfl rfl
-- CampAshes$Tape.isWord
noncomputable def fQ_isWord_1_1005 (g : s_G) : Option (Int32) :=
  if (g.1 1 5) = (2 : Int32) then (if s_okw (g.2.2 1 9) = true then (if (g.2.2 1 9) = some 1005 then (some (1 : Int32))
  else some (0 : Int32)) else none)
  else some (0 : Int32)
theorem fQ_isWord_1_1005_s {g : s_G} {z : Int32} (hB : fQ_isWord_1_1005 g = some z) : s_Ev 0 s_m28 [.ref 1, .ref 1005] (s_hg g) (some (.int z)) (s_hg g) := by
  unfold fQ_isWord_1_1005 at hB
  refine s_Ev.fin ((?_ : ∀ (v : Option Value) (h' : s_H), (fun (z : Int32) (v : Option Value) (h' : s_H) => v = some (.int z) ∧ h' = s_hg g) z v h' → s_Fin 0 s_m28 (0, s_ent [.ref 1, .ref 1005] (s_m28).2.2.1, [], s_hg g) v h') _ _ ⟨rfl, rfl⟩)
  intro v h' hr
  refine (show s_Fin 0 s_m28 (0, [some (.ref 1), some (.ref 1005)], [], s_hg g) v h' from ?_)
  refine s_Fin.sg 3 (y := (5, [some (.ref 1), some (.ref 1005)], [.int (2 : Int32), .int (g.1 1 5)], s_hg g)) rfl ?_
  by_cases hc : (g.1 1 5) = (2 : Int32)
  · rw [if_pos hc] at hB
    refine s_Fin.bf (c := ¬ (g.1 1 5) = (2 : Int32)) (tg := 20) (p2 := 5) (L1 := [some (.ref 1), some (.ref 1005)]) (st1 := []) (fun h => h hc) rfl ?_
    refine s_Fin.sg 3 (y := (13, [some (.ref 1), some (.ref 1005)], [.ref 1005, va_rf (g.2.2 1 9)], s_hg g)) rfl ?_
    have hw : s_okw (g.2.2 1 9) = true := Classical.byContradiction fun h => (by rw [if_neg h] at hB; cases hB)
    rw [if_pos hw] at hB
    by_cases hc : (g.2.2 1 9) = some 1005
    · rw [if_pos hc] at hB
      refine s_Fin.nx (pc1 := 16) (L1 := [some (.ref 1), some (.ref 1005)]) (st1 := []) (h1 := s_hg g) ((show _ = s_acN 20 13 [some (.ref 1), some (.ref 1005)] [] (s_hg g) (.ref 1005) (va_rf (g.2.2 1 9)) from rfl).trans (s_acN_t hw rfl hc)) rfl ?_
      refine s_Fin.sg 2 (y := (21, [some (.ref 1), some (.ref 1005)], [.int (1 : Int32)], s_hg g)) rfl ?_
      have hB := Option.some.inj hB
      subst hB
      obtain ⟨rfl, rfl⟩ := hr
      exact s_Fin.rt rfl rfl
    · rw [if_neg hc] at hB
      refine s_Fin.nx (pc1 := 20) (L1 := [some (.ref 1), some (.ref 1005)]) (st1 := []) (h1 := s_hg g) ((show _ = s_acN 20 13 [some (.ref 1), some (.ref 1005)] [] (s_hg g) (.ref 1005) (va_rf (g.2.2 1 9)) from rfl).trans (s_acN_f hw rfl hc)) rfl ?_
      refine s_Fin.sg 1 (y := (21, [some (.ref 1), some (.ref 1005)], [.int (0 : Int32)], s_hg g)) rfl ?_
      have hB := Option.some.inj hB
      subst hB
      obtain ⟨rfl, rfl⟩ := hr
      exact s_Fin.rt rfl rfl
  · rw [if_neg hc] at hB
    refine s_Fin.bt (c := ¬ (g.1 1 5) = (2 : Int32)) (tg := 20) (p2 := 5) (L1 := [some (.ref 1), some (.ref 1005)]) (st1 := []) hc rfl ?_
    refine s_Fin.sg 1 (y := (21, [some (.ref 1), some (.ref 1005)], [.int (0 : Int32)], s_hg g)) rfl ?_
    have hB := Option.some.inj hB
    subst hB
    obtain ⟨rfl, rfl⟩ := hr
    exact s_Fin.rt rfl rfl
-- CampAshes$Tape.isWord
noncomputable def fQ_isWord_1_1006 (g : s_G) : Option (Int32) :=
  if (g.1 1 5) = (2 : Int32) then (if s_okw (g.2.2 1 9) = true then (if (g.2.2 1 9) = some 1006 then (some (1 : Int32))
  else some (0 : Int32)) else none)
  else some (0 : Int32)
theorem fQ_isWord_1_1006_s {g : s_G} {z : Int32} (hB : fQ_isWord_1_1006 g = some z) : s_Ev 0 s_m28 [.ref 1, .ref 1006] (s_hg g) (some (.int z)) (s_hg g) := by
  unfold fQ_isWord_1_1006 at hB
  refine s_Ev.fin ((?_ : ∀ (v : Option Value) (h' : s_H), (fun (z : Int32) (v : Option Value) (h' : s_H) => v = some (.int z) ∧ h' = s_hg g) z v h' → s_Fin 0 s_m28 (0, s_ent [.ref 1, .ref 1006] (s_m28).2.2.1, [], s_hg g) v h') _ _ ⟨rfl, rfl⟩)
  intro v h' hr
  refine (show s_Fin 0 s_m28 (0, [some (.ref 1), some (.ref 1006)], [], s_hg g) v h' from ?_)
  refine s_Fin.sg 3 (y := (5, [some (.ref 1), some (.ref 1006)], [.int (2 : Int32), .int (g.1 1 5)], s_hg g)) rfl ?_
  by_cases hc : (g.1 1 5) = (2 : Int32)
  · rw [if_pos hc] at hB
    refine s_Fin.bf (c := ¬ (g.1 1 5) = (2 : Int32)) (tg := 20) (p2 := 5) (L1 := [some (.ref 1), some (.ref 1006)]) (st1 := []) (fun h => h hc) rfl ?_
    refine s_Fin.sg 3 (y := (13, [some (.ref 1), some (.ref 1006)], [.ref 1006, va_rf (g.2.2 1 9)], s_hg g)) rfl ?_
    have hw : s_okw (g.2.2 1 9) = true := Classical.byContradiction fun h => (by rw [if_neg h] at hB; cases hB)
    rw [if_pos hw] at hB
    by_cases hc : (g.2.2 1 9) = some 1006
    · rw [if_pos hc] at hB
      refine s_Fin.nx (pc1 := 16) (L1 := [some (.ref 1), some (.ref 1006)]) (st1 := []) (h1 := s_hg g) ((show _ = s_acN 20 13 [some (.ref 1), some (.ref 1006)] [] (s_hg g) (.ref 1006) (va_rf (g.2.2 1 9)) from rfl).trans (s_acN_t hw rfl hc)) rfl ?_
      refine s_Fin.sg 2 (y := (21, [some (.ref 1), some (.ref 1006)], [.int (1 : Int32)], s_hg g)) rfl ?_
      have hB := Option.some.inj hB
      subst hB
      obtain ⟨rfl, rfl⟩ := hr
      exact s_Fin.rt rfl rfl
    · rw [if_neg hc] at hB
      refine s_Fin.nx (pc1 := 20) (L1 := [some (.ref 1), some (.ref 1006)]) (st1 := []) (h1 := s_hg g) ((show _ = s_acN 20 13 [some (.ref 1), some (.ref 1006)] [] (s_hg g) (.ref 1006) (va_rf (g.2.2 1 9)) from rfl).trans (s_acN_f hw rfl hc)) rfl ?_
      refine s_Fin.sg 1 (y := (21, [some (.ref 1), some (.ref 1006)], [.int (0 : Int32)], s_hg g)) rfl ?_
      have hB := Option.some.inj hB
      subst hB
      obtain ⟨rfl, rfl⟩ := hr
      exact s_Fin.rt rfl rfl
  · rw [if_neg hc] at hB
    refine s_Fin.bt (c := ¬ (g.1 1 5) = (2 : Int32)) (tg := 20) (p2 := 5) (L1 := [some (.ref 1), some (.ref 1006)]) (st1 := []) hc rfl ?_
    refine s_Fin.sg 1 (y := (21, [some (.ref 1), some (.ref 1006)], [.int (0 : Int32)], s_hg g)) rfl ?_
    have hB := Option.some.inj hB
    subst hB
    obtain ⟨rfl, rfl⟩ := hr
    exact s_Fin.rt rfl rfl
-- CampAshes$Tape.fail
noncomputable def fQ_fail_1 (x1 : Int32) (g : s_G) : Option (Int32 × s_G) :=
  some ((0 : Int32), (s_si (s_si g 1 10 x1) 1 11 (g.1 1 6)))
theorem fQ_fail_1_s {x1 : Int32} {g : s_G} {z : Int32 × s_G} (hB : fQ_fail_1 x1 g = some z) : s_Ev 0 s_m30 [.ref 1, .int x1] (s_hg g) (some (.int z.1)) (s_hg z.2) := by
  unfold fQ_fail_1 at hB
  refine s_Ev.fin ((?_ : ∀ (v : Option Value) (h' : s_H), (fun (z : Int32 × s_G) (v : Option Value) (h' : s_H) => v = some (.int z.1) ∧ h' = s_hg z.2) z v h' → s_Fin 0 s_m30 (0, s_ent [.ref 1, .int x1] (s_m30).2.2.1, [], s_hg g) v h') _ _ ⟨rfl, rfl⟩)
  intro v h' hr
  refine (show s_Fin 0 s_m30 (0, [some (.ref 1), some (.int x1)], [], s_hg g) v h' from ?_)
  refine s_Fin.sg 8 (y := (14, [some (.ref 1), some (.int x1)], [.int (0 : Int32)], s_hg (s_si (s_si g 1 10 x1) 1 11 (g.1 1 6)))) rfl ?_
  have hB := Option.some.inj hB
  subst hB
  obtain ⟨rfl, rfl⟩ := hr
  exact s_Fin.rt rfl rfl
-- CampAshes$Tape.passNumber
noncomputable def fQ_passNumber_1 (x1 : Int32) (x2 : Int32) (g : s_G) : Option (Int32 × s_G) :=
  if (g.1 1 5) = (4 : Int32) then (if (g.1 1 7) < x1 then (s_b2 (fQ_fail_1 (2 : Int32) g) fun v2 g1 => some ((-1 : Int32), g1))
  else if x2 < (g.1 1 7) then (s_b2 (fQ_fail_1 (2 : Int32) g) fun v4 g3 => some ((-1 : Int32), g3))
  else s_b1 (fQ_next_1 g) fun g5 => some (g.1 1 7, g5))
  else s_b2 (fQ_fail_1 (1 : Int32) g) fun v7 g6 => some ((-1 : Int32), g6)
theorem fQ_passNumber_1_s {x1 : Int32} {x2 : Int32} {g : s_G} {z : Int32 × s_G} (hB : fQ_passNumber_1 x1 x2 g = some z) : s_Ev 2 s_m34 [.ref 1, .int x1, .int x2] (s_hg g) (some (.int z.1)) (s_hg z.2) := by
  unfold fQ_passNumber_1 at hB
  refine s_Ev.fin ((?_ : ∀ (v : Option Value) (h' : s_H), (fun (z : Int32 × s_G) (v : Option Value) (h' : s_H) => v = some (.int z.1) ∧ h' = s_hg z.2) z v h' → s_Fin 2 s_m34 (0, s_ent [.ref 1, .int x1, .int x2] (s_m34).2.2.1, [], s_hg g) v h') _ _ ⟨rfl, rfl⟩)
  intro v h' hr
  refine (show s_Fin 2 s_m34 (0, [some (.ref 1), some (.int x1), some (.int x2), none], [], s_hg g) v h' from ?_)
  refine s_Fin.sg 3 (y := (5, [some (.ref 1), some (.int x1), some (.int x2), none], [.int (4 : Int32), .int (g.1 1 5)], s_hg g)) rfl ?_
  by_cases hc : (g.1 1 5) = (4 : Int32)
  · rw [if_pos hc] at hB
    refine s_Fin.bt (c := (g.1 1 5) = (4 : Int32)) (tg := 16) (p2 := 5) (L1 := [some (.ref 1), some (.int x1), some (.int x2), none]) (st1 := []) hc rfl ?_
    refine s_Fin.sg 3 (y := (21, [some (.ref 1), some (.int x1), some (.int x2), none], [.int x1, .int (g.1 1 7)], s_hg g)) rfl ?_
    by_cases hc : (g.1 1 7) < x1
    · rw [if_pos hc] at hB
      refine s_Fin.bt (c := (g.1 1 7) < x1) (tg := 32) (p2 := 21) (L1 := [some (.ref 1), some (.int x1), some (.int x2), none]) (st1 := []) hc rfl ?_
      refine s_Fin.sg 2 (y := (34, [some (.ref 1), some (.int x1), some (.int x2), none], [.int (2 : Int32), .ref 1], s_hg g)) rfl ?_
      obtain ⟨v2, g1, hp, hB⟩ := s_bd2 hB
      refine s_Fin.cl (d := 1) (q1 := s_m30) (md := 30) (vs := [.ref 1, .int (2 : Int32)]) (rest := []) (h1 := s_hg g1) (u := some (.int v2)) (s_Ev.up (by omega) (fQ_fail_1_s hp)) rfl rfl rfl rfl ?_
      refine s_Fin.sg 2 (y := (39, [some (.ref 1), some (.int x1), some (.int x2), none], [.int (-1 : Int32)], s_hg g1)) rfl ?_
      have hB := Option.some.inj hB
      subst hB
      obtain ⟨rfl, rfl⟩ := hr
      exact s_Fin.rt rfl rfl
    · rw [if_neg hc] at hB
      refine s_Fin.bf (c := (g.1 1 7) < x1) (tg := 32) (p2 := 21) (L1 := [some (.ref 1), some (.int x1), some (.int x2), none]) (st1 := []) hc rfl ?_
      refine s_Fin.sg 3 (y := (29, [some (.ref 1), some (.int x1), some (.int x2), none], [.int x2, .int (g.1 1 7)], s_hg g)) rfl ?_
      by_cases hc : x2 < (g.1 1 7)
      · rw [if_pos hc] at hB
        refine s_Fin.bf (c := (g.1 1 7) ≤ x2) (tg := 40) (p2 := 29) (L1 := [some (.ref 1), some (.int x1), some (.int x2), none]) (st1 := []) (Int32.not_le.mpr hc) rfl ?_
        refine s_Fin.sg 2 (y := (34, [some (.ref 1), some (.int x1), some (.int x2), none], [.int (2 : Int32), .ref 1], s_hg g)) rfl ?_
        obtain ⟨v4, g3, hp, hB⟩ := s_bd2 hB
        refine s_Fin.cl (d := 1) (q1 := s_m30) (md := 30) (vs := [.ref 1, .int (2 : Int32)]) (rest := []) (h1 := s_hg g3) (u := some (.int v4)) (s_Ev.up (by omega) (fQ_fail_1_s hp)) rfl rfl rfl rfl ?_
        refine s_Fin.sg 2 (y := (39, [some (.ref 1), some (.int x1), some (.int x2), none], [.int (-1 : Int32)], s_hg g3)) rfl ?_
        have hB := Option.some.inj hB
        subst hB
        obtain ⟨rfl, rfl⟩ := hr
        exact s_Fin.rt rfl rfl
      · rw [if_neg hc] at hB
        refine s_Fin.bt (c := (g.1 1 7) ≤ x2) (tg := 40) (p2 := 29) (L1 := [some (.ref 1), some (.int x1), some (.int x2), none]) (st1 := []) (Int32.not_lt.mp hc) rfl ?_
        refine s_Fin.sg 4 (y := (46, [some (.ref 1), some (.int x1), some (.int x2), some (.int (g.1 1 7))], [.ref 1], s_hg g)) rfl ?_
        obtain ⟨g5, hp, hB⟩ := s_bd hB
        refine s_Fin.cl (d := 1) (q1 := s_m20) (md := 20) (vs := [.ref 1]) (rest := []) (h1 := s_hg g5) (u := none) (s_Ev.up (by omega) (fQ_next_1_s hp)) rfl rfl rfl rfl ?_
        refine s_Fin.sg 1 (y := (50, [some (.ref 1), some (.int x1), some (.int x2), some (.int (g.1 1 7))], [.int (g.1 1 7)], s_hg g5)) rfl ?_
        have hB := Option.some.inj hB
        subst hB
        obtain ⟨rfl, rfl⟩ := hr
        exact s_Fin.rt rfl rfl
  · rw [if_neg hc] at hB
    refine s_Fin.bf (c := (g.1 1 5) = (4 : Int32)) (tg := 16) (p2 := 5) (L1 := [some (.ref 1), some (.int x1), some (.int x2), none]) (st1 := []) hc rfl ?_
    refine s_Fin.sg 2 (y := (10, [some (.ref 1), some (.int x1), some (.int x2), none], [.int (1 : Int32), .ref 1], s_hg g)) rfl ?_
    obtain ⟨v7, g6, hp, hB⟩ := s_bd2 hB
    refine s_Fin.cl (d := 1) (q1 := s_m30) (md := 30) (vs := [.ref 1, .int (1 : Int32)]) (rest := []) (h1 := s_hg g6) (u := some (.int v7)) (s_Ev.up (by omega) (fQ_fail_1_s hp)) rfl rfl rfl rfl ?_
    refine s_Fin.sg 2 (y := (15, [some (.ref 1), some (.int x1), some (.int x2), none], [.int (-1 : Int32)], s_hg g6)) rfl ?_
    have hB := Option.some.inj hB
    subst hB
    obtain ⟨rfl, rfl⟩ := hr
    exact s_Fin.rt rfl rfl
-- CampAshes$Camp.readOnceNumber
noncomputable def fP_readOnceNumber_10_1 (x2 : Int32) (x3 : Int32) (x4 : Int32) (g : s_G) : Option (Int32 × s_G) :=
  if ((g.1 10 13) &&& x2) = 0 then (s_b1 (fQ_next_1 (s_si g 10 13 ((g.1 10 13) ||| x2))) fun g1 => s_b2 (fQ_passNumber_1 x3 x4 g1) fun v3 g2 => some (v3, g2))
  else s_b2 (fQ_fail_1 (3 : Int32) g) fun v5 g4 => some ((-1 : Int32), g4)
theorem fP_readOnceNumber_10_1_s {x2 : Int32} {x3 : Int32} {x4 : Int32} {g : s_G} {z : Int32 × s_G} (hB : fP_readOnceNumber_10_1 x2 x3 x4 g = some z) : s_Ev 3 s_m40 [.ref 10, .ref 1, .int x2, .int x3, .int x4] (s_hg g) (some (.int z.1)) (s_hg z.2) := by
  unfold fP_readOnceNumber_10_1 at hB
  refine s_Ev.fin ((?_ : ∀ (v : Option Value) (h' : s_H), (fun (z : Int32 × s_G) (v : Option Value) (h' : s_H) => v = some (.int z.1) ∧ h' = s_hg z.2) z v h' → s_Fin 3 s_m40 (0, s_ent [.ref 10, .ref 1, .int x2, .int x3, .int x4] (s_m40).2.2.1, [], s_hg g) v h') _ _ ⟨rfl, rfl⟩)
  intro v h' hr
  refine (show s_Fin 3 s_m40 (0, [some (.ref 10), some (.ref 1), some (.int x2), some (.int x3), some (.int x4)], [], s_hg g) v h' from ?_)
  refine s_Fin.sg 4 (y := (6, [some (.ref 10), some (.ref 1), some (.int x2), some (.int x3), some (.int x4)], [.int ((g.1 10 13) &&& x2)], s_hg g)) rfl ?_
  by_cases hc : ((g.1 10 13) &&& x2) = 0
  · rw [if_pos hc] at hB
    refine s_Fin.bt (c := ((g.1 10 13) &&& x2) = 0) (tg := 17) (p2 := 6) (L1 := [some (.ref 10), some (.ref 1), some (.int x2), some (.int x3), some (.int x4)]) (st1 := []) hc rfl ?_
    refine s_Fin.sg 7 (y := (28, [some (.ref 10), some (.ref 1), some (.int x2), some (.int x3), some (.int x4)], [.ref 1], s_hg (s_si g 10 13 ((g.1 10 13) ||| x2)))) rfl ?_
    obtain ⟨g1, hp, hB⟩ := s_bd hB
    refine s_Fin.cl (d := 2) (q1 := s_m20) (md := 20) (vs := [.ref 1]) (rest := []) (h1 := s_hg g1) (u := none) (s_Ev.up (by omega) (fQ_next_1_s hp)) rfl rfl rfl rfl ?_
    refine s_Fin.sg 3 (y := (35, [some (.ref 10), some (.ref 1), some (.int x2), some (.int x3), some (.int x4)], [.int x4, .int x3, .ref 1], s_hg g1)) rfl ?_
    obtain ⟨v3, g2, hp, hB⟩ := s_bd2 hB
    refine s_Fin.cl (d := 2) (q1 := s_m34) (md := 34) (vs := [.ref 1, .int x3, .int x4]) (rest := []) (h1 := s_hg g2) (u := some (.int v3)) (s_Ev.up (by omega) (fQ_passNumber_1_s hp)) rfl rfl rfl rfl ?_
    have hB := Option.some.inj hB
    subst hB
    obtain ⟨rfl, rfl⟩ := hr
    exact s_Fin.rt rfl rfl
  · rw [if_neg hc] at hB
    refine s_Fin.bf (c := ((g.1 10 13) &&& x2) = 0) (tg := 17) (p2 := 6) (L1 := [some (.ref 10), some (.ref 1), some (.int x2), some (.int x3), some (.int x4)]) (st1 := []) hc rfl ?_
    refine s_Fin.sg 2 (y := (11, [some (.ref 10), some (.ref 1), some (.int x2), some (.int x3), some (.int x4)], [.int (3 : Int32), .ref 1], s_hg g)) rfl ?_
    obtain ⟨v5, g4, hp, hB⟩ := s_bd2 hB
    refine s_Fin.cl (d := 2) (q1 := s_m30) (md := 30) (vs := [.ref 1, .int (3 : Int32)]) (rest := []) (h1 := s_hg g4) (u := some (.int v5)) (s_Ev.up (by omega) (fQ_fail_1_s hp)) rfl rfl rfl rfl ?_
    refine s_Fin.sg 2 (y := (16, [some (.ref 10), some (.ref 1), some (.int x2), some (.int x3), some (.int x4)], [.int (-1 : Int32)], s_hg g4)) rfl ?_
    have hB := Option.some.inj hB
    subst hB
    obtain ⟨rfl, rfl⟩ := hr
    exact s_Fin.rt rfl rfl
