-- CampAshesModel.holds
noncomputable def fM_holds_130_303 (K : Int32 → Int32 → s_G → Option (Int32)) (x3 : Int32) (x5 : Int32) (t0 : Int32) (g : s_G) : Option (Int32) :=
  s_b1 (s_ix 375 (x3 + (3 : Int32))) fun k21 => if (g.1 132 k21) = (60 : Int32) then (if t0 < x5 then (some (1 : Int32))
  else some (0 : Int32))
  else if (g.1 132 k21) = (61 : Int32) then (if t0 = x5 then (some (1 : Int32))
  else some (0 : Int32))
  else if x5 < t0 then (some (1 : Int32))
  else some (0 : Int32)
theorem fM_holds_130_303_s {K : Int32 → Int32 → s_G → Option (Int32)} {e : Nat} (he : 40 ≤ e) (hK : ∀ (x1 : Int32) (x2 : Int32) (g : s_G) (z : Int32), K x1 x2 g = some z → s_Ev e s_m278 [.ref 130, .int x1, .int x2] (s_hg g) (some (.int z)) (s_hg g)) {x3 : Int32} {x5 : Int32} {t0 : Int32} {g : s_G} {z : Int32} (hB : fM_holds_130_303 K x3 x5 t0 g = some z) {v : Option Value} {h' : s_H} (hr : (fun (z : Int32) (v : Option Value) (h' : s_H) => v = some (.int z) ∧ h' = s_hg g) z v h') : s_Fin (e + 1) s_m278 (303, [some (.ref 130), none, none, some (.int x3), none, some (.int x5), none, none], [.int t0], s_hg g) v h' := by
  unfold fM_holds_130_303 at hB
  refine s_Fin.sg 6 (y := (312, [some (.ref 130), none, none, some (.int x3), none, some (.int x5), none, some (.int t0)], [.int (x3 + (3 : Int32)), .ref 132], s_hg g)) rfl ?_
  obtain ⟨k21, hk21, hB⟩ := s_bd hB
  refine s_Fin.ix (n := 375) (i := x3 + (3 : Int32)) (pc1 := 313) (L1 := [some (.ref 130), none, none, some (.int x3), none, some (.int x5), none, some (.int t0)]) (fun j20 => [.int (g.1 132 j20)]) (fun j20 => s_hg g) hk21 rfl rfl ?_
  refine s_Fin.sg 1 (y := (315, [some (.ref 130), none, none, some (.int x3), none, some (.int x5), none, some (.int t0)], [.int (60 : Int32), .int (g.1 132 k21)], s_hg g)) rfl ?_
  by_cases hc : (g.1 132 k21) = (60 : Int32)
  · rw [if_pos hc] at hB
    refine s_Fin.bf (c := ¬ (g.1 132 k21) = (60 : Int32)) (tg := 333) (p2 := 315) (L1 := [some (.ref 130), none, none, some (.int x3), none, some (.int x5), none, some (.int t0)]) (st1 := []) (fun h => h hc) rfl ?_
    refine s_Fin.sg 2 (y := (322, [some (.ref 130), none, none, some (.int x3), none, some (.int x5), none, some (.int t0)], [.int x5, .int t0], s_hg g)) rfl ?_
    by_cases hc : t0 < x5
    · rw [if_pos hc] at hB
      refine s_Fin.bf (c := x5 ≤ t0) (tg := 329) (p2 := 322) (L1 := [some (.ref 130), none, none, some (.int x3), none, some (.int x5), none, some (.int t0)]) (st1 := []) (Int32.not_le.mpr hc) rfl ?_
      refine s_Fin.sg 2 (y := (373, [some (.ref 130), none, none, some (.int x3), none, some (.int x5), none, some (.int t0)], [.int (1 : Int32)], s_hg g)) rfl ?_
      have hB := Option.some.inj hB
      subst hB
      obtain ⟨rfl, rfl⟩ := hr
      exact s_Fin.rt rfl rfl
    · rw [if_neg hc] at hB
      refine s_Fin.bt (c := x5 ≤ t0) (tg := 329) (p2 := 322) (L1 := [some (.ref 130), none, none, some (.int x3), none, some (.int x5), none, some (.int t0)]) (st1 := []) (Int32.not_lt.mp hc) rfl ?_
      refine s_Fin.sg 2 (y := (373, [some (.ref 130), none, none, some (.int x3), none, some (.int x5), none, some (.int t0)], [.int (0 : Int32)], s_hg g)) rfl ?_
      have hB := Option.some.inj hB
      subst hB
      obtain ⟨rfl, rfl⟩ := hr
      exact s_Fin.rt rfl rfl
  · rw [if_neg hc] at hB
    refine s_Fin.bt (c := ¬ (g.1 132 k21) = (60 : Int32)) (tg := 333) (p2 := 315) (L1 := [some (.ref 130), none, none, some (.int x3), none, some (.int x5), none, some (.int t0)]) (st1 := []) hc rfl ?_
    refine s_Fin.sg 5 (y := (340, [some (.ref 130), none, none, some (.int x3), none, some (.int x5), none, some (.int t0)], [.int (x3 + (3 : Int32)), .ref 132], s_hg g)) rfl ?_
    refine s_Fin.ix (n := 375) (i := x3 + (3 : Int32)) (pc1 := 341) (L1 := [some (.ref 130), none, none, some (.int x3), none, some (.int x5), none, some (.int t0)]) (fun j22 => [.int (g.1 132 j22)]) (fun j22 => s_hg g) hk21 rfl rfl ?_
    refine s_Fin.sg 1 (y := (343, [some (.ref 130), none, none, some (.int x3), none, some (.int x5), none, some (.int t0)], [.int (61 : Int32), .int (g.1 132 k21)], s_hg g)) rfl ?_
    by_cases hc : (g.1 132 k21) = (61 : Int32)
    · rw [if_pos hc] at hB
      refine s_Fin.bf (c := ¬ (g.1 132 k21) = (61 : Int32)) (tg := 361) (p2 := 343) (L1 := [some (.ref 130), none, none, some (.int x3), none, some (.int x5), none, some (.int t0)]) (st1 := []) (fun h => h hc) rfl ?_
      refine s_Fin.sg 2 (y := (350, [some (.ref 130), none, none, some (.int x3), none, some (.int x5), none, some (.int t0)], [.int x5, .int t0], s_hg g)) rfl ?_
      by_cases hc : t0 = x5
      · rw [if_pos hc] at hB
        refine s_Fin.bf (c := ¬ t0 = x5) (tg := 357) (p2 := 350) (L1 := [some (.ref 130), none, none, some (.int x3), none, some (.int x5), none, some (.int t0)]) (st1 := []) (fun h => h hc) rfl ?_
        refine s_Fin.sg 2 (y := (373, [some (.ref 130), none, none, some (.int x3), none, some (.int x5), none, some (.int t0)], [.int (1 : Int32)], s_hg g)) rfl ?_
        have hB := Option.some.inj hB
        subst hB
        obtain ⟨rfl, rfl⟩ := hr
        exact s_Fin.rt rfl rfl
      · rw [if_neg hc] at hB
        refine s_Fin.bt (c := ¬ t0 = x5) (tg := 357) (p2 := 350) (L1 := [some (.ref 130), none, none, some (.int x3), none, some (.int x5), none, some (.int t0)]) (st1 := []) hc rfl ?_
        refine s_Fin.sg 2 (y := (373, [some (.ref 130), none, none, some (.int x3), none, some (.int x5), none, some (.int t0)], [.int (0 : Int32)], s_hg g)) rfl ?_
        have hB := Option.some.inj hB
        subst hB
        obtain ⟨rfl, rfl⟩ := hr
        exact s_Fin.rt rfl rfl
    · rw [if_neg hc] at hB
      refine s_Fin.bt (c := ¬ (g.1 132 k21) = (61 : Int32)) (tg := 361) (p2 := 343) (L1 := [some (.ref 130), none, none, some (.int x3), none, some (.int x5), none, some (.int t0)]) (st1 := []) hc rfl ?_
      refine s_Fin.sg 2 (y := (365, [some (.ref 130), none, none, some (.int x3), none, some (.int x5), none, some (.int t0)], [.int x5, .int t0], s_hg g)) rfl ?_
      by_cases hc : x5 < t0
      · rw [if_pos hc] at hB
        refine s_Fin.bf (c := t0 ≤ x5) (tg := 372) (p2 := 365) (L1 := [some (.ref 130), none, none, some (.int x3), none, some (.int x5), none, some (.int t0)]) (st1 := []) (Int32.not_le.mpr hc) rfl ?_
        refine s_Fin.sg 2 (y := (373, [some (.ref 130), none, none, some (.int x3), none, some (.int x5), none, some (.int t0)], [.int (1 : Int32)], s_hg g)) rfl ?_
        have hB := Option.some.inj hB
        subst hB
        obtain ⟨rfl, rfl⟩ := hr
        exact s_Fin.rt rfl rfl
      · rw [if_neg hc] at hB
        refine s_Fin.bt (c := t0 ≤ x5) (tg := 372) (p2 := 365) (L1 := [some (.ref 130), none, none, some (.int x3), none, some (.int x5), none, some (.int t0)]) (st1 := []) (Int32.not_lt.mp hc) rfl ?_
        refine s_Fin.sg 1 (y := (373, [some (.ref 130), none, none, some (.int x3), none, some (.int x5), none, some (.int t0)], [.int (0 : Int32)], s_hg g)) rfl ?_
        have hB := Option.some.inj hB
        subst hB
        obtain ⟨rfl, rfl⟩ := hr
        exact s_Fin.rt rfl rfl
noncomputable def fM_holds_130 (K : Int32 → Int32 → s_G → Option (Int32)) (x1 : Int32) (x2 : Int32) (g : s_G) : Option (Int32) :=
  s_b1 (s_ix 375 (((135 : Int32) + ((4 : Int32) * x1)) + (1 : Int32))) fun k2 => s_b1 (s_ix 375 (((135 : Int32) + ((4 : Int32) * x1)) + (2 : Int32))) fun k4 => s_b1 (s_ix 375 ((135 : Int32) + ((4 : Int32) * x1))) fun k6 => if (g.1 132 k6) = 1 then (s_b1 (K (g.1 132 k2) x2 g) fun v7 => if v7 = 0 then (some (1 : Int32))
  else some (0 : Int32))
  else if (g.1 132 k6) = 2 then (s_b1 (K (g.1 132 k2) x2 g) fun v8 => if v8 = 0 then (some (0 : Int32))
  else s_b1 (K (g.1 132 k4) x2 g) fun v9 => if v9 = 0 then (some (0 : Int32))
  else some (1 : Int32))
  else if (g.1 132 k6) = 3 then (s_b1 (K (g.1 132 k2) x2 g) fun v10 => if v10 = 0 then (s_b1 (K (g.1 132 k4) x2 g) fun v11 => if v11 = 0 then (some (0 : Int32))
  else some (1 : Int32))
  else some (1 : Int32))
  else if (g.1 132 k6) = 70 then (s_b1 (fM_isOver_130 x2 g) fun v12 => if v12 = 0 ∨ v12 = 1 then some v12
  else none)
  else if (g.1 132 k6) = 71 then (s_b1 (fM_isHushed_130 x2 g) fun v13 => if v13 = 0 ∨ v13 = 1 then some v13
  else none)
  else if (g.1 132 k6) = 72 then (s_b1 (fM_loadOf_130 x2 g) fun v14 => if v14 = 0 then (some (1 : Int32))
  else some (0 : Int32))
  else if (g.1 132 k6) = 73 then (s_b1 (fM_onOf_130 x2 (g.1 132 k2) g) fun v15 => if 0 < v15 then (some (1 : Int32))
  else some (0 : Int32))
  else if (g.1 132 k6) = 74 then (s_b1 (s_ix 375 ((17 : Int32) + (g.1 132 k2))) fun k17 => if (g.1 132 k17) = x2 then (some (1 : Int32))
  else some (0 : Int32))
  else if ((g.1 132 k6) - (50 : Int32)) = (25 : Int32) then (s_b1 (fM_loadOf_130 x2 g) fun v19 => fM_holds_130_303 K ((135 : Int32) + ((4 : Int32) * x1)) (g.1 132 k4) v19 g)
  else if ((g.1 132 k6) - (50 : Int32)) = (26 : Int32) then (s_b1 (s_ix 375 ((10 : Int32) + x2)) fun k24 => fM_holds_130_303 K ((135 : Int32) + ((4 : Int32) * x1)) (g.1 132 k4) (g.1 132 k24) g)
  else if ((g.1 132 k6) - (50 : Int32)) = (27 : Int32) then (s_b1 (s_ix 375 ((56 : Int32) + x2)) fun k26 => fM_holds_130_303 K ((135 : Int32) + ((4 : Int32) * x1)) (g.1 132 k4) (g.1 132 k26) g)
  else fM_holds_130_303 K ((135 : Int32) + ((4 : Int32) * x1)) (g.1 132 k4) x2 g
theorem fM_holds_130_s {K : Int32 → Int32 → s_G → Option (Int32)} {e : Nat} (he : 40 ≤ e) (hK : ∀ (x1 : Int32) (x2 : Int32) (g : s_G) (z : Int32), K x1 x2 g = some z → s_Ev e s_m278 [.ref 130, .int x1, .int x2] (s_hg g) (some (.int z)) (s_hg g)) {x1 : Int32} {x2 : Int32} {g : s_G} {z : Int32} (hB : fM_holds_130 K x1 x2 g = some z) : s_Ev (e + 1) s_m278 [.ref 130, .int x1, .int x2] (s_hg g) (some (.int z)) (s_hg g) := by
  unfold fM_holds_130 at hB
  refine s_Ev.fin ((?_ : ∀ (v : Option Value) (h' : s_H), (fun (z : Int32) (v : Option Value) (h' : s_H) => v = some (.int z) ∧ h' = s_hg g) z v h' → s_Fin (e + 1) s_m278 (0, s_ent [.ref 130, .int x1, .int x2] (s_m278).2.2.1, [], s_hg g) v h') _ _ ⟨rfl, rfl⟩)
  intro v h' hr
  refine (show s_Fin (e + 1) s_m278 (0, [some (.ref 130), some (.int x1), some (.int x2), none, none, none, none, none], [], s_hg g) v h' from ?_)
  refine s_Fin.sg 11 (y := (15, [some (.ref 130), some (.int x1), some (.int x2), some (.int ((135 : Int32) + ((4 : Int32) * x1))), none, none, none, none], [.int (((135 : Int32) + ((4 : Int32) * x1)) + (1 : Int32)), .ref 132], s_hg g)) rfl ?_
  obtain ⟨k2, hk2, hB⟩ := s_bd hB
  refine s_Fin.ix (n := 375) (i := ((135 : Int32) + ((4 : Int32) * x1)) + (1 : Int32)) (pc1 := 16) (L1 := [some (.ref 130), some (.int x1), some (.int x2), some (.int ((135 : Int32) + ((4 : Int32) * x1))), none, none, none, none]) (fun j1 => [.int (g.1 132 j1)]) (fun j1 => s_hg g) hk2 rfl rfl ?_
  refine s_Fin.sg 6 (y := (25, [some (.ref 130), some (.int x1), some (.int x2), some (.int ((135 : Int32) + ((4 : Int32) * x1))), some (.int (g.1 132 k2)), none, none, none], [.int (((135 : Int32) + ((4 : Int32) * x1)) + (2 : Int32)), .ref 132], s_hg g)) rfl ?_
  obtain ⟨k4, hk4, hB⟩ := s_bd hB
  refine s_Fin.ix (n := 375) (i := ((135 : Int32) + ((4 : Int32) * x1)) + (2 : Int32)) (pc1 := 26) (L1 := [some (.ref 130), some (.int x1), some (.int x2), some (.int ((135 : Int32) + ((4 : Int32) * x1))), some (.int (g.1 132 k2)), none, none, none]) (fun j3 => [.int (g.1 132 j3)]) (fun j3 => s_hg g) hk4 rfl rfl ?_
  refine s_Fin.sg 4 (y := (33, [some (.ref 130), some (.int x1), some (.int x2), some (.int ((135 : Int32) + ((4 : Int32) * x1))), some (.int (g.1 132 k2)), some (.int (g.1 132 k4)), none, none], [.int ((135 : Int32) + ((4 : Int32) * x1)), .ref 132], s_hg g)) rfl ?_
  obtain ⟨k6, hk6, hB⟩ := s_bd hB
  refine s_Fin.ix (n := 375) (i := (135 : Int32) + ((4 : Int32) * x1)) (pc1 := 34) (L1 := [some (.ref 130), some (.int x1), some (.int x2), some (.int ((135 : Int32) + ((4 : Int32) * x1))), some (.int (g.1 132 k2)), some (.int (g.1 132 k4)), none, none]) (fun j5 => [.int (g.1 132 j5)]) (fun j5 => s_hg g) hk6 rfl rfl ?_
  by_cases hc1 : (g.1 132 k6) = 1
  · rw [if_pos hc1] at hB
    refine s_Fin.nx (pc1 := 108) (L1 := [some (.ref 130), some (.int x1), some (.int x2), some (.int ((135 : Int32) + ((4 : Int32) * x1))), some (.int (g.1 132 k2)), some (.int (g.1 132 k4)), none, none]) (st1 := []) (h1 := s_hg g) (by rw [hc1]; exact rfl) rfl ?_
    refine s_Fin.sg 3 (y := (112, [some (.ref 130), some (.int x1), some (.int x2), some (.int ((135 : Int32) + ((4 : Int32) * x1))), some (.int (g.1 132 k2)), some (.int (g.1 132 k4)), none, none], [.int x2, .int (g.1 132 k2), .ref 130], s_hg g)) rfl ?_
    obtain ⟨v7, hp, hB⟩ := s_bd hB
    refine s_Fin.cl (d := e + 0) (q1 := s_m278) (md := 278) (vs := [.ref 130, .int (g.1 132 k2), .int x2]) (rest := []) (h1 := s_hg g) (u := some (.int v7)) (s_Ev.up (by omega) (hK _ _ _ _ hp)) rfl rfl rfl rfl ?_
    by_cases hc : v7 = 0
    · rw [if_pos hc] at hB
      refine s_Fin.bf (c := ¬ v7 = 0) (tg := 122) (p2 := 115) (L1 := [some (.ref 130), some (.int x1), some (.int x2), some (.int ((135 : Int32) + ((4 : Int32) * x1))), some (.int (g.1 132 k2)), some (.int (g.1 132 k4)), none, none]) (st1 := []) (fun h => h hc) rfl ?_
      refine s_Fin.sg 2 (y := (123, [some (.ref 130), some (.int x1), some (.int x2), some (.int ((135 : Int32) + ((4 : Int32) * x1))), some (.int (g.1 132 k2)), some (.int (g.1 132 k4)), none, none], [.int (1 : Int32)], s_hg g)) rfl ?_
      have hB := Option.some.inj hB
      subst hB
      obtain ⟨rfl, rfl⟩ := hr
      exact s_Fin.rt rfl rfl
    · rw [if_neg hc] at hB
      refine s_Fin.bt (c := ¬ v7 = 0) (tg := 122) (p2 := 115) (L1 := [some (.ref 130), some (.int x1), some (.int x2), some (.int ((135 : Int32) + ((4 : Int32) * x1))), some (.int (g.1 132 k2)), some (.int (g.1 132 k4)), none, none]) (st1 := []) hc rfl ?_
      refine s_Fin.sg 1 (y := (123, [some (.ref 130), some (.int x1), some (.int x2), some (.int ((135 : Int32) + ((4 : Int32) * x1))), some (.int (g.1 132 k2)), some (.int (g.1 132 k4)), none, none], [.int (0 : Int32)], s_hg g)) rfl ?_
      have hB := Option.some.inj hB
      subst hB
      obtain ⟨rfl, rfl⟩ := hr
      exact s_Fin.rt rfl rfl
  rw [if_neg hc1] at hB
  by_cases hc2 : (g.1 132 k6) = 2
  · rw [if_pos hc2] at hB
    refine s_Fin.nx (pc1 := 124) (L1 := [some (.ref 130), some (.int x1), some (.int x2), some (.int ((135 : Int32) + ((4 : Int32) * x1))), some (.int (g.1 132 k2)), some (.int (g.1 132 k4)), none, none]) (st1 := []) (h1 := s_hg g) (by rw [hc2]; exact rfl) rfl ?_
    refine s_Fin.sg 3 (y := (128, [some (.ref 130), some (.int x1), some (.int x2), some (.int ((135 : Int32) + ((4 : Int32) * x1))), some (.int (g.1 132 k2)), some (.int (g.1 132 k4)), none, none], [.int x2, .int (g.1 132 k2), .ref 130], s_hg g)) rfl ?_
    obtain ⟨v8, hp, hB⟩ := s_bd hB
    refine s_Fin.cl (d := e + 0) (q1 := s_m278) (md := 278) (vs := [.ref 130, .int (g.1 132 k2), .int x2]) (rest := []) (h1 := s_hg g) (u := some (.int v8)) (s_Ev.up (by omega) (hK _ _ _ _ hp)) rfl rfl rfl rfl ?_
    by_cases hc : v8 = 0
    · rw [if_pos hc] at hB
      refine s_Fin.bt (c := v8 = 0) (tg := 148) (p2 := 131) (L1 := [some (.ref 130), some (.int x1), some (.int x2), some (.int ((135 : Int32) + ((4 : Int32) * x1))), some (.int (g.1 132 k2)), some (.int (g.1 132 k4)), none, none]) (st1 := []) hc rfl ?_
      refine s_Fin.sg 1 (y := (149, [some (.ref 130), some (.int x1), some (.int x2), some (.int ((135 : Int32) + ((4 : Int32) * x1))), some (.int (g.1 132 k2)), some (.int (g.1 132 k4)), none, none], [.int (0 : Int32)], s_hg g)) rfl ?_
      have hB := Option.some.inj hB
      subst hB
      obtain ⟨rfl, rfl⟩ := hr
      exact s_Fin.rt rfl rfl
    · rw [if_neg hc] at hB
      refine s_Fin.bf (c := v8 = 0) (tg := 148) (p2 := 131) (L1 := [some (.ref 130), some (.int x1), some (.int x2), some (.int ((135 : Int32) + ((4 : Int32) * x1))), some (.int (g.1 132 k2)), some (.int (g.1 132 k4)), none, none]) (st1 := []) hc rfl ?_
      refine s_Fin.sg 3 (y := (138, [some (.ref 130), some (.int x1), some (.int x2), some (.int ((135 : Int32) + ((4 : Int32) * x1))), some (.int (g.1 132 k2)), some (.int (g.1 132 k4)), none, none], [.int x2, .int (g.1 132 k4), .ref 130], s_hg g)) rfl ?_
      obtain ⟨v9, hp, hB⟩ := s_bd hB
      refine s_Fin.cl (d := e + 0) (q1 := s_m278) (md := 278) (vs := [.ref 130, .int (g.1 132 k4), .int x2]) (rest := []) (h1 := s_hg g) (u := some (.int v9)) (s_Ev.up (by omega) (hK _ _ _ _ hp)) rfl rfl rfl rfl ?_
      by_cases hc : v9 = 0
      · rw [if_pos hc] at hB
        refine s_Fin.bt (c := v9 = 0) (tg := 148) (p2 := 141) (L1 := [some (.ref 130), some (.int x1), some (.int x2), some (.int ((135 : Int32) + ((4 : Int32) * x1))), some (.int (g.1 132 k2)), some (.int (g.1 132 k4)), none, none]) (st1 := []) hc rfl ?_
        refine s_Fin.sg 1 (y := (149, [some (.ref 130), some (.int x1), some (.int x2), some (.int ((135 : Int32) + ((4 : Int32) * x1))), some (.int (g.1 132 k2)), some (.int (g.1 132 k4)), none, none], [.int (0 : Int32)], s_hg g)) rfl ?_
        have hB := Option.some.inj hB
        subst hB
        obtain ⟨rfl, rfl⟩ := hr
        exact s_Fin.rt rfl rfl
      · rw [if_neg hc] at hB
        refine s_Fin.bf (c := v9 = 0) (tg := 148) (p2 := 141) (L1 := [some (.ref 130), some (.int x1), some (.int x2), some (.int ((135 : Int32) + ((4 : Int32) * x1))), some (.int (g.1 132 k2)), some (.int (g.1 132 k4)), none, none]) (st1 := []) hc rfl ?_
        refine s_Fin.sg 2 (y := (149, [some (.ref 130), some (.int x1), some (.int x2), some (.int ((135 : Int32) + ((4 : Int32) * x1))), some (.int (g.1 132 k2)), some (.int (g.1 132 k4)), none, none], [.int (1 : Int32)], s_hg g)) rfl ?_
        have hB := Option.some.inj hB
        subst hB
        obtain ⟨rfl, rfl⟩ := hr
        exact s_Fin.rt rfl rfl
  rw [if_neg hc2] at hB
  by_cases hc3 : (g.1 132 k6) = 3
  · rw [if_pos hc3] at hB
    refine s_Fin.nx (pc1 := 150) (L1 := [some (.ref 130), some (.int x1), some (.int x2), some (.int ((135 : Int32) + ((4 : Int32) * x1))), some (.int (g.1 132 k2)), some (.int (g.1 132 k4)), none, none]) (st1 := []) (h1 := s_hg g) (by rw [hc3]; exact rfl) rfl ?_
    refine s_Fin.sg 3 (y := (154, [some (.ref 130), some (.int x1), some (.int x2), some (.int ((135 : Int32) + ((4 : Int32) * x1))), some (.int (g.1 132 k2)), some (.int (g.1 132 k4)), none, none], [.int x2, .int (g.1 132 k2), .ref 130], s_hg g)) rfl ?_
    obtain ⟨v10, hp, hB⟩ := s_bd hB
    refine s_Fin.cl (d := e + 0) (q1 := s_m278) (md := 278) (vs := [.ref 130, .int (g.1 132 k2), .int x2]) (rest := []) (h1 := s_hg g) (u := some (.int v10)) (s_Ev.up (by omega) (hK _ _ _ _ hp)) rfl rfl rfl rfl ?_
    by_cases hc : v10 = 0
    · rw [if_pos hc] at hB
      refine s_Fin.bf (c := ¬ v10 = 0) (tg := 170) (p2 := 157) (L1 := [some (.ref 130), some (.int x1), some (.int x2), some (.int ((135 : Int32) + ((4 : Int32) * x1))), some (.int (g.1 132 k2)), some (.int (g.1 132 k4)), none, none]) (st1 := []) (fun h => h hc) rfl ?_
      refine s_Fin.sg 3 (y := (164, [some (.ref 130), some (.int x1), some (.int x2), some (.int ((135 : Int32) + ((4 : Int32) * x1))), some (.int (g.1 132 k2)), some (.int (g.1 132 k4)), none, none], [.int x2, .int (g.1 132 k4), .ref 130], s_hg g)) rfl ?_
      obtain ⟨v11, hp, hB⟩ := s_bd hB
      refine s_Fin.cl (d := e + 0) (q1 := s_m278) (md := 278) (vs := [.ref 130, .int (g.1 132 k4), .int x2]) (rest := []) (h1 := s_hg g) (u := some (.int v11)) (s_Ev.up (by omega) (hK _ _ _ _ hp)) rfl rfl rfl rfl ?_
      by_cases hc : v11 = 0
      · rw [if_pos hc] at hB
        refine s_Fin.bt (c := v11 = 0) (tg := 174) (p2 := 167) (L1 := [some (.ref 130), some (.int x1), some (.int x2), some (.int ((135 : Int32) + ((4 : Int32) * x1))), some (.int (g.1 132 k2)), some (.int (g.1 132 k4)), none, none]) (st1 := []) hc rfl ?_
        refine s_Fin.sg 1 (y := (175, [some (.ref 130), some (.int x1), some (.int x2), some (.int ((135 : Int32) + ((4 : Int32) * x1))), some (.int (g.1 132 k2)), some (.int (g.1 132 k4)), none, none], [.int (0 : Int32)], s_hg g)) rfl ?_
        have hB := Option.some.inj hB
        subst hB
        obtain ⟨rfl, rfl⟩ := hr
        exact s_Fin.rt rfl rfl
      · rw [if_neg hc] at hB
        refine s_Fin.bf (c := v11 = 0) (tg := 174) (p2 := 167) (L1 := [some (.ref 130), some (.int x1), some (.int x2), some (.int ((135 : Int32) + ((4 : Int32) * x1))), some (.int (g.1 132 k2)), some (.int (g.1 132 k4)), none, none]) (st1 := []) hc rfl ?_
        refine s_Fin.sg 2 (y := (175, [some (.ref 130), some (.int x1), some (.int x2), some (.int ((135 : Int32) + ((4 : Int32) * x1))), some (.int (g.1 132 k2)), some (.int (g.1 132 k4)), none, none], [.int (1 : Int32)], s_hg g)) rfl ?_
        have hB := Option.some.inj hB
        subst hB
        obtain ⟨rfl, rfl⟩ := hr
        exact s_Fin.rt rfl rfl
    · rw [if_neg hc] at hB
      refine s_Fin.bt (c := ¬ v10 = 0) (tg := 170) (p2 := 157) (L1 := [some (.ref 130), some (.int x1), some (.int x2), some (.int ((135 : Int32) + ((4 : Int32) * x1))), some (.int (g.1 132 k2)), some (.int (g.1 132 k4)), none, none]) (st1 := []) hc rfl ?_
      refine s_Fin.sg 2 (y := (175, [some (.ref 130), some (.int x1), some (.int x2), some (.int ((135 : Int32) + ((4 : Int32) * x1))), some (.int (g.1 132 k2)), some (.int (g.1 132 k4)), none, none], [.int (1 : Int32)], s_hg g)) rfl ?_
      have hB := Option.some.inj hB
      subst hB
      obtain ⟨rfl, rfl⟩ := hr
      exact s_Fin.rt rfl rfl
  rw [if_neg hc3] at hB
  by_cases hc70 : (g.1 132 k6) = 70
  · rw [if_pos hc70] at hB
    refine s_Fin.nx (pc1 := 176) (L1 := [some (.ref 130), some (.int x1), some (.int x2), some (.int ((135 : Int32) + ((4 : Int32) * x1))), some (.int (g.1 132 k2)), some (.int (g.1 132 k4)), none, none]) (st1 := []) (h1 := s_hg g) (by rw [hc70]; exact rfl) rfl ?_
    refine s_Fin.sg 2 (y := (178, [some (.ref 130), some (.int x1), some (.int x2), some (.int ((135 : Int32) + ((4 : Int32) * x1))), some (.int (g.1 132 k2)), some (.int (g.1 132 k4)), none, none], [.int x2, .ref 130], s_hg g)) rfl ?_
    obtain ⟨v12, hp, hB⟩ := s_bd hB
    refine s_Fin.cl (d := e + 0) (q1 := s_m196) (md := 196) (vs := [.ref 130, .int x2]) (rest := []) (h1 := s_hg g) (u := some (.int v12)) (s_Ev.up (by omega) (fM_isOver_130_s hp)) rfl rfl rfl rfl ?_
    have hc : v12 = 0 ∨ v12 = 1 := Classical.byContradiction fun h => (by rw [if_neg h] at hB; cases hB)
    rw [if_pos hc] at hB
    have hB := Option.some.inj hB
    subst hB
    obtain ⟨rfl, rfl⟩ := hr
    exact s_Fin.rt (by rcases hc with hc | hc <;> rw [hc] <;> exact rfl) rfl
  rw [if_neg hc70] at hB
  by_cases hc71 : (g.1 132 k6) = 71
  · rw [if_pos hc71] at hB
    refine s_Fin.nx (pc1 := 182) (L1 := [some (.ref 130), some (.int x1), some (.int x2), some (.int ((135 : Int32) + ((4 : Int32) * x1))), some (.int (g.1 132 k2)), some (.int (g.1 132 k4)), none, none]) (st1 := []) (h1 := s_hg g) (by rw [hc71]; exact rfl) rfl ?_
    refine s_Fin.sg 2 (y := (184, [some (.ref 130), some (.int x1), some (.int x2), some (.int ((135 : Int32) + ((4 : Int32) * x1))), some (.int (g.1 132 k2)), some (.int (g.1 132 k4)), none, none], [.int x2, .ref 130], s_hg g)) rfl ?_
    obtain ⟨v13, hp, hB⟩ := s_bd hB
    refine s_Fin.cl (d := e + 0) (q1 := s_m197) (md := 197) (vs := [.ref 130, .int x2]) (rest := []) (h1 := s_hg g) (u := some (.int v13)) (s_Ev.up (by omega) (fM_isHushed_130_s hp)) rfl rfl rfl rfl ?_
    have hc : v13 = 0 ∨ v13 = 1 := Classical.byContradiction fun h => (by rw [if_neg h] at hB; cases hB)
    rw [if_pos hc] at hB
    have hB := Option.some.inj hB
    subst hB
    obtain ⟨rfl, rfl⟩ := hr
    exact s_Fin.rt (by rcases hc with hc | hc <;> rw [hc] <;> exact rfl) rfl
  rw [if_neg hc71] at hB
  by_cases hc72 : (g.1 132 k6) = 72
  · rw [if_pos hc72] at hB
    refine s_Fin.nx (pc1 := 188) (L1 := [some (.ref 130), some (.int x1), some (.int x2), some (.int ((135 : Int32) + ((4 : Int32) * x1))), some (.int (g.1 132 k2)), some (.int (g.1 132 k4)), none, none]) (st1 := []) (h1 := s_hg g) (by rw [hc72]; exact rfl) rfl ?_
    refine s_Fin.sg 2 (y := (190, [some (.ref 130), some (.int x1), some (.int x2), some (.int ((135 : Int32) + ((4 : Int32) * x1))), some (.int (g.1 132 k2)), some (.int (g.1 132 k4)), none, none], [.int x2, .ref 130], s_hg g)) rfl ?_
    obtain ⟨v14, hp, hB⟩ := s_bd hB
    refine s_Fin.cl (d := e + 0) (q1 := s_m194) (md := 194) (vs := [.ref 130, .int x2]) (rest := []) (h1 := s_hg g) (u := some (.int v14)) (s_Ev.up (by omega) (fM_loadOf_130_s hp)) rfl rfl rfl rfl ?_
    by_cases hc : v14 = 0
    · rw [if_pos hc] at hB
      refine s_Fin.bf (c := ¬ v14 = 0) (tg := 200) (p2 := 193) (L1 := [some (.ref 130), some (.int x1), some (.int x2), some (.int ((135 : Int32) + ((4 : Int32) * x1))), some (.int (g.1 132 k2)), some (.int (g.1 132 k4)), none, none]) (st1 := []) (fun h => h hc) rfl ?_
      refine s_Fin.sg 2 (y := (201, [some (.ref 130), some (.int x1), some (.int x2), some (.int ((135 : Int32) + ((4 : Int32) * x1))), some (.int (g.1 132 k2)), some (.int (g.1 132 k4)), none, none], [.int (1 : Int32)], s_hg g)) rfl ?_
      have hB := Option.some.inj hB
      subst hB
      obtain ⟨rfl, rfl⟩ := hr
      exact s_Fin.rt rfl rfl
    · rw [if_neg hc] at hB
      refine s_Fin.bt (c := ¬ v14 = 0) (tg := 200) (p2 := 193) (L1 := [some (.ref 130), some (.int x1), some (.int x2), some (.int ((135 : Int32) + ((4 : Int32) * x1))), some (.int (g.1 132 k2)), some (.int (g.1 132 k4)), none, none]) (st1 := []) hc rfl ?_
      refine s_Fin.sg 1 (y := (201, [some (.ref 130), some (.int x1), some (.int x2), some (.int ((135 : Int32) + ((4 : Int32) * x1))), some (.int (g.1 132 k2)), some (.int (g.1 132 k4)), none, none], [.int (0 : Int32)], s_hg g)) rfl ?_
      have hB := Option.some.inj hB
      subst hB
      obtain ⟨rfl, rfl⟩ := hr
      exact s_Fin.rt rfl rfl
  rw [if_neg hc72] at hB
  by_cases hc73 : (g.1 132 k6) = 73
  · rw [if_pos hc73] at hB
    refine s_Fin.nx (pc1 := 202) (L1 := [some (.ref 130), some (.int x1), some (.int x2), some (.int ((135 : Int32) + ((4 : Int32) * x1))), some (.int (g.1 132 k2)), some (.int (g.1 132 k4)), none, none]) (st1 := []) (h1 := s_hg g) (by rw [hc73]; exact rfl) rfl ?_
    refine s_Fin.sg 3 (y := (206, [some (.ref 130), some (.int x1), some (.int x2), some (.int ((135 : Int32) + ((4 : Int32) * x1))), some (.int (g.1 132 k2)), some (.int (g.1 132 k4)), none, none], [.int (g.1 132 k2), .int x2, .ref 130], s_hg g)) rfl ?_
    obtain ⟨v15, hp, hB⟩ := s_bd hB
    refine s_Fin.cl (d := e + 0) (q1 := s_m199) (md := 199) (vs := [.ref 130, .int x2, .int (g.1 132 k2)]) (rest := []) (h1 := s_hg g) (u := some (.int v15)) (s_Ev.up (by omega) (fM_onOf_130_s hp)) rfl rfl rfl rfl ?_
    by_cases hc : 0 < v15
    · rw [if_pos hc] at hB
      refine s_Fin.bf (c := v15 ≤ 0) (tg := 216) (p2 := 209) (L1 := [some (.ref 130), some (.int x1), some (.int x2), some (.int ((135 : Int32) + ((4 : Int32) * x1))), some (.int (g.1 132 k2)), some (.int (g.1 132 k4)), none, none]) (st1 := []) (Int32.not_le.mpr hc) rfl ?_
      refine s_Fin.sg 2 (y := (217, [some (.ref 130), some (.int x1), some (.int x2), some (.int ((135 : Int32) + ((4 : Int32) * x1))), some (.int (g.1 132 k2)), some (.int (g.1 132 k4)), none, none], [.int (1 : Int32)], s_hg g)) rfl ?_
      have hB := Option.some.inj hB
      subst hB
      obtain ⟨rfl, rfl⟩ := hr
      exact s_Fin.rt rfl rfl
    · rw [if_neg hc] at hB
      refine s_Fin.bt (c := v15 ≤ 0) (tg := 216) (p2 := 209) (L1 := [some (.ref 130), some (.int x1), some (.int x2), some (.int ((135 : Int32) + ((4 : Int32) * x1))), some (.int (g.1 132 k2)), some (.int (g.1 132 k4)), none, none]) (st1 := []) (Int32.not_lt.mp hc) rfl ?_
      refine s_Fin.sg 1 (y := (217, [some (.ref 130), some (.int x1), some (.int x2), some (.int ((135 : Int32) + ((4 : Int32) * x1))), some (.int (g.1 132 k2)), some (.int (g.1 132 k4)), none, none], [.int (0 : Int32)], s_hg g)) rfl ?_
      have hB := Option.some.inj hB
      subst hB
      obtain ⟨rfl, rfl⟩ := hr
      exact s_Fin.rt rfl rfl
  rw [if_neg hc73] at hB
  by_cases hc74 : (g.1 132 k6) = 74
  · rw [if_pos hc74] at hB
    refine s_Fin.nx (pc1 := 218) (L1 := [some (.ref 130), some (.int x1), some (.int x2), some (.int ((135 : Int32) + ((4 : Int32) * x1))), some (.int (g.1 132 k2)), some (.int (g.1 132 k4)), none, none]) (st1 := []) (h1 := s_hg g) (by rw [hc74]; exact rfl) rfl ?_
    refine s_Fin.sg 5 (y := (227, [some (.ref 130), some (.int x1), some (.int x2), some (.int ((135 : Int32) + ((4 : Int32) * x1))), some (.int (g.1 132 k2)), some (.int (g.1 132 k4)), none, none], [.int ((17 : Int32) + (g.1 132 k2)), .ref 132], s_hg g)) rfl ?_
    obtain ⟨k17, hk17, hB⟩ := s_bd hB
    refine s_Fin.ix (n := 375) (i := (17 : Int32) + (g.1 132 k2)) (pc1 := 228) (L1 := [some (.ref 130), some (.int x1), some (.int x2), some (.int ((135 : Int32) + ((4 : Int32) * x1))), some (.int (g.1 132 k2)), some (.int (g.1 132 k4)), none, none]) (fun j16 => [.int (g.1 132 j16)]) (fun j16 => s_hg g) hk17 rfl rfl ?_
    refine s_Fin.sg 1 (y := (229, [some (.ref 130), some (.int x1), some (.int x2), some (.int ((135 : Int32) + ((4 : Int32) * x1))), some (.int (g.1 132 k2)), some (.int (g.1 132 k4)), none, none], [.int x2, .int (g.1 132 k17)], s_hg g)) rfl ?_
    by_cases hc : (g.1 132 k17) = x2
    · rw [if_pos hc] at hB
      refine s_Fin.bf (c := ¬ (g.1 132 k17) = x2) (tg := 236) (p2 := 229) (L1 := [some (.ref 130), some (.int x1), some (.int x2), some (.int ((135 : Int32) + ((4 : Int32) * x1))), some (.int (g.1 132 k2)), some (.int (g.1 132 k4)), none, none]) (st1 := []) (fun h => h hc) rfl ?_
      refine s_Fin.sg 2 (y := (237, [some (.ref 130), some (.int x1), some (.int x2), some (.int ((135 : Int32) + ((4 : Int32) * x1))), some (.int (g.1 132 k2)), some (.int (g.1 132 k4)), none, none], [.int (1 : Int32)], s_hg g)) rfl ?_
      have hB := Option.some.inj hB
      subst hB
      obtain ⟨rfl, rfl⟩ := hr
      exact s_Fin.rt rfl rfl
    · rw [if_neg hc] at hB
      refine s_Fin.bt (c := ¬ (g.1 132 k17) = x2) (tg := 236) (p2 := 229) (L1 := [some (.ref 130), some (.int x1), some (.int x2), some (.int ((135 : Int32) + ((4 : Int32) * x1))), some (.int (g.1 132 k2)), some (.int (g.1 132 k4)), none, none]) (st1 := []) hc rfl ?_
      refine s_Fin.sg 1 (y := (237, [some (.ref 130), some (.int x1), some (.int x2), some (.int ((135 : Int32) + ((4 : Int32) * x1))), some (.int (g.1 132 k2)), some (.int (g.1 132 k4)), none, none], [.int (0 : Int32)], s_hg g)) rfl ?_
      have hB := Option.some.inj hB
      subst hB
      obtain ⟨rfl, rfl⟩ := hr
      exact s_Fin.rt rfl rfl
  rw [if_neg hc74] at hB
  refine s_Fin.nx (pc1 := 238) (L1 := [some (.ref 130), some (.int x1), some (.int x2), some (.int ((135 : Int32) + ((4 : Int32) * x1))), some (.int (g.1 132 k2)), some (.int (g.1 132 k4)), none, none]) (st1 := []) (h1 := s_hg g) ((show _ = s_ls (g.1 132 k6).toInt 34 [some (.ref 130), some (.int x1), some (.int x2), some (.int ((135 : Int32) + ((4 : Int32) * x1))), some (.int (g.1 132 k2)), some (.int (g.1 132 k4)), none, none] [] (s_hg g) 204 [(1, 74), (2, 90), (3, 116), (70, 142), (71, 148), (72, 154), (73, 168), (74, 184)] from rfl).trans (s_ls_ms ⟨s_tne hc1 (by decide), s_tne hc2 (by decide), s_tne hc3 (by decide), s_tne hc70 (by decide), s_tne hc71 (by decide), s_tne hc72 (by decide), s_tne hc73 (by decide), s_tne hc74 (by decide), trivial⟩ (t := 238) rfl)) rfl ?_
  refine s_Fin.sg 3 (y := (243, [some (.ref 130), some (.int x1), some (.int x2), some (.int ((135 : Int32) + ((4 : Int32) * x1))), some (.int (g.1 132 k2)), some (.int (g.1 132 k4)), none, none], [.int ((135 : Int32) + ((4 : Int32) * x1)), .ref 132], s_hg g)) rfl ?_
  refine s_Fin.ix (n := 375) (i := (135 : Int32) + ((4 : Int32) * x1)) (pc1 := 244) (L1 := [some (.ref 130), some (.int x1), some (.int x2), some (.int ((135 : Int32) + ((4 : Int32) * x1))), some (.int (g.1 132 k2)), some (.int (g.1 132 k4)), none, none]) (fun j18 => [.int (g.1 132 j18)]) (fun j18 => s_hg g) hk6 rfl rfl ?_
  refine s_Fin.sg 5 (y := (253, [some (.ref 130), some (.int x1), some (.int x2), some (.int ((135 : Int32) + ((4 : Int32) * x1))), some (.int (g.1 132 k2)), some (.int (g.1 132 k4)), some (.int ((g.1 132 k6) - (50 : Int32))), none], [.int (25 : Int32), .int ((g.1 132 k6) - (50 : Int32))], s_hg g)) rfl ?_
  by_cases hc : ((g.1 132 k6) - (50 : Int32)) = (25 : Int32)
  · rw [if_pos hc] at hB
    refine s_Fin.bf (c := ¬ ((g.1 132 k6) - (50 : Int32)) = (25 : Int32)) (tg := 264) (p2 := 253) (L1 := [some (.ref 130), some (.int x1), some (.int x2), some (.int ((135 : Int32) + ((4 : Int32) * x1))), some (.int (g.1 132 k2)), some (.int (g.1 132 k4)), some (.int ((g.1 132 k6) - (50 : Int32))), none]) (st1 := []) (fun h => h hc) rfl ?_
    refine s_Fin.sg 2 (y := (258, [some (.ref 130), some (.int x1), some (.int x2), some (.int ((135 : Int32) + ((4 : Int32) * x1))), some (.int (g.1 132 k2)), some (.int (g.1 132 k4)), some (.int ((g.1 132 k6) - (50 : Int32))), none], [.int x2, .ref 130], s_hg g)) rfl ?_
    obtain ⟨v19, hp, hB⟩ := s_bd hB
    refine s_Fin.cl (d := e + 0) (q1 := s_m194) (md := 194) (vs := [.ref 130, .int x2]) (rest := []) (h1 := s_hg g) (u := some (.int v19)) (s_Ev.up (by omega) (fM_loadOf_130_s hp)) rfl rfl rfl rfl ?_
    refine s_Fin.sg 1 (y := (303, [some (.ref 130), some (.int x1), some (.int x2), some (.int ((135 : Int32) + ((4 : Int32) * x1))), some (.int (g.1 132 k2)), some (.int (g.1 132 k4)), some (.int ((g.1 132 k6) - (50 : Int32))), none], [.int v19], s_hg g)) rfl ?_
    exact s_Fin.more (L := [some (.ref 130), none, none, some (.int ((135 : Int32) + ((4 : Int32) * x1))), none, some (.int (g.1 132 k4)), none, none]) ⟨Or.inr rfl, Or.inl rfl, Or.inl rfl, Or.inr rfl, Or.inl rfl, Or.inr rfl, Or.inl rfl, Or.inl rfl, trivial⟩ (fM_holds_130_303_s he hK hB hr)
  · rw [if_neg hc] at hB
    refine s_Fin.bt (c := ¬ ((g.1 132 k6) - (50 : Int32)) = (25 : Int32)) (tg := 264) (p2 := 253) (L1 := [some (.ref 130), some (.int x1), some (.int x2), some (.int ((135 : Int32) + ((4 : Int32) * x1))), some (.int (g.1 132 k2)), some (.int (g.1 132 k4)), some (.int ((g.1 132 k6) - (50 : Int32))), none]) (st1 := []) hc rfl ?_
    refine s_Fin.sg 2 (y := (268, [some (.ref 130), some (.int x1), some (.int x2), some (.int ((135 : Int32) + ((4 : Int32) * x1))), some (.int (g.1 132 k2)), some (.int (g.1 132 k4)), some (.int ((g.1 132 k6) - (50 : Int32))), none], [.int (26 : Int32), .int ((g.1 132 k6) - (50 : Int32))], s_hg g)) rfl ?_
    by_cases hc : ((g.1 132 k6) - (50 : Int32)) = (26 : Int32)
    · rw [if_pos hc] at hB
      refine s_Fin.bf (c := ¬ ((g.1 132 k6) - (50 : Int32)) = (26 : Int32)) (tg := 283) (p2 := 268) (L1 := [some (.ref 130), some (.int x1), some (.int x2), some (.int ((135 : Int32) + ((4 : Int32) * x1))), some (.int (g.1 132 k2)), some (.int (g.1 132 k4)), some (.int ((g.1 132 k6) - (50 : Int32))), none]) (st1 := []) (fun h => h hc) rfl ?_
      refine s_Fin.sg 5 (y := (279, [some (.ref 130), some (.int x1), some (.int x2), some (.int ((135 : Int32) + ((4 : Int32) * x1))), some (.int (g.1 132 k2)), some (.int (g.1 132 k4)), some (.int ((g.1 132 k6) - (50 : Int32))), none], [.int ((10 : Int32) + x2), .ref 132], s_hg g)) rfl ?_
      obtain ⟨k24, hk24, hB⟩ := s_bd hB
      refine s_Fin.ix (n := 375) (i := (10 : Int32) + x2) (pc1 := 280) (L1 := [some (.ref 130), some (.int x1), some (.int x2), some (.int ((135 : Int32) + ((4 : Int32) * x1))), some (.int (g.1 132 k2)), some (.int (g.1 132 k4)), some (.int ((g.1 132 k6) - (50 : Int32))), none]) (fun j23 => [.int (g.1 132 j23)]) (fun j23 => s_hg g) hk24 rfl rfl ?_
      refine s_Fin.sg 1 (y := (303, [some (.ref 130), some (.int x1), some (.int x2), some (.int ((135 : Int32) + ((4 : Int32) * x1))), some (.int (g.1 132 k2)), some (.int (g.1 132 k4)), some (.int ((g.1 132 k6) - (50 : Int32))), none], [.int (g.1 132 k24)], s_hg g)) rfl ?_
      exact s_Fin.more (L := [some (.ref 130), none, none, some (.int ((135 : Int32) + ((4 : Int32) * x1))), none, some (.int (g.1 132 k4)), none, none]) ⟨Or.inr rfl, Or.inl rfl, Or.inl rfl, Or.inr rfl, Or.inl rfl, Or.inr rfl, Or.inl rfl, Or.inl rfl, trivial⟩ (fM_holds_130_303_s he hK hB hr)
    · rw [if_neg hc] at hB
      refine s_Fin.bt (c := ¬ ((g.1 132 k6) - (50 : Int32)) = (26 : Int32)) (tg := 283) (p2 := 268) (L1 := [some (.ref 130), some (.int x1), some (.int x2), some (.int ((135 : Int32) + ((4 : Int32) * x1))), some (.int (g.1 132 k2)), some (.int (g.1 132 k4)), some (.int ((g.1 132 k6) - (50 : Int32))), none]) (st1 := []) hc rfl ?_
      refine s_Fin.sg 2 (y := (287, [some (.ref 130), some (.int x1), some (.int x2), some (.int ((135 : Int32) + ((4 : Int32) * x1))), some (.int (g.1 132 k2)), some (.int (g.1 132 k4)), some (.int ((g.1 132 k6) - (50 : Int32))), none], [.int (27 : Int32), .int ((g.1 132 k6) - (50 : Int32))], s_hg g)) rfl ?_
      by_cases hc : ((g.1 132 k6) - (50 : Int32)) = (27 : Int32)
      · rw [if_pos hc] at hB
        refine s_Fin.bf (c := ¬ ((g.1 132 k6) - (50 : Int32)) = (27 : Int32)) (tg := 302) (p2 := 287) (L1 := [some (.ref 130), some (.int x1), some (.int x2), some (.int ((135 : Int32) + ((4 : Int32) * x1))), some (.int (g.1 132 k2)), some (.int (g.1 132 k4)), some (.int ((g.1 132 k6) - (50 : Int32))), none]) (st1 := []) (fun h => h hc) rfl ?_
        refine s_Fin.sg 5 (y := (298, [some (.ref 130), some (.int x1), some (.int x2), some (.int ((135 : Int32) + ((4 : Int32) * x1))), some (.int (g.1 132 k2)), some (.int (g.1 132 k4)), some (.int ((g.1 132 k6) - (50 : Int32))), none], [.int ((56 : Int32) + x2), .ref 132], s_hg g)) rfl ?_
        obtain ⟨k26, hk26, hB⟩ := s_bd hB
        refine s_Fin.ix (n := 375) (i := (56 : Int32) + x2) (pc1 := 299) (L1 := [some (.ref 130), some (.int x1), some (.int x2), some (.int ((135 : Int32) + ((4 : Int32) * x1))), some (.int (g.1 132 k2)), some (.int (g.1 132 k4)), some (.int ((g.1 132 k6) - (50 : Int32))), none]) (fun j25 => [.int (g.1 132 j25)]) (fun j25 => s_hg g) hk26 rfl rfl ?_
        refine s_Fin.sg 1 (y := (303, [some (.ref 130), some (.int x1), some (.int x2), some (.int ((135 : Int32) + ((4 : Int32) * x1))), some (.int (g.1 132 k2)), some (.int (g.1 132 k4)), some (.int ((g.1 132 k6) - (50 : Int32))), none], [.int (g.1 132 k26)], s_hg g)) rfl ?_
        exact s_Fin.more (L := [some (.ref 130), none, none, some (.int ((135 : Int32) + ((4 : Int32) * x1))), none, some (.int (g.1 132 k4)), none, none]) ⟨Or.inr rfl, Or.inl rfl, Or.inl rfl, Or.inr rfl, Or.inl rfl, Or.inr rfl, Or.inl rfl, Or.inl rfl, trivial⟩ (fM_holds_130_303_s he hK hB hr)
      · rw [if_neg hc] at hB
        refine s_Fin.bt (c := ¬ ((g.1 132 k6) - (50 : Int32)) = (27 : Int32)) (tg := 302) (p2 := 287) (L1 := [some (.ref 130), some (.int x1), some (.int x2), some (.int ((135 : Int32) + ((4 : Int32) * x1))), some (.int (g.1 132 k2)), some (.int (g.1 132 k4)), some (.int ((g.1 132 k6) - (50 : Int32))), none]) (st1 := []) hc rfl ?_
        refine s_Fin.sg 1 (y := (303, [some (.ref 130), some (.int x1), some (.int x2), some (.int ((135 : Int32) + ((4 : Int32) * x1))), some (.int (g.1 132 k2)), some (.int (g.1 132 k4)), some (.int ((g.1 132 k6) - (50 : Int32))), none], [.int x2], s_hg g)) rfl ?_
        exact s_Fin.more (L := [some (.ref 130), none, none, some (.int ((135 : Int32) + ((4 : Int32) * x1))), none, some (.int (g.1 132 k4)), none, none]) ⟨Or.inr rfl, Or.inl rfl, Or.inl rfl, Or.inr rfl, Or.inl rfl, Or.inr rfl, Or.inl rfl, Or.inl rfl, trivial⟩ (fM_holds_130_303_s he hK hB hr)
noncomputable def fM_holds_130_k : Nat → Int32 → Int32 → s_G → Option (Int32)
  | 0 => fun _ _ _ => none
  | n + 1 => fun x1 x2 g => fM_holds_130 (fM_holds_130_k n) x1 x2 g
theorem fM_holds_130_k_s : ∀ (n : Nat) (x1 : Int32) (x2 : Int32) (g : s_G) (z : Int32), fM_holds_130_k n x1 x2 g = some z → s_Ev (40 + 1 * n) s_m278 [.ref 130, .int x1, .int x2] (s_hg g) (some (.int z)) (s_hg g)
  | 0, _, _, _, _, h => nomatch h
  | n + 1, x1, x2, g, z, h => s_Ev.up (by omega) (fM_holds_130_s (e := 40 + 1 * n) (by omega) (fM_holds_130_k_s n) h)
-- CampAshesModel.said
noncomputable def fM_said_130_22 (x1 : Int32) (x2 : Int32) (x3 : Int32) (g : s_G) : Option ((Int32 × Int32) ⊕ (Int32 × s_G)) :=
  if x3 < (g.1 132 0) then (s_b1 (fM_holds_130_k 64 (g.1 132 134) x3 g) fun v1 => if v1 = 0 then (some (.inl (x2, x3 + (1 : Int32))))
  else if x2 = x1 then (s_in (some (x3, g)))
  else some (.inl (x2 + (1 : Int32), x3 + (1 : Int32))))
  else s_in (if x1 = (-1 : Int32) then (some (x2, g))
  else some ((-1 : Int32), g))
theorem fM_said_130_22_s {x1 : Int32} {x2 : Int32} {x3 : Int32} {g : s_G} {z : (Int32 × Int32) ⊕ (Int32 × s_G)} (hB : fM_said_130_22 x1 x2 x3 g = some z) {v : Option Value} {h' : s_H} (hr : (s_sm (fun (x : Int32 × Int32) (v : Option Value) (h' : s_H) => s_Fin 105 s_m277 (22, [some (.ref 130), some (.int x1), some (.int x.1), some (.int x.2)], [], s_hg g) v h') (fun (z : Int32 × s_G) (v : Option Value) (h' : s_H) => v = some (.int z.1) ∧ h' = s_hg z.2)) z v h') : s_Fin 105 s_m277 (22, [some (.ref 130), some (.int x1), some (.int x2), some (.int x3)], [], s_hg g) v h' := by
  unfold fM_said_130_22 at hB
  refine s_Fin.sg 5 (y := (29, [some (.ref 130), some (.int x1), some (.int x2), some (.int x3)], [.int (g.1 132 0), .int x3], s_hg g)) rfl ?_
  by_cases hc : x3 < (g.1 132 0)
  · rw [if_pos hc] at hB
    refine s_Fin.bf (c := (g.1 132 0) ≤ x3) (tg := 67) (p2 := 29) (L1 := [some (.ref 130), some (.int x1), some (.int x2), some (.int x3)]) (st1 := []) (Int32.not_le.mpr hc) rfl ?_
    refine s_Fin.sg 6 (y := (42, [some (.ref 130), some (.int x1), some (.int x2), some (.int x3)], [.int x3, .int (g.1 132 134), .ref 130], s_hg g)) rfl ?_
    obtain ⟨v1, hp, hB⟩ := s_bd hB
    refine s_Fin.cl (d := 104) (q1 := s_m278) (md := 278) (vs := [.ref 130, .int (g.1 132 134), .int x3]) (rest := []) (h1 := s_hg g) (u := some (.int v1)) (s_Ev.up (by omega) (fM_holds_130_k_s 64 _ _ _ _ hp)) rfl rfl rfl rfl ?_
    by_cases hc : v1 = 0
    · rw [if_pos hc] at hB
      refine s_Fin.bf (c := ¬ v1 = 0) (tg := 51) (p2 := 45) (L1 := [some (.ref 130), some (.int x1), some (.int x2), some (.int x3)]) (st1 := []) (fun h => h hc) rfl ?_
      refine s_Fin.sg 3 (y := (22, [some (.ref 130), some (.int x1), some (.int x2), some (.int (x3 + (1 : Int32)))], [], s_hg g)) rfl ?_
      have hB := Option.some.inj hB
      subst hB
      exact s_Fin.more (L := [some (.ref 130), some (.int x1), some (.int x2), some (.int (x3 + (1 : Int32)))]) ⟨Or.inr rfl, Or.inr rfl, Or.inr rfl, Or.inr rfl, trivial⟩ hr
    · rw [if_neg hc] at hB
      refine s_Fin.bt (c := ¬ v1 = 0) (tg := 51) (p2 := 45) (L1 := [some (.ref 130), some (.int x1), some (.int x2), some (.int x3)]) (st1 := []) hc rfl ?_
      refine s_Fin.sg 2 (y := (53, [some (.ref 130), some (.int x1), some (.int x2), some (.int x3)], [.int x1, .int x2], s_hg g)) rfl ?_
      by_cases hc : x2 = x1
      · rw [if_pos hc] at hB
        refine s_Fin.bf (c := ¬ x2 = x1) (tg := 58) (p2 := 53) (L1 := [some (.ref 130), some (.int x1), some (.int x2), some (.int x3)]) (st1 := []) (fun h => h hc) rfl ?_
        obtain ⟨_, hN, hz⟩ := s_in_of hB
        subst hz
        have hB := hN
        refine s_Fin.sg 1 (y := (57, [some (.ref 130), some (.int x1), some (.int x2), some (.int x3)], [.int x3], s_hg g)) rfl ?_
        have hB := Option.some.inj hB
        subst hB
        obtain ⟨rfl, rfl⟩ := hr
        exact s_Fin.rt rfl rfl
      · rw [if_neg hc] at hB
        refine s_Fin.bt (c := ¬ x2 = x1) (tg := 58) (p2 := 53) (L1 := [some (.ref 130), some (.int x1), some (.int x2), some (.int x3)]) (st1 := []) hc rfl ?_
        refine s_Fin.sg 3 (y := (22, [some (.ref 130), some (.int x1), some (.int (x2 + (1 : Int32))), some (.int (x3 + (1 : Int32)))], [], s_hg g)) rfl ?_
        have hB := Option.some.inj hB
        subst hB
        exact s_Fin.more (L := [some (.ref 130), some (.int x1), some (.int (x2 + (1 : Int32))), some (.int (x3 + (1 : Int32)))]) ⟨Or.inr rfl, Or.inr rfl, Or.inr rfl, Or.inr rfl, trivial⟩ hr
  · rw [if_neg hc] at hB
    refine s_Fin.bt (c := (g.1 132 0) ≤ x3) (tg := 67) (p2 := 29) (L1 := [some (.ref 130), some (.int x1), some (.int x2), some (.int x3)]) (st1 := []) (Int32.not_lt.mp hc) rfl ?_
    obtain ⟨_, hN, hz⟩ := s_in_of hB
    subst hz
    have hB := hN
    refine s_Fin.sg 2 (y := (69, [some (.ref 130), some (.int x1), some (.int x2), some (.int x3)], [.int (-1 : Int32), .int x1], s_hg g)) rfl ?_
    by_cases hc : x1 = (-1 : Int32)
    · rw [if_pos hc] at hB
      refine s_Fin.bf (c := ¬ x1 = (-1 : Int32)) (tg := 76) (p2 := 69) (L1 := [some (.ref 130), some (.int x1), some (.int x2), some (.int x3)]) (st1 := []) (fun h => h hc) rfl ?_
      refine s_Fin.sg 2 (y := (77, [some (.ref 130), some (.int x1), some (.int x2), some (.int x3)], [.int x2], s_hg g)) rfl ?_
      have hB := Option.some.inj hB
      subst hB
      obtain ⟨rfl, rfl⟩ := hr
      exact s_Fin.rt rfl rfl
    · rw [if_neg hc] at hB
      refine s_Fin.bt (c := ¬ x1 = (-1 : Int32)) (tg := 76) (p2 := 69) (L1 := [some (.ref 130), some (.int x1), some (.int x2), some (.int x3)]) (st1 := []) hc rfl ?_
      refine s_Fin.sg 1 (y := (77, [some (.ref 130), some (.int x1), some (.int x2), some (.int x3)], [.int (-1 : Int32)], s_hg g)) rfl ?_
      have hB := Option.some.inj hB
      subst hB
      obtain ⟨rfl, rfl⟩ := hr
      exact s_Fin.rt rfl rfl
noncomputable def fM_said_130 (x1 : Int32) (g : s_G) : Option (Int32 × s_G) :=
  if (g.1 132 133) = 0 then (some ((-1 : Int32), (s_si g 130 0 (0 : Int32))))
  else s_lp (fun x => fM_said_130_22 x1 x.1 x.2 (s_si g 130 0 (0 : Int32))) ((0 : Int32), (0 : Int32))
theorem fM_said_130_s {x1 : Int32} {g : s_G} {z : Int32 × s_G} (hB : fM_said_130 x1 g = some z) : s_Ev 105 s_m277 [.ref 130, .int x1] (s_hg g) (some (.int z.1)) (s_hg z.2) := by
  unfold fM_said_130 at hB
  refine s_Ev.fin ((?_ : ∀ (v : Option Value) (h' : s_H), (fun (z : Int32 × s_G) (v : Option Value) (h' : s_H) => v = some (.int z.1) ∧ h' = s_hg z.2) z v h' → s_Fin 105 s_m277 (0, s_ent [.ref 130, .int x1] (s_m277).2.2.1, [], s_hg g) v h') _ _ ⟨rfl, rfl⟩)
  intro v h' hr
  refine (show s_Fin 105 s_m277 (0, [some (.ref 130), some (.int x1), none, none], [], s_hg g) v h' from ?_)
  refine s_Fin.sg 7 (y := (13, [some (.ref 130), some (.int x1), none, none], [.int (g.1 132 133)], s_hg (s_si g 130 0 (0 : Int32)))) rfl ?_
  by_cases hc : (g.1 132 133) = 0
  · rw [if_pos hc] at hB
    refine s_Fin.bf (c := ¬ (g.1 132 133) = 0) (tg := 18) (p2 := 13) (L1 := [some (.ref 130), some (.int x1), none, none]) (st1 := []) (fun h => h hc) rfl ?_
    refine s_Fin.sg 1 (y := (17, [some (.ref 130), some (.int x1), none, none], [.int (-1 : Int32)], s_hg (s_si g 130 0 (0 : Int32)))) rfl ?_
    have hB := Option.some.inj hB
    subst hB
    obtain ⟨rfl, rfl⟩ := hr
    exact s_Fin.rt rfl rfl
  · rw [if_neg hc] at hB
    refine s_Fin.bt (c := ¬ (g.1 132 133) = 0) (tg := 18) (p2 := 13) (L1 := [some (.ref 130), some (.int x1), none, none]) (st1 := []) hc rfl ?_
    refine s_Fin.sg 4 (y := (22, [some (.ref 130), some (.int x1), some (.int (0 : Int32)), some (.int (0 : Int32))], [], s_hg (s_si g 130 0 (0 : Int32)))) rfl ?_
    exact s_Fin.more (L := [some (.ref 130), some (.int x1), some (.int (0 : Int32)), some (.int (0 : Int32))]) ⟨Or.inr rfl, Or.inr rfl, Or.inr rfl, Or.inr rfl, trivial⟩ (s_lp_s (P := (fun (x : Int32 × Int32) (v : Option Value) (h' : s_H) => s_Fin 105 s_m277 (22, [some (.ref 130), some (.int x1), some (.int x.1), some (.int x.2)], [], s_hg (s_si g 130 0 (0 : Int32))) v h')) (Q := (fun (z : Int32 × s_G) (v : Option Value) (h' : s_H) => v = some (.int z.1) ∧ h' = s_hg z.2)) (fun x z hB v h' hr => fM_said_130_22_s hB hr) hB _ _ hr)
-- CampAshes$Sentence.measure
noncomputable def fS_measure_17 (x1 : Option Nat) (x2 : Int32) (g : s_G) : Option (Int32) :=
  if s_okw x1 = true then (if x1 = some 1025 then (s_b1 (s_ix 7 x2) fun k2 => some (g.1 19 k2))
  else if s_okw x1 = true then (if x1 = some 1026 then (s_b1 (s_ix 7 x2) fun k4 => some (g.1 5 k4))
  else if s_okw x1 = true then (if x1 = some 1027 then (s_b1 (s_ix 7 x2) fun k6 => some (g.1 21 k6))
  else some x2) else none) else none) else none
theorem fS_measure_17_s {x1 : Option Nat} {x2 : Int32} {g : s_G} {z : Int32} (hB : fS_measure_17 x1 x2 g = some z) : s_Ev 0 s_m149 [.ref 17, va_rf x1, .int x2] (s_hg g) (some (.int z)) (s_hg g) := by
  unfold fS_measure_17 at hB
  refine s_Ev.fin ((?_ : ∀ (v : Option Value) (h' : s_H), (fun (z : Int32) (v : Option Value) (h' : s_H) => v = some (.int z) ∧ h' = s_hg g) z v h' → s_Fin 0 s_m149 (0, s_ent [.ref 17, va_rf x1, .int x2] (s_m149).2.2.1, [], s_hg g) v h') _ _ ⟨rfl, rfl⟩)
  intro v h' hr
  rw [show s_ent [.ref 17, va_rf x1, .int x2] (s_m149).2.2.1 = [some (.ref 17), some (va_rf x1), some (.int x2)] from (by cases x1 <;> rfl)]
  refine s_Fin.nx (pc1 := 1) (L1 := [some (.ref 17), some (va_rf x1), some (.int x2)]) (st1 := [va_rf x1]) (h1 := s_hg g) (by generalize x1 = w; cases w <;> exact rfl) rfl ?_
  refine s_Fin.sg 1 (y := (4, [some (.ref 17), some (va_rf x1), some (.int x2)], [.ref 1025, va_rf x1], s_hg g)) rfl ?_
  have hw : s_okw x1 = true := Classical.byContradiction fun h => (by rw [if_neg h] at hB; cases hB)
  rw [if_pos hw] at hB
  by_cases hc : x1 = some 1025
  · rw [if_pos hc] at hB
    refine s_Fin.nx (pc1 := 7) (L1 := [some (.ref 17), some (va_rf x1), some (.int x2)]) (st1 := []) (h1 := s_hg g) ((show _ = s_acN 14 4 [some (.ref 17), some (va_rf x1), some (.int x2)] [] (s_hg g) (.ref 1025) (va_rf x1) from rfl).trans (s_acN_t hw rfl hc)) rfl ?_
    refine s_Fin.sg 3 (y := (12, [some (.ref 17), some (va_rf x1), some (.int x2)], [.int x2, .ref 19], s_hg g)) rfl ?_
    obtain ⟨k2, hk2, hB⟩ := s_bd hB
    refine s_Fin.ix (n := 7) (i := x2) (pc1 := 13) (L1 := [some (.ref 17), some (va_rf x1), some (.int x2)]) (fun j1 => [.int (g.1 19 j1)]) (fun j1 => s_hg g) hk2 rfl rfl ?_
    have hB := Option.some.inj hB
    subst hB
    obtain ⟨rfl, rfl⟩ := hr
    exact s_Fin.rt rfl rfl
  · rw [if_neg hc] at hB
    refine s_Fin.nx (pc1 := 14) (L1 := [some (.ref 17), some (va_rf x1), some (.int x2)]) (st1 := []) (h1 := s_hg g) ((show _ = s_acN 14 4 [some (.ref 17), some (va_rf x1), some (.int x2)] [] (s_hg g) (.ref 1025) (va_rf x1) from rfl).trans (s_acN_f hw rfl hc)) rfl ?_
    refine s_Fin.nx (pc1 := 15) (L1 := [some (.ref 17), some (va_rf x1), some (.int x2)]) (st1 := [va_rf x1]) (h1 := s_hg g) (by generalize x1 = w; cases w <;> exact rfl) rfl ?_
    refine s_Fin.sg 1 (y := (18, [some (.ref 17), some (va_rf x1), some (.int x2)], [.ref 1026, va_rf x1], s_hg g)) rfl ?_
    have hw : s_okw x1 = true := Classical.byContradiction fun h => (by rw [if_neg h] at hB; cases hB)
    rw [if_pos hw] at hB
    by_cases hc : x1 = some 1026
    · rw [if_pos hc] at hB
      refine s_Fin.nx (pc1 := 21) (L1 := [some (.ref 17), some (va_rf x1), some (.int x2)]) (st1 := []) (h1 := s_hg g) ((show _ = s_acN 31 18 [some (.ref 17), some (va_rf x1), some (.int x2)] [] (s_hg g) (.ref 1026) (va_rf x1) from rfl).trans (s_acN_t hw rfl hc)) rfl ?_
      refine s_Fin.sg 4 (y := (29, [some (.ref 17), some (va_rf x1), some (.int x2)], [.int x2, .ref 5], s_hg g)) rfl ?_
      obtain ⟨k4, hk4, hB⟩ := s_bd hB
      refine s_Fin.ix (n := 7) (i := x2) (pc1 := 30) (L1 := [some (.ref 17), some (va_rf x1), some (.int x2)]) (fun j3 => [.int (g.1 5 j3)]) (fun j3 => s_hg g) hk4 rfl rfl ?_
      have hB := Option.some.inj hB
      subst hB
      obtain ⟨rfl, rfl⟩ := hr
      exact s_Fin.rt rfl rfl
    · rw [if_neg hc] at hB
      refine s_Fin.nx (pc1 := 31) (L1 := [some (.ref 17), some (va_rf x1), some (.int x2)]) (st1 := []) (h1 := s_hg g) ((show _ = s_acN 31 18 [some (.ref 17), some (va_rf x1), some (.int x2)] [] (s_hg g) (.ref 1026) (va_rf x1) from rfl).trans (s_acN_f hw rfl hc)) rfl ?_
      refine s_Fin.nx (pc1 := 32) (L1 := [some (.ref 17), some (va_rf x1), some (.int x2)]) (st1 := [va_rf x1]) (h1 := s_hg g) (by generalize x1 = w; cases w <;> exact rfl) rfl ?_
      refine s_Fin.sg 1 (y := (35, [some (.ref 17), some (va_rf x1), some (.int x2)], [.ref 1027, va_rf x1], s_hg g)) rfl ?_
      have hw : s_okw x1 = true := Classical.byContradiction fun h => (by rw [if_neg h] at hB; cases hB)
      rw [if_pos hw] at hB
      by_cases hc : x1 = some 1027
      · rw [if_pos hc] at hB
        refine s_Fin.nx (pc1 := 38) (L1 := [some (.ref 17), some (va_rf x1), some (.int x2)]) (st1 := []) (h1 := s_hg g) ((show _ = s_acN 47 35 [some (.ref 17), some (va_rf x1), some (.int x2)] [] (s_hg g) (.ref 1027) (va_rf x1) from rfl).trans (s_acN_t hw rfl hc)) rfl ?_
        refine s_Fin.sg 3 (y := (43, [some (.ref 17), some (va_rf x1), some (.int x2)], [.int x2, .ref 21], s_hg g)) rfl ?_
        obtain ⟨k6, hk6, hB⟩ := s_bd hB
        refine s_Fin.ix (n := 7) (i := x2) (pc1 := 44) (L1 := [some (.ref 17), some (va_rf x1), some (.int x2)]) (fun j5 => [.int (g.1 21 j5)]) (fun j5 => s_hg g) hk6 rfl rfl ?_
        refine s_Fin.sg 1 (y := (48, [some (.ref 17), some (va_rf x1), some (.int x2)], [.int (g.1 21 k6)], s_hg g)) rfl ?_
        have hB := Option.some.inj hB
        subst hB
        obtain ⟨rfl, rfl⟩ := hr
        exact s_Fin.rt rfl rfl
      · rw [if_neg hc] at hB
        refine s_Fin.nx (pc1 := 47) (L1 := [some (.ref 17), some (va_rf x1), some (.int x2)]) (st1 := []) (h1 := s_hg g) ((show _ = s_acN 47 35 [some (.ref 17), some (va_rf x1), some (.int x2)] [] (s_hg g) (.ref 1027) (va_rf x1) from rfl).trans (s_acN_f hw rfl hc)) rfl ?_
        refine s_Fin.sg 1 (y := (48, [some (.ref 17), some (va_rf x1), some (.int x2)], [.int x2], s_hg g)) rfl ?_
        have hB := Option.some.inj hB
        subst hB
        obtain ⟨rfl, rfl⟩ := hr
        exact s_Fin.rt rfl rfl
