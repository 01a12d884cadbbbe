-- CampAshes$Tape.hasEnded
noncomputable def fQ_hasEnded_1 (g : s_G) : Option (Int32) :=
  if (g.1 1 5) = 0 then (if (g.1 1 3) < (g.1 1 2) then (some (0 : Int32))
  else some (1 : Int32))
  else some (0 : Int32)
theorem fQ_hasEnded_1_s {g : s_G} {z : Int32} (hB : fQ_hasEnded_1 g = some z) : s_Ev 0 s_m26 [.ref 1] (s_hg g) (some (.int z)) (s_hg g) := by
  unfold fQ_hasEnded_1 at hB
  refine s_Ev.fin ((?_ : ∀ (v : Option Value) (h' : s_H), (fun (z : Int32) (v : Option Value) (h' : s_H) => v = some (.int z) ∧ h' = s_hg g) z v h' → s_Fin 0 s_m26 (0, s_ent [.ref 1] (s_m26).2.2.1, [], s_hg g) v h') _ _ ⟨rfl, rfl⟩)
  intro v h' hr
  refine (show s_Fin 0 s_m26 (0, [some (.ref 1)], [], s_hg g) v h' from ?_)
  refine s_Fin.sg 2 (y := (4, [some (.ref 1)], [.int (g.1 1 5)], s_hg g)) rfl ?_
  by_cases hc : (g.1 1 5) = 0
  · rw [if_pos hc] at hB
    refine s_Fin.bf (c := ¬ (g.1 1 5) = 0) (tg := 22) (p2 := 4) (L1 := [some (.ref 1)]) (st1 := []) (fun h => h hc) rfl ?_
    refine s_Fin.sg 4 (y := (15, [some (.ref 1)], [.int (g.1 1 3), .int (g.1 1 2)], s_hg g)) rfl ?_
    by_cases hc : (g.1 1 3) < (g.1 1 2)
    · rw [if_pos hc] at hB
      refine s_Fin.bt (c := (g.1 1 3) < (g.1 1 2)) (tg := 22) (p2 := 15) (L1 := [some (.ref 1)]) (st1 := []) hc rfl ?_
      refine s_Fin.sg 1 (y := (23, [some (.ref 1)], [.int (0 : Int32)], s_hg g)) rfl ?_
      cases hB
      obtain ⟨rfl, rfl⟩ := hr
      exact s_Fin.rt rfl rfl
    · rw [if_neg hc] at hB
      refine s_Fin.bf (c := (g.1 1 3) < (g.1 1 2)) (tg := 22) (p2 := 15) (L1 := [some (.ref 1)]) (st1 := []) hc rfl ?_
      refine s_Fin.sg 2 (y := (23, [some (.ref 1)], [.int (1 : Int32)], s_hg g)) rfl ?_
      cases hB
      obtain ⟨rfl, rfl⟩ := hr
      exact s_Fin.rt rfl rfl
  · rw [if_neg hc] at hB
    refine s_Fin.bt (c := ¬ (g.1 1 5) = 0) (tg := 22) (p2 := 4) (L1 := [some (.ref 1)]) (st1 := []) hc rfl ?_
    refine s_Fin.sg 1 (y := (23, [some (.ref 1)], [.int (0 : Int32)], s_hg g)) rfl ?_
    cases hB
    obtain ⟨rfl, rfl⟩ := hr
    exact s_Fin.rt rfl rfl
-- CampAshes$Tape.isWord
noncomputable def fQ_isWord_1_1000 (g : s_G) : Option (Int32) :=
  if (g.1 1 5) = (2 : Int32) then (if s_okw (g.2.2 1 9) = true then (if (g.2.2 1 9) = some 1000 then (some (1 : Int32))
  else some (0 : Int32)) else none)
  else some (0 : Int32)
theorem fQ_isWord_1_1000_s {g : s_G} {z : Int32} (hB : fQ_isWord_1_1000 g = some z) : s_Ev 0 s_m28 [.ref 1, .ref 1000] (s_hg g) (some (.int z)) (s_hg g) := by
  unfold fQ_isWord_1_1000 at hB
  refine s_Ev.fin ((?_ : ∀ (v : Option Value) (h' : s_H), (fun (z : Int32) (v : Option Value) (h' : s_H) => v = some (.int z) ∧ h' = s_hg g) z v h' → s_Fin 0 s_m28 (0, s_ent [.ref 1, .ref 1000] (s_m28).2.2.1, [], s_hg g) v h') _ _ ⟨rfl, rfl⟩)
  intro v h' hr
  refine (show s_Fin 0 s_m28 (0, [some (.ref 1), some (.ref 1000)], [], s_hg g) v h' from ?_)
  refine s_Fin.sg 3 (y := (5, [some (.ref 1), some (.ref 1000)], [.int (2 : Int32), .int (g.1 1 5)], s_hg g)) rfl ?_
  by_cases hc : (g.1 1 5) = (2 : Int32)
  · rw [if_pos hc] at hB
    refine s_Fin.bf (c := ¬ (g.1 1 5) = (2 : Int32)) (tg := 20) (p2 := 5) (L1 := [some (.ref 1), some (.ref 1000)]) (st1 := []) (fun h => h hc) rfl ?_
    refine s_Fin.sg 3 (y := (13, [some (.ref 1), some (.ref 1000)], [.ref 1000, va_rf (g.2.2 1 9)], s_hg g)) rfl ?_
    have hw : s_okw (g.2.2 1 9) = true := Classical.byContradiction fun h => (by rw [if_neg h] at hB; cases hB)
    rw [if_pos hw] at hB
    by_cases hc : (g.2.2 1 9) = some 1000
    · rw [if_pos hc] at hB
      refine s_Fin.nx (pc1 := 16) (L1 := [some (.ref 1), some (.ref 1000)]) (st1 := []) (h1 := s_hg g) ((show _ = s_acN 20 13 [some (.ref 1), some (.ref 1000)] [] (s_hg g) (.ref 1000) (va_rf (g.2.2 1 9)) from rfl).trans (s_acN_t hw rfl hc)) rfl ?_
      refine s_Fin.sg 2 (y := (21, [some (.ref 1), some (.ref 1000)], [.int (1 : Int32)], s_hg g)) rfl ?_
      cases hB
      obtain ⟨rfl, rfl⟩ := hr
      exact s_Fin.rt rfl rfl
    · rw [if_neg hc] at hB
      refine s_Fin.nx (pc1 := 20) (L1 := [some (.ref 1), some (.ref 1000)]) (st1 := []) (h1 := s_hg g) ((show _ = s_acN 20 13 [some (.ref 1), some (.ref 1000)] [] (s_hg g) (.ref 1000) (va_rf (g.2.2 1 9)) from rfl).trans (s_acN_f hw rfl hc)) rfl ?_
      refine s_Fin.sg 1 (y := (21, [some (.ref 1), some (.ref 1000)], [.int (0 : Int32)], s_hg g)) rfl ?_
      cases hB
      obtain ⟨rfl, rfl⟩ := hr
      exact s_Fin.rt rfl rfl
  · rw [if_neg hc] at hB
    refine s_Fin.bt (c := ¬ (g.1 1 5) = (2 : Int32)) (tg := 20) (p2 := 5) (L1 := [some (.ref 1), some (.ref 1000)]) (st1 := []) hc rfl ?_
    refine s_Fin.sg 1 (y := (21, [some (.ref 1), some (.ref 1000)], [.int (0 : Int32)], s_hg g)) rfl ?_
    cases hB
    obtain ⟨rfl, rfl⟩ := hr
    exact s_Fin.rt rfl rfl
-- CampAshes$Tape.isWord
noncomputable def fQ_isWord_1_1001 (g : s_G) : Option (Int32) :=
  if (g.1 1 5) = (2 : Int32) then (if s_okw (g.2.2 1 9) = true then (if (g.2.2 1 9) = some 1001 then (some (1 : Int32))
  else some (0 : Int32)) else none)
  else some (0 : Int32)
theorem fQ_isWord_1_1001_s {g : s_G} {z : Int32} (hB : fQ_isWord_1_1001 g = some z) : s_Ev 0 s_m28 [.ref 1, .ref 1001] (s_hg g) (some (.int z)) (s_hg g) := by
  unfold fQ_isWord_1_1001 at hB
  refine s_Ev.fin ((?_ : ∀ (v : Option Value) (h' : s_H), (fun (z : Int32) (v : Option Value) (h' : s_H) => v = some (.int z) ∧ h' = s_hg g) z v h' → s_Fin 0 s_m28 (0, s_ent [.ref 1, .ref 1001] (s_m28).2.2.1, [], s_hg g) v h') _ _ ⟨rfl, rfl⟩)
  intro v h' hr
  refine (show s_Fin 0 s_m28 (0, [some (.ref 1), some (.ref 1001)], [], s_hg g) v h' from ?_)
  refine s_Fin.sg 3 (y := (5, [some (.ref 1), some (.ref 1001)], [.int (2 : Int32), .int (g.1 1 5)], s_hg g)) rfl ?_
  by_cases hc : (g.1 1 5) = (2 : Int32)
  · rw [if_pos hc] at hB
    refine s_Fin.bf (c := ¬ (g.1 1 5) = (2 : Int32)) (tg := 20) (p2 := 5) (L1 := [some (.ref 1), some (.ref 1001)]) (st1 := []) (fun h => h hc) rfl ?_
    refine s_Fin.sg 3 (y := (13, [some (.ref 1), some (.ref 1001)], [.ref 1001, va_rf (g.2.2 1 9)], s_hg g)) rfl ?_
    have hw : s_okw (g.2.2 1 9) = true := Classical.byContradiction fun h => (by rw [if_neg h] at hB; cases hB)
    rw [if_pos hw] at hB
    by_cases hc : (g.2.2 1 9) = some 1001
    · rw [if_pos hc] at hB
      refine s_Fin.nx (pc1 := 16) (L1 := [some (.ref 1), some (.ref 1001)]) (st1 := []) (h1 := s_hg g) ((show _ = s_acN 20 13 [some (.ref 1), some (.ref 1001)] [] (s_hg g) (.ref 1001) (va_rf (g.2.2 1 9)) from rfl).trans (s_acN_t hw rfl hc)) rfl ?_
      refine s_Fin.sg 2 (y := (21, [some (.ref 1), some (.ref 1001)], [.int (1 : Int32)], s_hg g)) rfl ?_
      cases hB
      obtain ⟨rfl, rfl⟩ := hr
      exact s_Fin.rt rfl rfl
    · rw [if_neg hc] at hB
      refine s_Fin.nx (pc1 := 20) (L1 := [some (.ref 1), some (.ref 1001)]) (st1 := []) (h1 := s_hg g) ((show _ = s_acN 20 13 [some (.ref 1), some (.ref 1001)] [] (s_hg g) (.ref 1001) (va_rf (g.2.2 1 9)) from rfl).trans (s_acN_f hw rfl hc)) rfl ?_
      refine s_Fin.sg 1 (y := (21, [some (.ref 1), some (.ref 1001)], [.int (0 : Int32)], s_hg g)) rfl ?_
      cases hB
      obtain ⟨rfl, rfl⟩ := hr
      exact s_Fin.rt rfl rfl
  · rw [if_neg hc] at hB
    refine s_Fin.bt (c := ¬ (g.1 1 5) = (2 : Int32)) (tg := 20) (p2 := 5) (L1 := [some (.ref 1), some (.ref 1001)]) (st1 := []) hc rfl ?_
    refine s_Fin.sg 1 (y := (21, [some (.ref 1), some (.ref 1001)], [.int (0 : Int32)], s_hg g)) rfl ?_
    cases hB
    obtain ⟨rfl, rfl⟩ := hr
    exact s_Fin.rt rfl rfl
-- CampAshes$Tape.isWord
noncomputable def fQ_isWord_1_1002 (g : s_G) : Option (Int32) :=
  if (g.1 1 5) = (2 : Int32) then (if s_okw (g.2.2 1 9) = true then (if (g.2.2 1 9) = some 1002 then (some (1 : Int32))
  else some (0 : Int32)) else none)
  else some (0 : Int32)
theorem fQ_isWord_1_1002_s {g : s_G} {z : Int32} (hB : fQ_isWord_1_1002 g = some z) : s_Ev 0 s_m28 [.ref 1, .ref 1002] (s_hg g) (some (.int z)) (s_hg g) := by
  unfold fQ_isWord_1_1002 at hB
  refine s_Ev.fin ((?_ : ∀ (v : Option Value) (h' : s_H), (fun (z : Int32) (v : Option Value) (h' : s_H) => v = some (.int z) ∧ h' = s_hg g) z v h' → s_Fin 0 s_m28 (0, s_ent [.ref 1, .ref 1002] (s_m28).2.2.1, [], s_hg g) v h') _ _ ⟨rfl, rfl⟩)
  intro v h' hr
  refine (show s_Fin 0 s_m28 (0, [some (.ref 1), some (.ref 1002)], [], s_hg g) v h' from ?_)
  refine s_Fin.sg 3 (y := (5, [some (.ref 1), some (.ref 1002)], [.int (2 : Int32), .int (g.1 1 5)], s_hg g)) rfl ?_
  by_cases hc : (g.1 1 5) = (2 : Int32)
  · rw [if_pos hc] at hB
    refine s_Fin.bf (c := ¬ (g.1 1 5) = (2 : Int32)) (tg := 20) (p2 := 5) (L1 := [some (.ref 1), some (.ref 1002)]) (st1 := []) (fun h => h hc) rfl ?_
    refine s_Fin.sg 3 (y := (13, [some (.ref 1), some (.ref 1002)], [.ref 1002, va_rf (g.2.2 1 9)], s_hg g)) rfl ?_
    have hw : s_okw (g.2.2 1 9) = true := Classical.byContradiction fun h => (by rw [if_neg h] at hB; cases hB)
    rw [if_pos hw] at hB
    by_cases hc : (g.2.2 1 9) = some 1002
    · rw [if_pos hc] at hB
      refine s_Fin.nx (pc1 := 16) (L1 := [some (.ref 1), some (.ref 1002)]) (st1 := []) (h1 := s_hg g) ((show _ = s_acN 20 13 [some (.ref 1), some (.ref 1002)] [] (s_hg g) (.ref 1002) (va_rf (g.2.2 1 9)) from rfl).trans (s_acN_t hw rfl hc)) rfl ?_
      refine s_Fin.sg 2 (y := (21, [some (.ref 1), some (.ref 1002)], [.int (1 : Int32)], s_hg g)) rfl ?_
      cases hB
      obtain ⟨rfl, rfl⟩ := hr
      exact s_Fin.rt rfl rfl
    · rw [if_neg hc] at hB
      refine s_Fin.nx (pc1 := 20) (L1 := [some (.ref 1), some (.ref 1002)]) (st1 := []) (h1 := s_hg g) ((show _ = s_acN 20 13 [some (.ref 1), some (.ref 1002)] [] (s_hg g) (.ref 1002) (va_rf (g.2.2 1 9)) from rfl).trans (s_acN_f hw rfl hc)) rfl ?_
      refine s_Fin.sg 1 (y := (21, [some (.ref 1), some (.ref 1002)], [.int (0 : Int32)], s_hg g)) rfl ?_
      cases hB
      obtain ⟨rfl, rfl⟩ := hr
      exact s_Fin.rt rfl rfl
  · rw [if_neg hc] at hB
    refine s_Fin.bt (c := ¬ (g.1 1 5) = (2 : Int32)) (tg := 20) (p2 := 5) (L1 := [some (.ref 1), some (.ref 1002)]) (st1 := []) hc rfl ?_
    refine s_Fin.sg 1 (y := (21, [some (.ref 1), some (.ref 1002)], [.int (0 : Int32)], s_hg g)) rfl ?_
    cases hB
    obtain ⟨rfl, rfl⟩ := hr
    exact s_Fin.rt rfl rfl
-- CampAshes$Tape.isWord
noncomputable def fQ_isWord_1_1003 (g : s_G) : Option (Int32) :=
  if (g.1 1 5) = (2 : Int32) then (if s_okw (g.2.2 1 9) = true then (if (g.2.2 1 9) = some 1003 then (some (1 : Int32))
  else some (0 : Int32)) else none)
  else some (0 : Int32)
theorem fQ_isWord_1_1003_s {g : s_G} {z : Int32} (hB : fQ_isWord_1_1003 g = some z) : s_Ev 0 s_m28 [.ref 1, .ref 1003] (s_hg g) (some (.int z)) (s_hg g) := by
  unfold fQ_isWord_1_1003 at hB
  refine s_Ev.fin ((?_ : ∀ (v : Option Value) (h' : s_H), (fun (z : Int32) (v : Option Value) (h' : s_H) => v = some (.int z) ∧ h' = s_hg g) z v h' → s_Fin 0 s_m28 (0, s_ent [.ref 1, .ref 1003] (s_m28).2.2.1, [], s_hg g) v h') _ _ ⟨rfl, rfl⟩)
  intro v h' hr
  refine (show s_Fin 0 s_m28 (0, [some (.ref 1), some (.ref 1003)], [], s_hg g) v h' from ?_)
  refine s_Fin.sg 3 (y := (5, [some (.ref 1), some (.ref 1003)], [.int (2 : Int32), .int (g.1 1 5)], s_hg g)) rfl ?_
  by_cases hc : (g.1 1 5) = (2 : Int32)
  · rw [if_pos hc] at hB
    refine s_Fin.bf (c := ¬ (g.1 1 5) = (2 : Int32)) (tg := 20) (p2 := 5) (L1 := [some (.ref 1), some (.ref 1003)]) (st1 := []) (fun h => h hc) rfl ?_
    refine s_Fin.sg 3 (y := (13, [some (.ref 1), some (.ref 1003)], [.ref 1003, va_rf (g.2.2 1 9)], s_hg g)) rfl ?_
    have hw : s_okw (g.2.2 1 9) = true := Classical.byContradiction fun h => (by rw [if_neg h] at hB; cases hB)
    rw [if_pos hw] at hB
    by_cases hc : (g.2.2 1 9) = some 1003
    · rw [if_pos hc] at hB
      refine s_Fin.nx (pc1 := 16) (L1 := [some (.ref 1), some (.ref 1003)]) (st1 := []) (h1 := s_hg g) ((show _ = s_acN 20 13 [some (.ref 1), some (.ref 1003)] [] (s_hg g) (.ref 1003) (va_rf (g.2.2 1 9)) from rfl).trans (s_acN_t hw rfl hc)) rfl ?_
      refine s_Fin.sg 2 (y := (21, [some (.ref 1), some (.ref 1003)], [.int (1 : Int32)], s_hg g)) rfl ?_
      cases hB
      obtain ⟨rfl, rfl⟩ := hr
      exact s_Fin.rt rfl rfl
    · rw [if_neg hc] at hB
      refine s_Fin.nx (pc1 := 20) (L1 := [some (.ref 1), some (.ref 1003)]) (st1 := []) (h1 := s_hg g) ((show _ = s_acN 20 13 [some (.ref 1), some (.ref 1003)] [] (s_hg g) (.ref 1003) (va_rf (g.2.2 1 9)) from rfl).trans (s_acN_f hw rfl hc)) rfl ?_
      refine s_Fin.sg 1 (y := (21, [some (.ref 1), some (.ref 1003)], [.int (0 : Int32)], s_hg g)) rfl ?_
      cases hB
      obtain ⟨rfl, rfl⟩ := hr
      exact s_Fin.rt rfl rfl
  · rw [if_neg hc] at hB
    refine s_Fin.bt (c := ¬ (g.1 1 5) = (2 : Int32)) (tg := 20) (p2 := 5) (L1 := [some (.ref 1), some (.ref 1003)]) (st1 := []) hc rfl ?_
    refine s_Fin.sg 1 (y := (21, [some (.ref 1), some (.ref 1003)], [.int (0 : Int32)], s_hg g)) rfl ?_
    cases hB
    obtain ⟨rfl, rfl⟩ := hr
    exact s_Fin.rt rfl rfl
-- CampAshes$Tape.isWord
noncomputable def fQ_isWord_1_1004 (g : s_G) : Option (Int32) :=
  if (g.1 1 5) = (2 : Int32) then (if s_okw (g.2.2 1 9) = true then (if (g.2.2 1 9) = some 1004 then (some (1 : Int32))
  else some (0 : Int32)) else none)
  else some (0 : Int32)
theorem fQ_isWord_1_1004_s {g : s_G} {z : Int32} (hB : fQ_isWord_1_1004 g = some z) : s_Ev 0 s_m28 [.ref 1, .ref 1004] (s_hg g) (some (.int z)) (s_hg g) := by
  unfold fQ_isWord_1_1004 at hB
  refine s_Ev.fin ((?_ : ∀ (v : Option Value) (h' : s_H), (fun (z : Int32) (v : Option Value) (h' : s_H) => v = some (.int z) ∧ h' = s_hg g) z v h' → s_Fin 0 s_m28 (0, s_ent [.ref 1, .ref 1004] (s_m28).2.2.1, [], s_hg g) v h') _ _ ⟨rfl, rfl⟩)
  intro v h' hr
  refine (show s_Fin 0 s_m28 (0, [some (.ref 1), some (.ref 1004)], [], s_hg g) v h' from ?_)
  refine s_Fin.sg 3 (y := (5, [some (.ref 1), some (.ref 1004)], [.int (2 : Int32), .int (g.1 1 5)], s_hg g)) rfl ?_
  by_cases hc : (g.1 1 5) = (2 : Int32)
  · rw [if_pos hc] at hB
    refine s_Fin.bf (c := ¬ (g.1 1 5) = (2 : Int32)) (tg := 20) (p2 := 5) (L1 := [some (.ref 1), some (.ref 1004)]) (st1 := []) (fun h => h hc) rfl ?_
    refine s_Fin.sg 3 (y := (13, [some (.ref 1), some (.ref 1004)], [.ref 1004, va_rf (g.2.2 1 9)], s_hg g)) rfl ?_
    have hw : s_okw (g.2.2 1 9) = true := Classical.byContradiction fun h => (by rw [if_neg h] at hB; cases hB)
    rw [if_pos hw] at hB
    by_cases hc : (g.2.2 1 9) = some 1004
    · rw [if_pos hc] at hB
      refine s_Fin.nx (pc1 := 16) (L1 := [some (.ref 1), some (.ref 1004)]) (st1 := []) (h1 := s_hg g) ((show _ = s_acN 20 13 [some (.ref 1), some (.ref 1004)] [] (s_hg g) (.ref 1004) (va_rf (g.2.2 1 9)) from rfl).trans (s_acN_t hw rfl hc)) rfl ?_
      refine s_Fin.sg 2 (y := (21, [some (.ref 1), some (.ref 1004)], [.int (1 : Int32)], s_hg g)) rfl ?_
      cases hB
      obtain ⟨rfl, rfl⟩ := hr
      exact s_Fin.rt rfl rfl
    · rw [if_neg hc] at hB
      refine s_Fin.nx (pc1 := 20) (L1 := [some (.ref 1), some (.ref 1004)]) (st1 := []) (h1 := s_hg g) ((show _ = s_acN 20 13 [some (.ref 1), some (.ref 1004)] [] (s_hg g) (.ref 1004) (va_rf (g.2.2 1 9)) from rfl).trans (s_acN_f hw rfl hc)) rfl ?_
      refine s_Fin.sg 1 (y := (21, [some (.ref 1), some (.ref 1004)], [.int (0 : Int32)], s_hg g)) rfl ?_
      cases hB
      obtain ⟨rfl, rfl⟩ := hr
      exact s_Fin.rt rfl rfl
  · rw [if_neg hc] at hB
    refine s_Fin.bt (c := ¬ (g.1 1 5) = (2 : Int32)) (tg := 20) (p2 := 5) (L1 := [some (.ref 1), some (.ref 1004)]) (st1 := []) hc rfl ?_
    refine s_Fin.sg 1 (y := (21, [some (.ref 1), some (.ref 1004)], [.int (0 : Int32)], s_hg g)) rfl ?_
    cases hB
    obtain ⟨rfl, rfl⟩ := hr
    exact s_Fin.rt rfl rfl
-- CampAshes$Tape.isWord
noncomputable def fQ_isWord_1_1005 (g : s_G) : Option (Int32) :=
  if (g.1 1 5) = (2 : Int32) then (if s_okw (g.2.2 1 9) = true then (if (g.2.2 1 9) = some 1005 then (some (1 : Int32))
  else some (0 : Int32)) else none)
  else some (0 : Int32)
theorem fQ_isWord_1_1005_s {g : s_G} {z : Int32} (hB : fQ_isWord_1_1005 g = some z) : s_Ev 0 s_m28 [.ref 1, .ref 1005] (s_hg g) (some (.int z)) (s_hg g) := by
  unfold fQ_isWord_1_1005 at hB
  refine s_Ev.fin ((?_ : ∀ (v : Option Value) (h' : s_H), (fun (z : Int32) (v : Option Value) (h' : s_H) => v = some (.int z) ∧ h' = s_hg g) z v h' → s_Fin 0 s_m28 (0, s_ent [.ref 1, .ref 1005] (s_m28).2.2.1, [], s_hg g) v h') _ _ ⟨rfl, rfl⟩)
  intro v h' hr
  refine (show s_Fin 0 s_m28 (0, [some (.ref 1), some (.ref 1005)], [], s_hg g) v h' from ?_)
  refine s_Fin.sg 3 (y := (5, [some (.ref 1), some (.ref 1005)], [.int (2 : Int32), .int (g.1 1 5)], s_hg g)) rfl ?_
  by_cases hc : (g.1 1 5) = (2 : Int32)
  · rw [if_pos hc] at hB
    refine s_Fin.bf (c := ¬ (g.1 1 5) = (2 : Int32)) (tg := 20) (p2 := 5) (L1 := [some (.ref 1), some (.ref 1005)]) (st1 := []) (fun h => h hc) rfl ?_
    refine s_Fin.sg 3 (y := (13, [some (.ref 1), some (.ref 1005)], [.ref 1005, va_rf (g.2.2 1 9)], s_hg g)) rfl ?_
    have hw : s_okw (g.2.2 1 9) = true := Classical.byContradiction fun h => (by rw [if_neg h] at hB; cases hB)
    rw [if_pos hw] at hB
    by_cases hc : (g.2.2 1 9) = some 1005
    · rw [if_pos hc] at hB
      refine s_Fin.nx (pc1 := 16) (L1 := [some (.ref 1), some (.ref 1005)]) (st1 := []) (h1 := s_hg g) ((show _ = s_acN 20 13 [some (.ref 1), some (.ref 1005)] [] (s_hg g) (.ref 1005) (va_rf (g.2.2 1 9)) from rfl).trans (s_acN_t hw rfl hc)) rfl ?_
      refine s_Fin.sg 2 (y := (21, [some (.ref 1), some (.ref 1005)], [.int (1 : Int32)], s_hg g)) rfl ?_
      cases hB
      obtain ⟨rfl, rfl⟩ := hr
      exact s_Fin.rt rfl rfl
    · rw [if_neg hc] at hB
      refine s_Fin.nx (pc1 := 20) (L1 := [some (.ref 1), some (.ref 1005)]) (st1 := []) (h1 := s_hg g) ((show _ = s_acN 20 13 [some (.ref 1), some (.ref 1005)] [] (s_hg g) (.ref 1005) (va_rf (g.2.2 1 9)) from rfl).trans (s_acN_f hw rfl hc)) rfl ?_
      refine s_Fin.sg 1 (y := (21, [some (.ref 1), some (.ref 1005)], [.int (0 : Int32)], s_hg g)) rfl ?_
      cases hB
      obtain ⟨rfl, rfl⟩ := hr
      exact s_Fin.rt rfl rfl
  · rw [if_neg hc] at hB
    refine s_Fin.bt (c := ¬ (g.1 1 5) = (2 : Int32)) (tg := 20) (p2 := 5) (L1 := [some (.ref 1), some (.ref 1005)]) (st1 := []) hc rfl ?_
    refine s_Fin.sg 1 (y := (21, [some (.ref 1), some (.ref 1005)], [.int (0 : Int32)], s_hg g)) rfl ?_
    cases hB
    obtain ⟨rfl, rfl⟩ := hr
    exact s_Fin.rt rfl rfl
-- CampAshes$Tape.isWord
noncomputable def fQ_isWord_1_1006 (g : s_G) : Option (Int32) :=
  if (g.1 1 5) = (2 : Int32) then (if s_okw (g.2.2 1 9) = true then (if (g.2.2 1 9) = some 1006 then (some (1 : Int32))
  else some (0 : Int32)) else none)
  else some (0 : Int32)
theorem fQ_isWord_1_1006_s {g : s_G} {z : Int32} (hB : fQ_isWord_1_1006 g = some z) : s_Ev 0 s_m28 [.ref 1, .ref 1006] (s_hg g) (some (.int z)) (s_hg g) := by
  unfold fQ_isWord_1_1006 at hB
  refine s_Ev.fin ((?_ : ∀ (v : Option Value) (h' : s_H), (fun (z : Int32) (v : Option Value) (h' : s_H) => v = some (.int z) ∧ h' = s_hg g) z v h' → s_Fin 0 s_m28 (0, s_ent [.ref 1, .ref 1006] (s_m28).2.2.1, [], s_hg g) v h') _ _ ⟨rfl, rfl⟩)
  intro v h' hr
  refine (show s_Fin 0 s_m28 (0, [some (.ref 1), some (.ref 1006)], [], s_hg g) v h' from ?_)
  refine s_Fin.sg 3 (y := (5, [some (.ref 1), some (.ref 1006)], [.int (2 : Int32), .int (g.1 1 5)], s_hg g)) rfl ?_
  by_cases hc : (g.1 1 5) = (2 : Int32)
  · rw [if_pos hc] at hB
    refine s_Fin.bf (c := ¬ (g.1 1 5) = (2 : Int32)) (tg := 20) (p2 := 5) (L1 := [some (.ref 1), some (.ref 1006)]) (st1 := []) (fun h => h hc) rfl ?_
    refine s_Fin.sg 3 (y := (13, [some (.ref 1), some (.ref 1006)], [.ref 1006, va_rf (g.2.2 1 9)], s_hg g)) rfl ?_
    have hw : s_okw (g.2.2 1 9) = true := Classical.byContradiction fun h => (by rw [if_neg h] at hB; cases hB)
    rw [if_pos hw] at hB
    by_cases hc : (g.2.2 1 9) = some 1006
    · rw [if_pos hc] at hB
      refine s_Fin.nx (pc1 := 16) (L1 := [some (.ref 1), some (.ref 1006)]) (st1 := []) (h1 := s_hg g) ((show _ = s_acN 20 13 [some (.ref 1), some (.ref 1006)] [] (s_hg g) (.ref 1006) (va_rf (g.2.2 1 9)) from rfl).trans (s_acN_t hw rfl hc)) rfl ?_
      refine s_Fin.sg 2 (y := (21, [some (.ref 1), some (.ref 1006)], [.int (1 : Int32)], s_hg g)) rfl ?_
      cases hB
      obtain ⟨rfl, rfl⟩ := hr
      exact s_Fin.rt rfl rfl
    · rw [if_neg hc] at hB
      refine s_Fin.nx (pc1 := 20) (L1 := [some (.ref 1), some (.ref 1006)]) (st1 := []) (h1 := s_hg g) ((show _ = s_acN 20 13 [some (.ref 1), some (.ref 1006)] [] (s_hg g) (.ref 1006) (va_rf (g.2.2 1 9)) from rfl).trans (s_acN_f hw rfl hc)) rfl ?_
      refine s_Fin.sg 1 (y := (21, [some (.ref 1), some (.ref 1006)], [.int (0 : Int32)], s_hg g)) rfl ?_
      cases hB
      obtain ⟨rfl, rfl⟩ := hr
      exact s_Fin.rt rfl rfl
  · rw [if_neg hc] at hB
    refine s_Fin.bt (c := ¬ (g.1 1 5) = (2 : Int32)) (tg := 20) (p2 := 5) (L1 := [some (.ref 1), some (.ref 1006)]) (st1 := []) hc rfl ?_
    refine s_Fin.sg 1 (y := (21, [some (.ref 1), some (.ref 1006)], [.int (0 : Int32)], s_hg g)) rfl ?_
    cases hB
    obtain ⟨rfl, rfl⟩ := hr
    exact s_Fin.rt rfl rfl
-- CampAshes$Tape.fail
noncomputable def fQ_fail_1 (x1 : Int32) (g : s_G) : Option (Int32 × s_G) :=
  some ((0 : Int32), (s_si (s_si g 1 10 x1) 1 11 (g.1 1 6)))
theorem fQ_fail_1_s {x1 : Int32} {g : s_G} {z : Int32 × s_G} (hB : fQ_fail_1 x1 g = some z) : s_Ev 0 s_m30 [.ref 1, .int x1] (s_hg g) (some (.int z.1)) (s_hg z.2) := by
  unfold fQ_fail_1 at hB
  refine s_Ev.fin ((?_ : ∀ (v : Option Value) (h' : s_H), (fun (z : Int32 × s_G) (v : Option Value) (h' : s_H) => v = some (.int z.1) ∧ h' = s_hg z.2) z v h' → s_Fin 0 s_m30 (0, s_ent [.ref 1, .int x1] (s_m30).2.2.1, [], s_hg g) v h') _ _ ⟨rfl, rfl⟩)
  intro v h' hr
  refine (show s_Fin 0 s_m30 (0, [some (.ref 1), some (.int x1)], [], s_hg g) v h' from ?_)
  refine s_Fin.sg 8 (y := (14, [some (.ref 1), some (.int x1)], [.int (0 : Int32)], s_hg (s_si (s_si g 1 10 x1) 1 11 (g.1 1 6)))) rfl ?_
  cases hB
  obtain ⟨rfl, rfl⟩ := hr
  exact s_Fin.rt rfl rfl
-- CampAshes$Tape.passNumber
noncomputable def fQ_passNumber_1 (x1 : Int32) (x2 : Int32) (g : s_G) : Option (Int32 × s_G) :=
  if (g.1 1 5) = (4 : Int32) then (if (g.1 1 7) < x1 then (s_b2 (fQ_fail_1 (2 : Int32) g) fun v2 g1 => some ((-1 : Int32), g1))
  else if x2 < (g.1 1 7) then (s_b2 (fQ_fail_1 (2 : Int32) g) fun v4 g3 => some ((-1 : Int32), g3))
  else s_b1 (fQ_next_1 g) fun g5 => some (g.1 1 7, g5))
  else s_b2 (fQ_fail_1 (1 : Int32) g) fun v7 g6 => some ((-1 : Int32), g6)
theorem fQ_passNumber_1_s {x1 : Int32} {x2 : Int32} {g : s_G} {z : Int32 × s_G} (hB : fQ_passNumber_1 x1 x2 g = some z) : s_Ev 2 s_m34 [.ref 1, .int x1, .int x2] (s_hg g) (some (.int z.1)) (s_hg z.2) := by
  unfold fQ_passNumber_1 at hB
  refine s_Ev.fin ((?_ : ∀ (v : Option Value) (h' : s_H), (fun (z : Int32 × s_G) (v : Option Value) (h' : s_H) => v = some (.int z.1) ∧ h' = s_hg z.2) z v h' → s_Fin 2 s_m34 (0, s_ent [.ref 1, .int x1, .int x2] (s_m34).2.2.1, [], s_hg g) v h') _ _ ⟨rfl, rfl⟩)
  intro v h' hr
  refine (show s_Fin 2 s_m34 (0, [some (.ref 1), some (.int x1), some (.int x2), none], [], s_hg g) v h' from ?_)
  refine s_Fin.sg 3 (y := (5, [some (.ref 1), some (.int x1), some (.int x2), none], [.int (4 : Int32), .int (g.1 1 5)], s_hg g)) rfl ?_
  by_cases hc : (g.1 1 5) = (4 : Int32)
  · rw [if_pos hc] at hB
    refine s_Fin.bt (c := (g.1 1 5) = (4 : Int32)) (tg := 16) (p2 := 5) (L1 := [some (.ref 1), some (.int x1), some (.int x2), none]) (st1 := []) hc rfl ?_
    refine s_Fin.sg 3 (y := (21, [some (.ref 1), some (.int x1), some (.int x2), none], [.int x1, .int (g.1 1 7)], s_hg g)) rfl ?_
    by_cases hc : (g.1 1 7) < x1
    · rw [if_pos hc] at hB
      refine s_Fin.bt (c := (g.1 1 7) < x1) (tg := 32) (p2 := 21) (L1 := [some (.ref 1), some (.int x1), some (.int x2), none]) (st1 := []) hc rfl ?_
      refine s_Fin.sg 2 (y := (34, [some (.ref 1), some (.int x1), some (.int x2), none], [.int (2 : Int32), .ref 1], s_hg g)) rfl ?_
      obtain ⟨v2, g1, hp, hB⟩ := s_bd2 hB
      refine s_Fin.cl (d := 1) (q1 := s_m30) (md := 30) (vs := [.ref 1, .int (2 : Int32)]) (rest := []) (h1 := s_hg g1) (u := some (.int v2)) (s_Ev.up (by omega) (fQ_fail_1_s hp)) rfl rfl rfl rfl ?_
      refine s_Fin.sg 2 (y := (39, [some (.ref 1), some (.int x1), some (.int x2), none], [.int (-1 : Int32)], s_hg g1)) rfl ?_
      cases hB
      obtain ⟨rfl, rfl⟩ := hr
      exact s_Fin.rt rfl rfl
    · rw [if_neg hc] at hB
      refine s_Fin.bf (c := (g.1 1 7) < x1) (tg := 32) (p2 := 21) (L1 := [some (.ref 1), some (.int x1), some (.int x2), none]) (st1 := []) hc rfl ?_
      refine s_Fin.sg 3 (y := (29, [some (.ref 1), some (.int x1), some (.int x2), none], [.int x2, .int (g.1 1 7)], s_hg g)) rfl ?_
      by_cases hc : x2 < (g.1 1 7)
      · rw [if_pos hc] at hB
        refine s_Fin.bf (c := (g.1 1 7) ≤ x2) (tg := 40) (p2 := 29) (L1 := [some (.ref 1), some (.int x1), some (.int x2), none]) (st1 := []) (Int32.not_le.mpr hc) rfl ?_
        refine s_Fin.sg 2 (y := (34, [some (.ref 1), some (.int x1), some (.int x2), none], [.int (2 : Int32), .ref 1], s_hg g)) rfl ?_
        obtain ⟨v4, g3, hp, hB⟩ := s_bd2 hB
        refine s_Fin.cl (d := 1) (q1 := s_m30) (md := 30) (vs := [.ref 1, .int (2 : Int32)]) (rest := []) (h1 := s_hg g3) (u := some (.int v4)) (s_Ev.up (by omega) (fQ_fail_1_s hp)) rfl rfl rfl rfl ?_
        refine s_Fin.sg 2 (y := (39, [some (.ref 1), some (.int x1), some (.int x2), none], [.int (-1 : Int32)], s_hg g3)) rfl ?_
        cases hB
        obtain ⟨rfl, rfl⟩ := hr
        exact s_Fin.rt rfl rfl
      · rw [if_neg hc] at hB
        refine s_Fin.bt (c := (g.1 1 7) ≤ x2) (tg := 40) (p2 := 29) (L1 := [some (.ref 1), some (.int x1), some (.int x2), none]) (st1 := []) (Int32.not_lt.mp hc) rfl ?_
        refine s_Fin.sg 4 (y := (46, [some (.ref 1), some (.int x1), some (.int x2), some (.int (g.1 1 7))], [.ref 1], s_hg g)) rfl ?_
        obtain ⟨g5, hp, hB⟩ := s_bd hB
        refine s_Fin.cl (d := 1) (q1 := s_m20) (md := 20) (vs := [.ref 1]) (rest := []) (h1 := s_hg g5) (u := none) (s_Ev.up (by omega) (fQ_next_1_s hp)) rfl rfl rfl rfl ?_
        refine s_Fin.sg 1 (y := (50, [some (.ref 1), some (.int x1), some (.int x2), some (.int (g.1 1 7))], [.int (g.1 1 7)], s_hg g5)) rfl ?_
        cases hB
        obtain ⟨rfl, rfl⟩ := hr
        exact s_Fin.rt rfl rfl
  · rw [if_neg hc] at hB
    refine s_Fin.bf (c := (g.1 1 5) = (4 : Int32)) (tg := 16) (p2 := 5) (L1 := [some (.ref 1), some (.int x1), some (.int x2), none]) (st1 := []) hc rfl ?_
    refine s_Fin.sg 2 (y := (10, [some (.ref 1), some (.int x1), some (.int x2), none], [.int (1 : Int32), .ref 1], s_hg g)) rfl ?_
    obtain ⟨v7, g6, hp, hB⟩ := s_bd2 hB
    refine s_Fin.cl (d := 1) (q1 := s_m30) (md := 30) (vs := [.ref 1, .int (1 : Int32)]) (rest := []) (h1 := s_hg g6) (u := some (.int v7)) (s_Ev.up (by omega) (fQ_fail_1_s hp)) rfl rfl rfl rfl ?_
    refine s_Fin.sg 2 (y := (15, [some (.ref 1), some (.int x1), some (.int x2), none], [.int (-1 : Int32)], s_hg g6)) rfl ?_
    cases hB
    obtain ⟨rfl, rfl⟩ := hr
    exact s_Fin.rt rfl rfl
-- CampAshes$Camp.readOnceNumber
noncomputable def fP_readOnceNumber_10_1 (x2 : Int32) (x3 : Int32) (x4 : Int32) (g : s_G) : Option (Int32 × s_G) :=
  if ((g.1 10 13) &&& x2) = 0 then (s_b1 (fQ_next_1 (s_si g 10 13 ((g.1 10 13) ||| x2))) fun g1 => s_b2 (fQ_passNumber_1 x3 x4 g1) fun v3 g2 => some (v3, g2))
  else s_b2 (fQ_fail_1 (3 : Int32) g) fun v5 g4 => some ((-1 : Int32), g4)
theorem fP_readOnceNumber_10_1_s {x2 : Int32} {x3 : Int32} {x4 : Int32} {g : s_G} {z : Int32 × s_G} (hB : fP_readOnceNumber_10_1 x2 x3 x4 g = some z) : s_Ev 3 s_m40 [.ref 10, .ref 1, .int x2, .int x3, .int x4] (s_hg g) (some (.int z.1)) (s_hg z.2) := by
  unfold fP_readOnceNumber_10_1 at hB
  refine s_Ev.fin ((?_ : ∀ (v : Option Value) (h' : s_H), (fun (z : Int32 × s_G) (v : Option Value) (h' : s_H) => v = some (.int z.1) ∧ h' = s_hg z.2) z v h' → s_Fin 3 s_m40 (0, s_ent [.ref 10, .ref 1, .int x2, .int x3, .int x4] (s_m40).2.2.1, [], s_hg g) v h') _ _ ⟨rfl, rfl⟩)
  intro v h' hr
  refine (show s_Fin 3 s_m40 (0, [some (.ref 10), some (.ref 1), some (.int x2), some (.int x3), some (.int x4)], [], s_hg g) v h' from ?_)
  refine s_Fin.sg 4 (y := (6, [some (.ref 10), some (.ref 1), some (.int x2), some (.int x3), some (.int x4)], [.int ((g.1 10 13) &&& x2)], s_hg g)) rfl ?_
  by_cases hc : ((g.1 10 13) &&& x2) = 0
  · rw [if_pos hc] at hB
    refine s_Fin.bt (c := ((g.1 10 13) &&& x2) = 0) (tg := 17) (p2 := 6) (L1 := [some (.ref 10), some (.ref 1), some (.int x2), some (.int x3), some (.int x4)]) (st1 := []) hc rfl ?_
    refine s_Fin.sg 7 (y := (28, [some (.ref 10), some (.ref 1), some (.int x2), some (.int x3), some (.int x4)], [.ref 1], s_hg (s_si g 10 13 ((g.1 10 13) ||| x2)))) rfl ?_
    obtain ⟨g1, hp, hB⟩ := s_bd hB
    refine s_Fin.cl (d := 2) (q1 := s_m20) (md := 20) (vs := [.ref 1]) (rest := []) (h1 := s_hg g1) (u := none) (s_Ev.up (by omega) (fQ_next_1_s hp)) rfl rfl rfl rfl ?_
    refine s_Fin.sg 3 (y := (35, [some (.ref 10), some (.ref 1), some (.int x2), some (.int x3), some (.int x4)], [.int x4, .int x3, .ref 1], s_hg g1)) rfl ?_
    obtain ⟨v3, g2, hp, hB⟩ := s_bd2 hB
    refine s_Fin.cl (d := 2) (q1 := s_m34) (md := 34) (vs := [.ref 1, .int x3, .int x4]) (rest := []) (h1 := s_hg g2) (u := some (.int v3)) (s_Ev.up (by omega) (fQ_passNumber_1_s hp)) rfl rfl rfl rfl ?_
    cases hB
    obtain ⟨rfl, rfl⟩ := hr
    exact s_Fin.rt rfl rfl
  · rw [if_neg hc] at hB
    refine s_Fin.bf (c := ((g.1 10 13) &&& x2) = 0) (tg := 17) (p2 := 6) (L1 := [some (.ref 10), some (.ref 1), some (.int x2), some (.int x3), some (.int x4)]) (st1 := []) hc rfl ?_
    refine s_Fin.sg 2 (y := (11, [some (.ref 10), some (.ref 1), some (.int x2), some (.int x3), some (.int x4)], [.int (3 : Int32), .ref 1], s_hg g)) rfl ?_
    obtain ⟨v5, g4, hp, hB⟩ := s_bd2 hB
    refine s_Fin.cl (d := 2) (q1 := s_m30) (md := 30) (vs := [.ref 1, .int (3 : Int32)]) (rest := []) (h1 := s_hg g4) (u := some (.int v5)) (s_Ev.up (by omega) (fQ_fail_1_s hp)) rfl rfl rfl rfl ?_
    refine s_Fin.sg 2 (y := (16, [some (.ref 10), some (.ref 1), some (.int x2), some (.int x3), some (.int x4)], [.int (-1 : Int32)], s_hg g4)) rfl ?_
    cases hB
    obtain ⟨rfl, rfl⟩ := hr
    exact s_Fin.rt rfl rfl
-- CampAshes$Camp.readOnce
noncomputable def fP_readOnce_10_1 (g : s_G) : Option (Int32 × s_G) :=
  s_b1 (fQ_isWord_1_1003 g) fun v1 => if v1 = 0 then (s_b1 (fQ_isWord_1_1004 g) fun v2 => if v2 = 0 then (s_b1 (fQ_isWord_1_1005 g) fun v3 => if v3 = 0 then (s_b1 (fQ_isWord_1_1006 g) fun v4 => if v4 = 0 then (s_b2 (fQ_fail_1 (1 : Int32) g) fun v6 g5 => if v6 = 0 ∨ v6 = 1 then some (v6, g5)
  else none)
  else s_b2 (fP_readOnceNumber_10_1 (8 : Int32) (2 : Int32) (30 : Int32) g) fun v8 g7 => if v8 = (-1 : Int32) then (some ((0 : Int32), (s_si g7 10 11 v8)))
  else some ((1 : Int32), (s_si g7 10 11 v8)))
  else s_b2 (fP_readOnceNumber_10_1 (4 : Int32) (0 : Int32) (9 : Int32) g) fun v10 g9 => if v10 = (-1 : Int32) then (some ((0 : Int32), (s_si g9 10 10 v10)))
  else some ((1 : Int32), (s_si g9 10 10 v10)))
  else s_b2 (fP_readOnceNumber_10_1 (2 : Int32) (0 : Int32) (20 : Int32) g) fun v12 g11 => if v12 = (-1 : Int32) then (some ((0 : Int32), (s_si g11 10 9 v12)))
  else some ((1 : Int32), (s_si g11 10 9 v12)))
  else s_b2 (fP_readOnceNumber_10_1 (1 : Int32) (0 : Int32) (30 : Int32) g) fun v14 g13 => if v14 = (-1 : Int32) then (some ((0 : Int32), (s_si g13 10 8 v14)))
  else some ((1 : Int32), (s_si g13 10 8 v14))
theorem fP_readOnce_10_1_s {g : s_G} {z : Int32 × s_G} (hB : fP_readOnce_10_1 g = some z) : s_Ev 4 s_m39 [.ref 10, .ref 1] (s_hg g) (some (.int z.1)) (s_hg z.2) := by
  unfold fP_readOnce_10_1 at hB
  refine s_Ev.fin ((?_ : ∀ (v : Option Value) (h' : s_H), (fun (z : Int32 × s_G) (v : Option Value) (h' : s_H) => v = some (.int z.1) ∧ h' = s_hg z.2) z v h' → s_Fin 4 s_m39 (0, s_ent [.ref 10, .ref 1] (s_m39).2.2.1, [], s_hg g) v h') _ _ ⟨rfl, rfl⟩)
  intro v h' hr
  refine (show s_Fin 4 s_m39 (0, [some (.ref 10), some (.ref 1)], [], s_hg g) v h' from ?_)
  refine s_Fin.sg 2 (y := (4, [some (.ref 10), some (.ref 1)], [.ref 1003, .ref 1], s_hg g)) rfl ?_
  obtain ⟨v1, hp, hB⟩ := s_bd hB
  refine s_Fin.cl (d := 3) (q1 := s_m28) (md := 28) (vs := [.ref 1, .ref 1003]) (rest := []) (h1 := s_hg g) (u := some (.int v1)) (s_Ev.up (by omega) (fQ_isWord_1_1003_s hp)) rfl rfl rfl rfl ?_
  by_cases hc : v1 = 0
  · rw [if_pos hc] at hB
    refine s_Fin.bt (c := v1 = 0) (tg := 37) (p2 := 7) (L1 := [some (.ref 10), some (.ref 1)]) (st1 := []) hc rfl ?_
    refine s_Fin.sg 2 (y := (41, [some (.ref 10), some (.ref 1)], [.ref 1004, .ref 1], s_hg g)) rfl ?_
    obtain ⟨v2, hp, hB⟩ := s_bd hB
    refine s_Fin.cl (d := 3) (q1 := s_m28) (md := 28) (vs := [.ref 1, .ref 1004]) (rest := []) (h1 := s_hg g) (u := some (.int v2)) (s_Ev.up (by omega) (fQ_isWord_1_1004_s hp)) rfl rfl rfl rfl ?_
    by_cases hc : v2 = 0
    · rw [if_pos hc] at hB
      refine s_Fin.bt (c := v2 = 0) (tg := 74) (p2 := 44) (L1 := [some (.ref 10), some (.ref 1)]) (st1 := []) hc rfl ?_
      refine s_Fin.sg 2 (y := (78, [some (.ref 10), some (.ref 1)], [.ref 1005, .ref 1], s_hg g)) rfl ?_
      obtain ⟨v3, hp, hB⟩ := s_bd hB
      refine s_Fin.cl (d := 3) (q1 := s_m28) (md := 28) (vs := [.ref 1, .ref 1005]) (rest := []) (h1 := s_hg g) (u := some (.int v3)) (s_Ev.up (by omega) (fQ_isWord_1_1005_s hp)) rfl rfl rfl rfl ?_
      by_cases hc : v3 = 0
      · rw [if_pos hc] at hB
        refine s_Fin.bt (c := v3 = 0) (tg := 111) (p2 := 81) (L1 := [some (.ref 10), some (.ref 1)]) (st1 := []) hc rfl ?_
        refine s_Fin.sg 2 (y := (115, [some (.ref 10), some (.ref 1)], [.ref 1006, .ref 1], s_hg g)) rfl ?_
        obtain ⟨v4, hp, hB⟩ := s_bd hB
        refine s_Fin.cl (d := 3) (q1 := s_m28) (md := 28) (vs := [.ref 1, .ref 1006]) (rest := []) (h1 := s_hg g) (u := some (.int v4)) (s_Ev.up (by omega) (fQ_isWord_1_1006_s hp)) rfl rfl rfl rfl ?_
        by_cases hc : v4 = 0
        · rw [if_pos hc] at hB
          refine s_Fin.bt (c := v4 = 0) (tg := 149) (p2 := 118) (L1 := [some (.ref 10), some (.ref 1)]) (st1 := []) hc rfl ?_
          refine s_Fin.sg 2 (y := (151, [some (.ref 10), some (.ref 1)], [.int (1 : Int32), .ref 1], s_hg g)) rfl ?_
          obtain ⟨v6, g5, hp, hB⟩ := s_bd2 hB
          refine s_Fin.cl (d := 3) (q1 := s_m30) (md := 30) (vs := [.ref 1, .int (1 : Int32)]) (rest := []) (h1 := s_hg g5) (u := some (.int v6)) (s_Ev.up (by omega) (fQ_fail_1_s hp)) rfl rfl rfl rfl ?_
          have hc : v6 = 0 ∨ v6 = 1 := Classical.byContradiction fun h => (by rw [if_neg h] at hB; cases hB)
          rw [if_pos hc] at hB
          cases hB
          obtain ⟨rfl, rfl⟩ := hr
          exact s_Fin.rt (by rcases hc with hc | hc <;> rw [hc] <;> exact rfl) rfl
        · rw [if_neg hc] at hB
          refine s_Fin.bf (c := v4 = 0) (tg := 149) (p2 := 118) (L1 := [some (.ref 10), some (.ref 1)]) (st1 := []) hc rfl ?_
          refine s_Fin.sg 6 (y := (129, [some (.ref 10), some (.ref 1)], [.int (30 : Int32), .int (2 : Int32), .int (8 : Int32), .ref 1, .ref 10, .ref 10], s_hg g)) rfl ?_
          obtain ⟨v8, g7, hp, hB⟩ := s_bd2 hB
          refine s_Fin.cl (d := 3) (q1 := s_m40) (md := 40) (vs := [.ref 10, .ref 1, .int (8 : Int32), .int (2 : Int32), .int (30 : Int32)]) (rest := [.ref 10]) (h1 := s_hg g7) (u := some (.int v8)) (s_Ev.up (by omega) (fP_readOnceNumber_10_1_s hp)) rfl rfl rfl rfl ?_
          refine s_Fin.sg 4 (y := (140, [some (.ref 10), some (.ref 1)], [.int (-1 : Int32), .int v8], s_hg (s_si g7 10 11 v8))) rfl ?_
          by_cases hc : v8 = (-1 : Int32)
          · rw [if_pos hc] at hB
            refine s_Fin.bt (c := v8 = (-1 : Int32)) (tg := 147) (p2 := 140) (L1 := [some (.ref 10), some (.ref 1)]) (st1 := []) hc rfl ?_
            refine s_Fin.sg 1 (y := (148, [some (.ref 10), some (.ref 1)], [.int (0 : Int32)], s_hg (s_si g7 10 11 v8))) rfl ?_
            cases hB
            obtain ⟨rfl, rfl⟩ := hr
            exact s_Fin.rt rfl rfl
          · rw [if_neg hc] at hB
            refine s_Fin.bf (c := v8 = (-1 : Int32)) (tg := 147) (p2 := 140) (L1 := [some (.ref 10), some (.ref 1)]) (st1 := []) hc rfl ?_
            refine s_Fin.sg 2 (y := (148, [some (.ref 10), some (.ref 1)], [.int (1 : Int32)], s_hg (s_si g7 10 11 v8))) rfl ?_
            cases hB
            obtain ⟨rfl, rfl⟩ := hr
            exact s_Fin.rt rfl rfl
      · rw [if_neg hc] at hB
        refine s_Fin.bf (c := v3 = 0) (tg := 111) (p2 := 81) (L1 := [some (.ref 10), some (.ref 1)]) (st1 := []) hc rfl ?_
        refine s_Fin.sg 6 (y := (91, [some (.ref 10), some (.ref 1)], [.int (9 : Int32), .int (0 : Int32), .int (4 : Int32), .ref 1, .ref 10, .ref 10], s_hg g)) rfl ?_
        obtain ⟨v10, g9, hp, hB⟩ := s_bd2 hB
        refine s_Fin.cl (d := 3) (q1 := s_m40) (md := 40) (vs := [.ref 10, .ref 1, .int (4 : Int32), .int (0 : Int32), .int (9 : Int32)]) (rest := [.ref 10]) (h1 := s_hg g9) (u := some (.int v10)) (s_Ev.up (by omega) (fP_readOnceNumber_10_1_s hp)) rfl rfl rfl rfl ?_
        refine s_Fin.sg 4 (y := (102, [some (.ref 10), some (.ref 1)], [.int (-1 : Int32), .int v10], s_hg (s_si g9 10 10 v10))) rfl ?_
        by_cases hc : v10 = (-1 : Int32)
        · rw [if_pos hc] at hB
          refine s_Fin.bt (c := v10 = (-1 : Int32)) (tg := 109) (p2 := 102) (L1 := [some (.ref 10), some (.ref 1)]) (st1 := []) hc rfl ?_
          refine s_Fin.sg 1 (y := (110, [some (.ref 10), some (.ref 1)], [.int (0 : Int32)], s_hg (s_si g9 10 10 v10))) rfl ?_
          cases hB
          obtain ⟨rfl, rfl⟩ := hr
          exact s_Fin.rt rfl rfl
        · rw [if_neg hc] at hB
          refine s_Fin.bf (c := v10 = (-1 : Int32)) (tg := 109) (p2 := 102) (L1 := [some (.ref 10), some (.ref 1)]) (st1 := []) hc rfl ?_
          refine s_Fin.sg 2 (y := (110, [some (.ref 10), some (.ref 1)], [.int (1 : Int32)], s_hg (s_si g9 10 10 v10))) rfl ?_
          cases hB
          obtain ⟨rfl, rfl⟩ := hr
          exact s_Fin.rt rfl rfl
    · rw [if_neg hc] at hB
      refine s_Fin.bf (c := v2 = 0) (tg := 74) (p2 := 44) (L1 := [some (.ref 10), some (.ref 1)]) (st1 := []) hc rfl ?_
      refine s_Fin.sg 6 (y := (54, [some (.ref 10), some (.ref 1)], [.int (20 : Int32), .int (0 : Int32), .int (2 : Int32), .ref 1, .ref 10, .ref 10], s_hg g)) rfl ?_
      obtain ⟨v12, g11, hp, hB⟩ := s_bd2 hB
      refine s_Fin.cl (d := 3) (q1 := s_m40) (md := 40) (vs := [.ref 10, .ref 1, .int (2 : Int32), .int (0 : Int32), .int (20 : Int32)]) (rest := [.ref 10]) (h1 := s_hg g11) (u := some (.int v12)) (s_Ev.up (by omega) (fP_readOnceNumber_10_1_s hp)) rfl rfl rfl rfl ?_
      refine s_Fin.sg 4 (y := (65, [some (.ref 10), some (.ref 1)], [.int (-1 : Int32), .int v12], s_hg (s_si g11 10 9 v12))) rfl ?_
      by_cases hc : v12 = (-1 : Int32)
      · rw [if_pos hc] at hB
        refine s_Fin.bt (c := v12 = (-1 : Int32)) (tg := 72) (p2 := 65) (L1 := [some (.ref 10), some (.ref 1)]) (st1 := []) hc rfl ?_
        refine s_Fin.sg 1 (y := (73, [some (.ref 10), some (.ref 1)], [.int (0 : Int32)], s_hg (s_si g11 10 9 v12))) rfl ?_
        cases hB
        obtain ⟨rfl, rfl⟩ := hr
        exact s_Fin.rt rfl rfl
      · rw [if_neg hc] at hB
        refine s_Fin.bf (c := v12 = (-1 : Int32)) (tg := 72) (p2 := 65) (L1 := [some (.ref 10), some (.ref 1)]) (st1 := []) hc rfl ?_
        refine s_Fin.sg 2 (y := (73, [some (.ref 10), some (.ref 1)], [.int (1 : Int32)], s_hg (s_si g11 10 9 v12))) rfl ?_
        cases hB
        obtain ⟨rfl, rfl⟩ := hr
        exact s_Fin.rt rfl rfl
  · rw [if_neg hc] at hB
    refine s_Fin.bf (c := v1 = 0) (tg := 37) (p2 := 7) (L1 := [some (.ref 10), some (.ref 1)]) (st1 := []) hc rfl ?_
    refine s_Fin.sg 6 (y := (17, [some (.ref 10), some (.ref 1)], [.int (30 : Int32), .int (0 : Int32), .int (1 : Int32), .ref 1, .ref 10, .ref 10], s_hg g)) rfl ?_
    obtain ⟨v14, g13, hp, hB⟩ := s_bd2 hB
    refine s_Fin.cl (d := 3) (q1 := s_m40) (md := 40) (vs := [.ref 10, .ref 1, .int (1 : Int32), .int (0 : Int32), .int (30 : Int32)]) (rest := [.ref 10]) (h1 := s_hg g13) (u := some (.int v14)) (s_Ev.up (by omega) (fP_readOnceNumber_10_1_s hp)) rfl rfl rfl rfl ?_
    refine s_Fin.sg 4 (y := (28, [some (.ref 10), some (.ref 1)], [.int (-1 : Int32), .int v14], s_hg (s_si g13 10 8 v14))) rfl ?_
    by_cases hc : v14 = (-1 : Int32)
    · rw [if_pos hc] at hB
      refine s_Fin.bt (c := v14 = (-1 : Int32)) (tg := 35) (p2 := 28) (L1 := [some (.ref 10), some (.ref 1)]) (st1 := []) hc rfl ?_
      refine s_Fin.sg 1 (y := (36, [some (.ref 10), some (.ref 1)], [.int (0 : Int32)], s_hg (s_si g13 10 8 v14))) rfl ?_
      cases hB
      obtain ⟨rfl, rfl⟩ := hr
      exact s_Fin.rt rfl rfl
    · rw [if_neg hc] at hB
      refine s_Fin.bf (c := v14 = (-1 : Int32)) (tg := 35) (p2 := 28) (L1 := [some (.ref 10), some (.ref 1)]) (st1 := []) hc rfl ?_
      refine s_Fin.sg 2 (y := (36, [some (.ref 10), some (.ref 1)], [.int (1 : Int32)], s_hg (s_si g13 10 8 v14))) rfl ?_
      cases hB
      obtain ⟨rfl, rfl⟩ := hr
      exact s_Fin.rt rfl rfl
-- CampAshes$Camp.isKind
noncomputable def fP_isKind_1 (g : s_G) : Option (Int32 × s_G) :=
  if (g.2.2 1 9) = none then (s_b2 (fQ_fail_1 (1 : Int32) g) fun v2 g1 => if v2 = 0 ∨ v2 = 1 then some (v2, g1)
  else none)
  else s_b1 (g.2.2 1 9) fun a3 => s_b1 (s_wkd a3) fun v4 => if v4 = (-1 : Int32) then (s_b2 (fQ_fail_1 (1 : Int32) g) fun v6 g5 => if v6 = 0 ∨ v6 = 1 then some (v6, g5)
  else none)
  else some ((1 : Int32), g)
theorem fP_isKind_1_s {g : s_G} {z : Int32 × s_G} (hB : fP_isKind_1 g = some z) : s_Ev 1 s_m37 [.ref 1] (s_hg g) (some (.int z.1)) (s_hg z.2) := by
  unfold fP_isKind_1 at hB
  refine s_Ev.fin ((?_ : ∀ (v : Option Value) (h' : s_H), (fun (z : Int32 × s_G) (v : Option Value) (h' : s_H) => v = some (.int z.1) ∧ h' = s_hg z.2) z v h' → s_Fin 1 s_m37 (0, s_ent [.ref 1] (s_m37).2.2.1, [], s_hg g) v h') _ _ ⟨rfl, rfl⟩)
  intro v h' hr
  refine (show s_Fin 1 s_m37 (0, [some (.ref 1)], [], s_hg g) v h' from ?_)
  refine s_Fin.sg 2 (y := (4, [some (.ref 1)], [va_rf (g.2.2 1 9)], s_hg g)) rfl ?_
  by_cases hc : (g.2.2 1 9) = none
  · rw [if_pos hc] at hB
    refine s_Fin.nx (pc1 := 18) (L1 := [some (.ref 1)]) (st1 := []) (h1 := s_hg g) (by rw [hc]; exact rfl) rfl ?_
    refine s_Fin.sg 2 (y := (20, [some (.ref 1)], [.int (1 : Int32), .ref 1], s_hg g)) rfl ?_
    obtain ⟨v2, g1, hp, hB⟩ := s_bd2 hB
    refine s_Fin.cl (d := 0) (q1 := s_m30) (md := 30) (vs := [.ref 1, .int (1 : Int32)]) (rest := []) (h1 := s_hg g1) (u := some (.int v2)) (s_Ev.up (by omega) (fQ_fail_1_s hp)) rfl rfl rfl rfl ?_
    have hc : v2 = 0 ∨ v2 = 1 := Classical.byContradiction fun h => (by rw [if_neg h] at hB; cases hB)
    rw [if_pos hc] at hB
    cases hB
    obtain ⟨rfl, rfl⟩ := hr
    exact s_Fin.rt (by rcases hc with hc | hc <;> rw [hc] <;> exact rfl) rfl
  · rw [if_neg hc] at hB
    refine s_Fin.nx (pc1 := 7) (L1 := [some (.ref 1)]) (st1 := []) (h1 := s_hg g) (by generalize (g.2.2 1 9) = w at hc ⊢; cases w with
      | none => exact absurd rfl hc
      | some a => exact rfl) rfl ?_
    refine s_Fin.sg 2 (y := (11, [some (.ref 1)], [va_rf (g.2.2 1 9)], s_hg g)) rfl ?_
    obtain ⟨a3, ha, hB⟩ := s_bd hB
    obtain ⟨v4, hu, hB⟩ := s_bd hB
    refine s_Fin.nx (pc1 := 14) (L1 := [some (.ref 1)]) (st1 := [.int v4]) (h1 := s_hg g) (by rw [ha]; exact (show _ = s_gfw 1 14 [some (.ref 1)] [] (s_hg g) a3 from rfl).trans (s_wkd_of hu)) rfl ?_
    refine s_Fin.sg 1 (y := (15, [some (.ref 1)], [.int (-1 : Int32), .int v4], s_hg g)) rfl ?_
    by_cases hc : v4 = (-1 : Int32)
    · rw [if_pos hc] at hB
      refine s_Fin.bf (c := ¬ v4 = (-1 : Int32)) (tg := 24) (p2 := 15) (L1 := [some (.ref 1)]) (st1 := []) (fun h => h hc) rfl ?_
      refine s_Fin.sg 2 (y := (20, [some (.ref 1)], [.int (1 : Int32), .ref 1], s_hg g)) rfl ?_
      obtain ⟨v6, g5, hp, hB⟩ := s_bd2 hB
      refine s_Fin.cl (d := 0) (q1 := s_m30) (md := 30) (vs := [.ref 1, .int (1 : Int32)]) (rest := []) (h1 := s_hg g5) (u := some (.int v6)) (s_Ev.up (by omega) (fQ_fail_1_s hp)) rfl rfl rfl rfl ?_
      have hc : v6 = 0 ∨ v6 = 1 := Classical.byContradiction fun h => (by rw [if_neg h] at hB; cases hB)
      rw [if_pos hc] at hB
      cases hB
      obtain ⟨rfl, rfl⟩ := hr
      exact s_Fin.rt (by rcases hc with hc | hc <;> rw [hc] <;> exact rfl) rfl
    · rw [if_neg hc] at hB
      refine s_Fin.bt (c := ¬ v4 = (-1 : Int32)) (tg := 24) (p2 := 15) (L1 := [some (.ref 1)]) (st1 := []) hc rfl ?_
      refine s_Fin.sg 1 (y := (25, [some (.ref 1)], [.int (1 : Int32)], s_hg g)) rfl ?_
      cases hB
      obtain ⟨rfl, rfl⟩ := hr
      exact s_Fin.rt rfl rfl
-- CampAshes$Camp.readTakes
noncomputable def fP_readTakes_10_1 (g : s_G) : Option (Int32 × s_G) :=
  s_b1 (fQ_next_1 g) fun g1 => s_b2 (fP_isKind_1 g1) fun v3 g2 => if v3 = 0 then (some ((0 : Int32), g2))
  else s_b1 (g2.2.2 1 9) fun a4 => s_b1 (s_wkd a4) fun v5 => if (((g2.1 10 12) >>> (v5 &&& 31)) &&& (1 : Int32)) = (1 : Int32) then (s_b2 (fQ_fail_1 (3 : Int32) g2) fun v7 g6 => if v7 = 0 ∨ v7 = 1 then some (v7, g6)
  else none)
  else s_b1 (fQ_next_1 g2) fun g8 => s_b2 (fQ_passNumber_1 (0 : Int32) (9 : Int32) g8) fun v10 g9 => if v10 = (-1 : Int32) then (some ((0 : Int32), g9))
  else s_b1 (s_ix 4 v5) fun k12 => some ((1 : Int32), (s_si (s_si g9 16 k12 v10) 10 12 ((g9.1 10 12) ||| ((1 : Int32) <<< (v5 &&& 31)))))
theorem fP_readTakes_10_1_s {g : s_G} {z : Int32 × s_G} (hB : fP_readTakes_10_1 g = some z) : s_Ev 3 s_m38 [.ref 10, .ref 1] (s_hg g) (some (.int z.1)) (s_hg z.2) := by
  unfold fP_readTakes_10_1 at hB
  refine s_Ev.fin ((?_ : ∀ (v : Option Value) (h' : s_H), (fun (z : Int32 × s_G) (v : Option Value) (h' : s_H) => v = some (.int z.1) ∧ h' = s_hg z.2) z v h' → s_Fin 3 s_m38 (0, s_ent [.ref 10, .ref 1] (s_m38).2.2.1, [], s_hg g) v h') _ _ ⟨rfl, rfl⟩)
  intro v h' hr
  refine (show s_Fin 3 s_m38 (0, [some (.ref 10), some (.ref 1), none, none], [], s_hg g) v h' from ?_)
  refine s_Fin.sg 1 (y := (1, [some (.ref 10), some (.ref 1), none, none], [.ref 1], s_hg g)) rfl ?_
  obtain ⟨g1, hp, hB⟩ := s_bd hB
  refine s_Fin.cl (d := 2) (q1 := s_m20) (md := 20) (vs := [.ref 1]) (rest := []) (h1 := s_hg g1) (u := none) (s_Ev.up (by omega) (fQ_next_1_s hp)) rfl rfl rfl rfl ?_
  refine s_Fin.sg 1 (y := (5, [some (.ref 10), some (.ref 1), none, none], [.ref 1], s_hg g1)) rfl ?_
  obtain ⟨v3, g2, hp, hB⟩ := s_bd2 hB
  refine s_Fin.cl (d := 2) (q1 := s_m37) (md := 37) (vs := [.ref 1]) (rest := []) (h1 := s_hg g2) (u := some (.int v3)) (s_Ev.up (by omega) (fP_isKind_1_s hp)) rfl rfl rfl rfl ?_
  by_cases hc : v3 = 0
  · rw [if_pos hc] at hB
    refine s_Fin.bf (c := ¬ v3 = 0) (tg := 13) (p2 := 8) (L1 := [some (.ref 10), some (.ref 1), none, none]) (st1 := []) (fun h => h hc) rfl ?_
    refine s_Fin.sg 1 (y := (12, [some (.ref 10), some (.ref 1), none, none], [.int (0 : Int32)], s_hg g2)) rfl ?_
    cases hB
    obtain ⟨rfl, rfl⟩ := hr
    exact s_Fin.rt rfl rfl
  · rw [if_neg hc] at hB
    refine s_Fin.bt (c := ¬ v3 = 0) (tg := 13) (p2 := 8) (L1 := [some (.ref 10), some (.ref 1), none, none]) (st1 := []) hc rfl ?_
    refine s_Fin.sg 2 (y := (17, [some (.ref 10), some (.ref 1), none, none], [va_rf (g2.2.2 1 9)], s_hg g2)) rfl ?_
    obtain ⟨a4, ha, hB⟩ := s_bd hB
    obtain ⟨v5, hu, hB⟩ := s_bd hB
    refine s_Fin.nx (pc1 := 20) (L1 := [some (.ref 10), some (.ref 1), none, none]) (st1 := [.int v5]) (h1 := s_hg g2) (by rw [ha]; exact (show _ = s_gfw 1 20 [some (.ref 10), some (.ref 1), none, none] [] (s_hg g2) a4 from rfl).trans (s_wkd_of hu)) rfl ?_
    refine s_Fin.sg 8 (y := (30, [some (.ref 10), some (.ref 1), some (.int v5), none], [.int (1 : Int32), .int (((g2.1 10 12) >>> (v5 &&& 31)) &&& (1 : Int32))], s_hg g2)) rfl ?_
    by_cases hc : (((g2.1 10 12) >>> (v5 &&& 31)) &&& (1 : Int32)) = (1 : Int32)
    · rw [if_pos hc] at hB
      refine s_Fin.bf (c := ¬ (((g2.1 10 12) >>> (v5 &&& 31)) &&& (1 : Int32)) = (1 : Int32)) (tg := 39) (p2 := 30) (L1 := [some (.ref 10), some (.ref 1), some (.int v5), none]) (st1 := []) (fun h => h hc) rfl ?_
      refine s_Fin.sg 2 (y := (35, [some (.ref 10), some (.ref 1), some (.int v5), none], [.int (3 : Int32), .ref 1], s_hg g2)) rfl ?_
      obtain ⟨v7, g6, hp, hB⟩ := s_bd2 hB
      refine s_Fin.cl (d := 2) (q1 := s_m30) (md := 30) (vs := [.ref 1, .int (3 : Int32)]) (rest := []) (h1 := s_hg g6) (u := some (.int v7)) (s_Ev.up (by omega) (fQ_fail_1_s hp)) rfl rfl rfl rfl ?_
      have hc : v7 = 0 ∨ v7 = 1 := Classical.byContradiction fun h => (by rw [if_neg h] at hB; cases hB)
      rw [if_pos hc] at hB
      cases hB
      obtain ⟨rfl, rfl⟩ := hr
      exact s_Fin.rt (by rcases hc with hc | hc <;> rw [hc] <;> exact rfl) rfl
    · rw [if_neg hc] at hB
      refine s_Fin.bt (c := ¬ (((g2.1 10 12) >>> (v5 &&& 31)) &&& (1 : Int32)) = (1 : Int32)) (tg := 39) (p2 := 30) (L1 := [some (.ref 10), some (.ref 1), some (.int v5), none]) (st1 := []) hc rfl ?_
      refine s_Fin.sg 1 (y := (40, [some (.ref 10), some (.ref 1), some (.int v5), none], [.ref 1], s_hg g2)) rfl ?_
      obtain ⟨g8, hp, hB⟩ := s_bd hB
      refine s_Fin.cl (d := 2) (q1 := s_m20) (md := 20) (vs := [.ref 1]) (rest := []) (h1 := s_hg g8) (u := none) (s_Ev.up (by omega) (fQ_next_1_s hp)) rfl rfl rfl rfl ?_
      refine s_Fin.sg 3 (y := (47, [some (.ref 10), some (.ref 1), some (.int v5), none], [.int (9 : Int32), .int (0 : Int32), .ref 1], s_hg g8)) rfl ?_
      obtain ⟨v10, g9, hp, hB⟩ := s_bd2 hB
      refine s_Fin.cl (d := 2) (q1 := s_m34) (md := 34) (vs := [.ref 1, .int (0 : Int32), .int (9 : Int32)]) (rest := []) (h1 := s_hg g9) (u := some (.int v10)) (s_Ev.up (by omega) (fQ_passNumber_1_s hp)) rfl rfl rfl rfl ?_
      refine s_Fin.sg 3 (y := (53, [some (.ref 10), some (.ref 1), some (.int v5), some (.int v10)], [.int (-1 : Int32), .int v10], s_hg g9)) rfl ?_
      by_cases hc : v10 = (-1 : Int32)
      · rw [if_pos hc] at hB
        refine s_Fin.bf (c := ¬ v10 = (-1 : Int32)) (tg := 58) (p2 := 53) (L1 := [some (.ref 10), some (.ref 1), some (.int v5), some (.int v10)]) (st1 := []) (fun h => h hc) rfl ?_
        refine s_Fin.sg 1 (y := (57, [some (.ref 10), some (.ref 1), some (.int v5), some (.int v10)], [.int (0 : Int32)], s_hg g9)) rfl ?_
        cases hB
        obtain ⟨rfl, rfl⟩ := hr
        exact s_Fin.rt rfl rfl
      · rw [if_neg hc] at hB
        refine s_Fin.bt (c := ¬ v10 = (-1 : Int32)) (tg := 58) (p2 := 53) (L1 := [some (.ref 10), some (.ref 1), some (.int v5), some (.int v10)]) (st1 := []) hc rfl ?_
        refine s_Fin.sg 4 (y := (64, [some (.ref 10), some (.ref 1), some (.int v5), some (.int v10)], [.int v10, .int v5, .ref 16], s_hg g9)) rfl ?_
        obtain ⟨k12, hk12, hB⟩ := s_bd hB
        refine s_Fin.ix (n := 4) (i := v5) (pc1 := 65) (L1 := [some (.ref 10), some (.ref 1), some (.int v5), some (.int v10)]) (fun j11 => []) (fun j11 => s_hg (s_si g9 16 j11 v10)) hk12 rfl rfl ?_
        refine s_Fin.sg 9 (y := (78, [some (.ref 10), some (.ref 1), some (.int v5), some (.int v10)], [.int (1 : Int32)], s_hg (s_si (s_si g9 16 k12 v10) 10 12 ((g9.1 10 12) ||| ((1 : Int32) <<< (v5 &&& 31)))))) rfl ?_
        cases hB
        obtain ⟨rfl, rfl⟩ := hr
        exact s_Fin.rt rfl rfl
-- CampAshes$Camp.boyNamed
noncomputable def fP_boyNamed_10_2 (x1 : Int64) (x3 : Int32) (g : s_G) : Option ((Int32) ⊕ (Int32)) :=
  if x3 < (g.1 10 0) then (s_b1 (s_ix 17 x3) fun k2 => if (lg_cmp (g.2.1 11 k2) x1) = 0 then (s_in (some x3))
  else some (.inl (x3 + (1 : Int32))))
  else s_in (some (-1 : Int32))
theorem fP_boyNamed_10_2_s {x1 : Int64} {x3 : Int32} {g : s_G} {z : (Int32) ⊕ (Int32)} (hB : fP_boyNamed_10_2 x1 x3 g = some z) {v : Option Value} {h' : s_H} (hr : (s_sm (fun (x : Int32) (v : Option Value) (h' : s_H) => s_Fin 0 s_m32 (2, [some (.ref 10), some (.long x1), none, some (.int x)], [], s_hg g) v h') (fun (z : Int32) (v : Option Value) (h' : s_H) => v = some (.int z) ∧ h' = s_hg g)) z v h') : s_Fin 0 s_m32 (2, [some (.ref 10), some (.long x1), none, some (.int x3)], [], s_hg g) v h' := by
  unfold fP_boyNamed_10_2 at hB
  refine s_Fin.sg 3 (y := (7, [some (.ref 10), some (.long x1), none, some (.int x3)], [.int (g.1 10 0), .int x3], s_hg g)) rfl ?_
  by_cases hc : x3 < (g.1 10 0)
  · rw [if_pos hc] at hB
    refine s_Fin.bf (c := (g.1 10 0) ≤ x3) (tg := 29) (p2 := 7) (L1 := [some (.ref 10), some (.long x1), none, some (.int x3)]) (st1 := []) (Int32.not_le.mpr hc) rfl ?_
    refine s_Fin.sg 3 (y := (15, [some (.ref 10), some (.long x1), none, some (.int x3)], [.int x3, .ref 11], s_hg g)) rfl ?_
    obtain ⟨k2, hk2, hB⟩ := s_bd hB
    refine s_Fin.ix (n := 17) (i := x3) (pc1 := 16) (L1 := [some (.ref 10), some (.long x1), none, some (.int x3)]) (fun j1 => [.long (g.2.1 11 j1)]) (fun j1 => s_hg g) hk2 rfl rfl ?_
    refine s_Fin.sg 2 (y := (18, [some (.ref 10), some (.long x1), none, some (.int x3)], [.int (lg_cmp (g.2.1 11 k2) x1)], s_hg g)) rfl ?_
    by_cases hc : (lg_cmp (g.2.1 11 k2) x1) = 0
    · rw [if_pos hc] at hB
      refine s_Fin.bf (c := ¬ (lg_cmp (g.2.1 11 k2) x1) = 0) (tg := 23) (p2 := 18) (L1 := [some (.ref 10), some (.long x1), none, some (.int x3)]) (st1 := []) (fun h => h hc) rfl ?_
      obtain ⟨z, hB, rfl⟩ := s_in_of hB
      refine s_Fin.sg 1 (y := (22, [some (.ref 10), some (.long x1), none, some (.int x3)], [.int x3], s_hg g)) rfl ?_
      cases hB
      obtain ⟨rfl, rfl⟩ := hr
      exact s_Fin.rt rfl rfl
    · rw [if_neg hc] at hB
      refine s_Fin.bt (c := ¬ (lg_cmp (g.2.1 11 k2) x1) = 0) (tg := 23) (p2 := 18) (L1 := [some (.ref 10), some (.long x1), none, some (.int x3)]) (st1 := []) hc rfl ?_
      refine s_Fin.sg 2 (y := (2, [some (.ref 10), some (.long x1), none, some (.int (x3 + (1 : Int32)))], [], s_hg g)) rfl ?_
      cases hB
      exact s_Fin.more (L := [some (.ref 10), some (.long x1), none, some (.int (x3 + (1 : Int32)))]) ⟨Or.inr rfl, Or.inr rfl, Or.inl rfl, Or.inr rfl, trivial⟩ hr
  · rw [if_neg hc] at hB
    refine s_Fin.bt (c := (g.1 10 0) ≤ x3) (tg := 29) (p2 := 7) (L1 := [some (.ref 10), some (.long x1), none, some (.int x3)]) (st1 := []) (Int32.not_lt.mp hc) rfl ?_
    obtain ⟨z, hB, rfl⟩ := s_in_of hB
    refine s_Fin.sg 1 (y := (30, [some (.ref 10), some (.long x1), none, some (.int x3)], [.int (-1 : Int32)], s_hg g)) rfl ?_
    cases hB
    obtain ⟨rfl, rfl⟩ := hr
    exact s_Fin.rt rfl rfl
noncomputable def fP_boyNamed_10 (x1 : Int64) (g : s_G) : Option (Int32) :=
  s_lp (fun x => fP_boyNamed_10_2 x1 x g) (0 : Int32)
theorem fP_boyNamed_10_s {x1 : Int64} {g : s_G} {z : Int32} (hB : fP_boyNamed_10 x1 g = some z) : s_Ev 0 s_m32 [.ref 10, .long x1] (s_hg g) (some (.int z)) (s_hg g) := by
  unfold fP_boyNamed_10 at hB
  refine s_Ev.fin ((?_ : ∀ (v : Option Value) (h' : s_H), (fun (z : Int32) (v : Option Value) (h' : s_H) => v = some (.int z) ∧ h' = s_hg g) z v h' → s_Fin 0 s_m32 (0, s_ent [.ref 10, .long x1] (s_m32).2.2.1, [], s_hg g) v h') _ _ ⟨rfl, rfl⟩)
  intro v h' hr
  refine (show s_Fin 0 s_m32 (0, [some (.ref 10), some (.long x1), none, none], [], s_hg g) v h' from ?_)
  refine s_Fin.sg 2 (y := (2, [some (.ref 10), some (.long x1), none, some (.int (0 : Int32))], [], s_hg g)) rfl ?_
  exact s_Fin.more (L := [some (.ref 10), some (.long x1), none, some (.int (0 : Int32))]) ⟨Or.inr rfl, Or.inr rfl, Or.inl rfl, Or.inr rfl, trivial⟩ (s_lp_s (P := (fun (x : Int32) (v : Option Value) (h' : s_H) => s_Fin 0 s_m32 (2, [some (.ref 10), some (.long x1), none, some (.int x)], [], s_hg g) v h')) (Q := (fun (z : Int32) (v : Option Value) (h' : s_H) => v = some (.int z) ∧ h' = s_hg g)) (fun x z hB v h' hr => fP_boyNamed_10_2_s hB hr) hB _ _ hr)
-- CampAshes$Camp.eventNamed
noncomputable def fP_eventNamed_10_2 (x1 : Int64) (x3 : Int32) (g : s_G) : Option ((Int32) ⊕ (Int32)) :=
  if x3 < (g.1 10 1) then (s_b1 (s_ix 17 ((7 : Int32) + x3)) fun k2 => if (lg_cmp (g.2.1 11 k2) x1) = 0 then (s_in (some x3))
  else some (.inl (x3 + (1 : Int32))))
  else s_in (some (-1 : Int32))
theorem fP_eventNamed_10_2_s {x1 : Int64} {x3 : Int32} {g : s_G} {z : (Int32) ⊕ (Int32)} (hB : fP_eventNamed_10_2 x1 x3 g = some z) {v : Option Value} {h' : s_H} (hr : (s_sm (fun (x : Int32) (v : Option Value) (h' : s_H) => s_Fin 0 s_m33 (2, [some (.ref 10), some (.long x1), none, some (.int x)], [], s_hg g) v h') (fun (z : Int32) (v : Option Value) (h' : s_H) => v = some (.int z) ∧ h' = s_hg g)) z v h') : s_Fin 0 s_m33 (2, [some (.ref 10), some (.long x1), none, some (.int x3)], [], s_hg g) v h' := by
  unfold fP_eventNamed_10_2 at hB
  refine s_Fin.sg 3 (y := (7, [some (.ref 10), some (.long x1), none, some (.int x3)], [.int (g.1 10 1), .int x3], s_hg g)) rfl ?_
  by_cases hc : x3 < (g.1 10 1)
  · rw [if_pos hc] at hB
    refine s_Fin.bf (c := (g.1 10 1) ≤ x3) (tg := 32) (p2 := 7) (L1 := [some (.ref 10), some (.long x1), none, some (.int x3)]) (st1 := []) (Int32.not_le.mpr hc) rfl ?_
    refine s_Fin.sg 5 (y := (18, [some (.ref 10), some (.long x1), none, some (.int x3)], [.int ((7 : Int32) + x3), .ref 11], s_hg g)) rfl ?_
    obtain ⟨k2, hk2, hB⟩ := s_bd hB
    refine s_Fin.ix (n := 17) (i := (7 : Int32) + x3) (pc1 := 19) (L1 := [some (.ref 10), some (.long x1), none, some (.int x3)]) (fun j1 => [.long (g.2.1 11 j1)]) (fun j1 => s_hg g) hk2 rfl rfl ?_
    refine s_Fin.sg 2 (y := (21, [some (.ref 10), some (.long x1), none, some (.int x3)], [.int (lg_cmp (g.2.1 11 k2) x1)], s_hg g)) rfl ?_
    by_cases hc : (lg_cmp (g.2.1 11 k2) x1) = 0
    · rw [if_pos hc] at hB
      refine s_Fin.bf (c := ¬ (lg_cmp (g.2.1 11 k2) x1) = 0) (tg := 26) (p2 := 21) (L1 := [some (.ref 10), some (.long x1), none, some (.int x3)]) (st1 := []) (fun h => h hc) rfl ?_
      obtain ⟨z, hB, rfl⟩ := s_in_of hB
      refine s_Fin.sg 1 (y := (25, [some (.ref 10), some (.long x1), none, some (.int x3)], [.int x3], s_hg g)) rfl ?_
      cases hB
      obtain ⟨rfl, rfl⟩ := hr
      exact s_Fin.rt rfl rfl
    · rw [if_neg hc] at hB
      refine s_Fin.bt (c := ¬ (lg_cmp (g.2.1 11 k2) x1) = 0) (tg := 26) (p2 := 21) (L1 := [some (.ref 10), some (.long x1), none, some (.int x3)]) (st1 := []) hc rfl ?_
      refine s_Fin.sg 2 (y := (2, [some (.ref 10), some (.long x1), none, some (.int (x3 + (1 : Int32)))], [], s_hg g)) rfl ?_
      cases hB
      exact s_Fin.more (L := [some (.ref 10), some (.long x1), none, some (.int (x3 + (1 : Int32)))]) ⟨Or.inr rfl, Or.inr rfl, Or.inl rfl, Or.inr rfl, trivial⟩ hr
  · rw [if_neg hc] at hB
    refine s_Fin.bt (c := (g.1 10 1) ≤ x3) (tg := 32) (p2 := 7) (L1 := [some (.ref 10), some (.long x1), none, some (.int x3)]) (st1 := []) (Int32.not_lt.mp hc) rfl ?_
    obtain ⟨z, hB, rfl⟩ := s_in_of hB
    refine s_Fin.sg 1 (y := (33, [some (.ref 10), some (.long x1), none, some (.int x3)], [.int (-1 : Int32)], s_hg g)) rfl ?_
    cases hB
    obtain ⟨rfl, rfl⟩ := hr
    exact s_Fin.rt rfl rfl
noncomputable def fP_eventNamed_10 (x1 : Int64) (g : s_G) : Option (Int32) :=
  s_lp (fun x => fP_eventNamed_10_2 x1 x g) (0 : Int32)
theorem fP_eventNamed_10_s {x1 : Int64} {g : s_G} {z : Int32} (hB : fP_eventNamed_10 x1 g = some z) : s_Ev 0 s_m33 [.ref 10, .long x1] (s_hg g) (some (.int z)) (s_hg g) := by
  unfold fP_eventNamed_10 at hB
  refine s_Ev.fin ((?_ : ∀ (v : Option Value) (h' : s_H), (fun (z : Int32) (v : Option Value) (h' : s_H) => v = some (.int z) ∧ h' = s_hg g) z v h' → s_Fin 0 s_m33 (0, s_ent [.ref 10, .long x1] (s_m33).2.2.1, [], s_hg g) v h') _ _ ⟨rfl, rfl⟩)
  intro v h' hr
  refine (show s_Fin 0 s_m33 (0, [some (.ref 10), some (.long x1), none, none], [], s_hg g) v h' from ?_)
  refine s_Fin.sg 2 (y := (2, [some (.ref 10), some (.long x1), none, some (.int (0 : Int32))], [], s_hg g)) rfl ?_
  exact s_Fin.more (L := [some (.ref 10), some (.long x1), none, some (.int (0 : Int32))]) ⟨Or.inr rfl, Or.inr rfl, Or.inl rfl, Or.inr rfl, trivial⟩ (s_lp_s (P := (fun (x : Int32) (v : Option Value) (h' : s_H) => s_Fin 0 s_m33 (2, [some (.ref 10), some (.long x1), none, some (.int x)], [], s_hg g) v h')) (Q := (fun (z : Int32) (v : Option Value) (h' : s_H) => v = some (.int z) ∧ h' = s_hg g)) (fun x z hB v h' hr => fP_eventNamed_10_2_s hB hr) hB _ _ hr)
