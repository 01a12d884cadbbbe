-- REASONING on the pure machine: from a place to a place (s_To), from a call to its answer (s_Ev)
abbrev s_S : Type := Nat × s_L × List Value × s_H
def s_mny (f d : Nat) (q : s_M) : Nat → s_S → Option s_S
  | 0, x => some x
  | n + 1, x => match s_one (s_run f) d q x.1 x.2.1 x.2.2.1 x.2.2.2 with
    | some (.inl y) => s_mny f d q n y
    | _ => none
def s_exq (q : s_M) (pc : Nat) (L : s_L) (st : List Value) (h : s_H) : Option s_O := match s_look q.2.2.2.2.2.2 pc, s_cps[q.2.2.2.2.1]? with
  | some (i, _, tg), some cp => s_ex cp q.2.2.2.2.1 q.2.2.2.2.2.1 q.2.2.2.1 pc i tg L st h
  | _, _ => none
def s_isq (q : s_M) (pc : Nat) : Bool := match s_look q.2.2.2.2.2.2 pc with
  | some (i, _, _) => (match s_iv i with
    | some _ => true
    | none => false)
  | none => false
def s_isx (q : s_M) (pc : Nat) : Bool := match s_look q.2.2.2.2.2.2 pc with
  | some (i, _, _) => s_isE i
  | none => false
theorem s_one_nx {run : Nat → s_M → Nat → s_L → List Value → s_H → Option (Nat × Option (Option Value) × s_H)} {d : Nat} {q : s_M} {pc pc1 : Nat} {L L1 : s_L} {st st1 : List Value} {h h1 : s_H} (hex : s_exq q pc L st h = some (.inl (pc1, L1, st1, h1))) (hmo : s_mo h h1 = true) : s_one run d q pc L st h = some (.inl (pc1, L1, st1, h1)) := by
  unfold s_exq at hex
  split at hex
  · rename_i i len tg cp hlo hcp
    unfold s_one
    rw [hlo, hcp]
    dsimp only
    rw [hex]
    dsimp only
    rw [hmo]
  · cases hex
theorem s_one_ret {run : Nat → s_M → Nat → s_L → List Value → s_H → Option (Nat × Option (Option Value) × s_H)} {d : Nat} {q : s_M} {pc : Nat} {L : s_L} {st : List Value} {h : s_H} {r : Option (Option Value)} (hex : s_exq q pc L st h = some (.inr (.inl r))) (hE : s_isx q pc = true) : s_one run d q pc L st h = some (.inr r) := by
  unfold s_exq at hex
  split at hex
  · rename_i i len tg cp hlo hcp
    unfold s_isx at hE
    rw [hlo] at hE
    unfold s_one
    rw [hlo, hcp]
    dsimp only at hE ⊢
    rw [hex]
    dsimp only
    rw [hE]
  · cases hex
theorem s_one_call {run : Nat → s_M → Nat → s_L → List Value → s_H → Option (Nat × Option (Option Value) × s_H)} {d1 : Nat} {q q1 : s_M} {pc md px1 : Nat} {L : s_L} {st vs rest : List Value} {h h1 : s_H} {v : Option Value} (hex : s_exq q pc L st h = some (.inr (.inr (md, vs, rest)))) (hi : s_isq q pc = true) (hq1 : s_ms[md]? = some q1) (hle : (s_en vs).length ≤ q1.2.2.1) (hrun : run d1 q1 0 (s_ent vs q1.2.2.1) [] h = some (px1, some v, h1)) : s_one run (d1 + 1) q pc L st h = some (.inl (pc + 3, L, v.toList ++ rest, h1)) := by
  unfold s_exq at hex
  split at hex
  · rename_i i len tg cp hlo hcp
    unfold s_isq at hi
    rw [hlo] at hi
    unfold s_one
    rw [hlo, hcp]
    dsimp only at hi ⊢
    rw [hex]
    dsimp only
    cases hiv : s_iv i with
    | none => rw [hiv] at hi; cases hi
    | some wx =>
      dsimp only
      rw [hq1]
      dsimp only
      rw [Nat.ble_eq_true_of_le hle]
      dsimp only
      rw [hrun]
  · cases hex
/-- a step, whatever runs the calls, if it runs at least those -/
theorem s_one_mono {run run' : Nat → s_M → Nat → s_L → List Value → s_H → Option (Nat × Option (Option Value) × s_H)} {d k : Nat} (hrr : ∀ d q pc L st h x, run d q pc L st h = some x → run' (d + k) q pc L st h = some x) {q : s_M} {pc : Nat} {L : s_L} {st : List Value} {h : s_H} {y : (Nat × s_L × List Value × s_H) ⊕ Option (Option Value)} (ho : s_one run d q pc L st h = some y) : s_one run' (d + k) q pc L st h = some y := by
  obtain ⟨i, len, tg, cp, hlo, hcp, hc⟩ := s_one_of ho
  have hq : ∀ o, s_ex cp q.2.2.2.2.1 q.2.2.2.2.2.1 q.2.2.2.1 pc i tg L st h = o → s_exq q pc L st h = o := by
    intro o ho
    unfold s_exq
    rw [hlo, hcp]
    exact ho
  rcases hc with ⟨a1, a2, a3, a4, rfl, hex, hmo⟩ | ⟨r1, rfl, hex, hE⟩ | ⟨w, x, md, vs, rest, d1, q1, px1, v, h2, rfl, hex, hiv, rfl, hq1, hle, hrun⟩
  · exact s_one_nx (hq _ hex) hmo
  · refine s_one_ret (hq _ hex) ?_
    unfold s_isx
    rw [hlo]
    exact hE
  · have e : d1 + 1 + k = d1 + k + 1 := by omega
    rw [e]
    refine s_one_call (hq _ hex) ?_ hq1 hle (hrr _ _ _ _ _ _ _ hrun)
    unfold s_isq
    rw [hlo]
    dsimp only
    rw [hiv]
theorem s_run_up (k : Nat) : ∀ (f d : Nat) (q : s_M) (pc : Nat) (L : s_L) (st : List Value) (h : s_H) (x : Nat × Option (Option Value) × s_H), s_run f d q pc L st h = some x → s_run (f + 1) (d + k) q pc L st h = some x := by
  intro f
  induction f with
  | zero => intro d q pc L st h x hr; rw [s_run] at hr; cases hr
  | succ f ih =>
    intro d q pc L st h x hr
    rw [s_run] at hr ⊢
    split at hr
    · rename_i pc1 L1 st1 h1 ho
      rw [s_one_mono (run' := s_run (f + 1)) (k := k) (fun d q pc L st h x => ih d q pc L st h x) ho]
      exact ih _ _ _ _ _ _ _ hr
    · rename_i r1 ho
      rw [s_one_mono (run' := s_run (f + 1)) (k := k) (fun d q pc L st h x => ih d q pc L st h x) ho]
      exact hr
    · cases hr
theorem s_run_le {f f' d d' : Nat} (hf : f ≤ f') (hd : d ≤ d') {q : s_M} {pc : Nat} {L : s_L} {st : List Value} {h : s_H} {x : Nat × Option (Option Value) × s_H} (hr : s_run f d q pc L st h = some x) : s_run (f' + 1) d' q pc L st h = some x := by
  obtain ⟨k, rfl⟩ := Nat.exists_eq_add_of_le hd
  obtain ⟨j, rfl⟩ := Nat.exists_eq_add_of_le hf
  have h0 := s_run_up k f d q pc L st h x hr
  clear hf hd hr
  induction j with
  | zero => exact h0
  | succ j ih => exact s_run_up 0 _ _ _ _ _ _ _ _ ih
theorem s_mny_le {f f' d d' : Nat} (hf : f ≤ f') (hd : d ≤ d') {q : s_M} : ∀ (n : Nat) (x y : s_S), s_mny f d q n x = some y → s_mny (f' + 1) d' q n x = some y := by
  intro n
  induction n with
  | zero => intro x y h; exact h
  | succ n ih =>
    intro x y h
    rw [s_mny] at h ⊢
    split at h
    · rename_i z ho
      obtain ⟨k, rfl⟩ := Nat.exists_eq_add_of_le hd
      have := s_one_mono (run' := s_run (f' + 1)) (k := k) (fun d q pc L st h x hx => s_run_le hf (Nat.le_add_right d k) hx) ho
      rw [this]
      exact ih _ _ h
    · cases h
theorem s_mny_app {f d : Nat} {q : s_M} : ∀ (n k : Nat) (x y z : s_S), s_mny f d q n x = some y → s_mny f d q k y = some z → s_mny f d q (n + k) x = some z := by
  intro n
  induction n with
  | zero => intro k x y z h1 h2; cases h1; rw [Nat.zero_add]; exact h2
  | succ n ih =>
    intro k x y z h1 h2
    rw [show n + 1 + k = (n + k) + 1 by omega]
    rw [s_mny] at h1 ⊢
    split at h1
    · rename_i w ho
      exact ih k _ _ _ h1 h2
    · cases h1
def s_To (d : Nat) (q : s_M) (x y : s_S) : Prop := ∃ f n, s_mny f d q n x = some y
def s_Ev (d : Nat) (q : s_M) (vs : List Value) (h : s_H) (v : Option Value) (h' : s_H) : Prop := ∃ f px, s_run f d q 0 (s_ent vs q.2.2.1) [] h = some (px, some v, h')
theorem s_To.rf {d : Nat} {q : s_M} {x : s_S} : s_To d q x x := ⟨0, 0, rfl⟩
theorem s_To.tr {d : Nat} {q : s_M} {x y z : s_S} (h1 : s_To d q x y) (h2 : s_To d q y z) : s_To d q x z := by
  obtain ⟨f1, n1, e1⟩ := h1
  obtain ⟨f2, n2, e2⟩ := h2
  have a1 := s_mny_le (Nat.le_max_left f1 f2) (Nat.le_refl d) _ _ _ e1
  have a2 := s_mny_le (Nat.le_max_right f1 f2) (Nat.le_refl d) _ _ _ e2
  exact ⟨_, _, s_mny_app _ _ _ _ _ a1 a2⟩
theorem s_To.up {d d' : Nat} {q : s_M} {x y : s_S} (hd : d ≤ d') (h : s_To d q x y) : s_To d' q x y := by
  obtain ⟨f, n, e⟩ := h
  exact ⟨_, _, s_mny_le (Nat.le_refl f) hd _ _ _ e⟩
theorem s_Ev.up {d d' : Nat} {q : s_M} {vs : List Value} {h h' : s_H} {v : Option Value} (hd : d ≤ d') (he : s_Ev d q vs h v h') : s_Ev d' q vs h v h' := by
  obtain ⟨f, px, e⟩ := he
  exact ⟨_, _, s_run_le (Nat.le_refl f) hd e⟩
/-- some steps that need no question answered -/
theorem s_To.sg (n : Nat) {d : Nat} {q : s_M} {x y z : s_S} (h : s_mny 0 0 q n x = some y) (k : s_To d q y z) : s_To d q x z := s_To.tr ⟨_, _, s_mny_le (Nat.le_refl 0) (Nat.zero_le d) _ _ _ h⟩ k
theorem s_To.nx {d : Nat} {q : s_M} {pc pc1 : Nat} {L L1 : s_L} {st st1 : List Value} {h h1 : s_H} {z : s_S} (hex : s_exq q pc L st h = some (.inl (pc1, L1, st1, h1))) (hmo : s_mo h h1 = true) (k : s_To d q (pc1, L1, st1, h1) z) : s_To d q (pc, L, st, h) z := by
  refine s_To.tr ⟨0, 1, ?_⟩ k
  rw [s_mny, s_one_nx hex hmo]
  rfl
theorem s_mo_rf (h : s_H) : s_mo h h = true := by
  unfold s_mo
  rw [Nat.ble_self_eq_true, Nat.ble_self_eq_true]
  cases h.2.2.1 <;> rfl
/-- a branch -/
theorem s_To.br {c : Prop} [Decidable c] {d : Nat} {q : s_M} {pc tg p2 : Nat} {L L1 : s_L} {st st1 : List Value} {h : s_H} {z : s_S} (hex : s_exq q pc L st h = s_br c tg p2 L1 st1 h) (kt : c → s_To d q (tg, L1, st1, h) z) (kf : ¬ c → s_To d q (p2 + 3, L1, st1, h) z) : s_To d q (pc, L, st, h) z := by
  by_cases hc : c
  · exact s_To.nx (by rw [hex]; unfold s_br; rw [if_pos hc]; rfl) (s_mo_rf h) (kt hc)
  · exact s_To.nx (by rw [hex]; unfold s_br; rw [if_neg hc]; rfl) (s_mo_rf h) (kf hc)
/-- a step that may fail, and doesn't -/
theorem s_To.gd {c : Prop} [Decidable c] {d : Nat} {q : s_M} {pc pc1 : Nat} {L L1 : s_L} {st st1 : List Value} {h h1 : s_H} {z : s_S} (hex : s_exq q pc L st h = if c then none else s_nx pc1 L1 st1 h1) (hmo : s_mo h h1 = true) (hn : ¬ c) (k : s_To d q (pc1, L1, st1, h1) z) : s_To d q (pc, L, st, h) z := s_To.nx (by rw [hex, if_neg hn]; rfl) hmo k
/-- a call -/
theorem s_To.cl {d : Nat} {q q1 : s_M} {pc md : Nat} {L : s_L} {st vs rest : List Value} {h h1 : s_H} {v : Option Value} {z : s_S} (hex : s_exq q pc L st h = some (.inr (.inr (md, vs, rest)))) (hi : s_isq q pc = true) (hq1 : s_ms[md]? = some q1) (hle : (s_en vs).length ≤ q1.2.2.1) (he : s_Ev d q1 vs h v h1) (k : s_To (d + 1) q (pc + 3, L, v.toList ++ rest, h1) z) : s_To (d + 1) q (pc, L, st, h) z := by
  obtain ⟨f, px, e⟩ := he
  refine s_To.tr ⟨f, 1, ?_⟩ k
  rw [s_mny, s_one_call hex hi hq1 hle e]
  rfl
/-- the end of a method -/
theorem s_Ev.of {d : Nat} {q : s_M} {vs : List Value} {h h' : s_H} {v : Option Value} {px : Nat} {L' : s_L} {st' : List Value} (k : s_To d q (0, s_ent vs q.2.2.1, [], h) (px, L', st', h')) (hex : s_exq q px L' st' h' = some (.inr (.inl (some v)))) (hE : s_isx q px = true) : s_Ev d q vs h v h' := by
  obtain ⟨f, n, e⟩ := k
  have key : ∀ (n : Nat) (pc : Nat) (L : s_L) (st : List Value) (h : s_H), s_mny f d q n (pc, L, st, h) = some (px, L', st', h') → ∃ g, s_run (f + g) d q pc L st h = some (px, some v, h') := by
    intro n
    induction n with
    | zero =>
      intro pc L st h e
      cases e
      refine ⟨1, ?_⟩
      rw [s_run, s_one_ret hex hE]
    | succ n ih =>
      intro pc L st h e
      rw [s_mny] at e
      dsimp only at e
      split at e
      · rename_i y ho
        obtain ⟨pc1, L1, st1, h1⟩ := y
        obtain ⟨g, hg⟩ := ih _ _ _ _ e
        refine ⟨g + 2, ?_⟩
        rw [show f + (g + 2) = (f + g + 1) + 1 by omega, s_run]
        have h2 : s_one (s_run (f + g + 1)) d q pc L st h = some (.inl (pc1, L1, st1, h1)) := s_one_mono (run' := s_run (f + g + 1)) (k := 0) (fun d q pc L st h x hx => s_run_le (Nat.le_add_right f g) (Nat.le_refl d) hx) ho
        rw [h2]
        exact s_run_le (Nat.le_refl _) (Nat.le_refl d) hg
      · cases e
  obtain ⟨g, hg⟩ := key n _ _ _ _ e
  exact ⟨_, _, hg⟩
section SNP
variable {p : Program} {l : Launch} {e : Env} {R : Room} {s : State} {m : MethodId} {args : Array Value} {below : List Frame} {meth : Method} {c : Code} {Q : State → Prop}
variable {base : Nat} {ρ : Nat → Nat} {D : va_G} {cid : Nat → ClassId} {xs : Nat → Int32} {Ln : Nat}
set_option maxHeartbeats 1000000 in
/-- from place to place is a walk -/
theorem s_toW {f d : Nat} {q : s_M} {n0 z0 G Gs : Nat} (cx : s_Cx p s m args meth c base ρ D cid xs Ln q) (hR1 : d + 6 ≤ R.frames) (hR2 : 40 * d + 240 ≤ R.locals) : ∀ (n : Nat) (pc pc1 : Nat) (L L1 : s_L) (st st1 : List Value) (h h1 : s_H), s_mny f d q n (pc, L, st, h) = some (pc1, L1, st1, h1) →
    (h.2.2.1 = true → s.heap.size = base + n0 ∧ G = 0) → n0 ≤ h.1 → z0 ≤ h.2.1 → h1.1 - n0 + G ≤ R.cells → h1.2.1 - z0 + Gs ≤ R.slots → h.1 ≤ h1.1 ∧ h.2.1 ≤ h1.2.1 ∧ (s_K p l e R s m args below meth c Q base ρ D cid xs Ln q n0 z0 G Gs pc1 L1 st1 h1 → s_K p l e R s m args below meth c Q base ρ D cid xs Ln q n0 z0 G Gs pc L st h) := by
  intro n
  induction n with
  | zero =>
    intro pc pc1 L L1 st st1 h h1 hm hal hn0 hz0 hc1 hc2
    cases hm
    exact ⟨Nat.le_refl _, Nat.le_refl _, id⟩
  | succ n ih =>
    intro pc pc1 L L1 st st1 h h1 hm hal hn0 hz0 hc1 hc2
    rw [s_mny] at hm
    dsimp only at hm
    split at hm
    · rename_i y ho
      obtain ⟨pc2, L2, st2, h2⟩ := y
      obtain ⟨i, len, tg, cp, hlo, hcp, hc⟩ := s_one_of ho
      rcases hc with ⟨a1, a2, a3, a4, ey, hex, hmo⟩ | ⟨r1, ey, -, -⟩ | ⟨w, x, md, vs, rest, d1, q1, px1, v, h3, ey, hex, hiv, rfl, hq1, hle, hrun⟩
      · cases ey
        obtain ⟨m1, m2, m3⟩ := s_mo_of hmo
        obtain ⟨k1, k2, k3⟩ := ih _ _ _ _ _ _ _ _ hm (by rw [m3]; exact hal) (by omega) (by omega) hc1 hc2
        refine ⟨by omega, by omega, fun kk H locs ls hH hS hl hL => ?_⟩
        exact s_step cx hcp hH hS hl hL hal hn0 hz0 (by omega) (by omega) (by omega) (by omega) (by omega) (by omega) hlo hex (k3 kk)
      · cases ey
      · cases ey
        obtain ⟨m1, m2, m3⟩ := s_run_mono _ _ _ _ _ _ _ _ _ _ hrun
        obtain ⟨k1, k2, k3⟩ := ih _ _ _ _ _ _ _ _ hm (by rw [m3]; exact hal) (by omega) (by omega) hc1 hc2
        refine ⟨by omega, by omega, fun kk H locs ls hH hS hl hL => ?_⟩
        exact s_k_call cx hcp hH hS hl hL hal hn0 hz0 hR1 hR2 (by omega) (by omega) hlo hex hiv hq1 hle (s_sound l f d1) hrun (k3 kk)
    · cases hm
end SNP
