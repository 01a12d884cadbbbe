-- TO THE END OF A METHOD
def s_Fin (d : Nat) (q : s_M) (x : s_S) (v : Option Value) (h' : s_H) : Prop := ∃ px L' st', s_To d q x (px, L', st', h') ∧ s_exq q px L' st' h' = some (.inr (.inl (some v))) ∧ s_isx q px = true
theorem s_Fin.rt {d : Nat} {q : s_M} {pc : Nat} {L : s_L} {st : List Value} {h : s_H} {v : Option Value} (hex : s_exq q pc L st h = some (.inr (.inl (some v)))) (hE : s_isx q pc = true) : s_Fin d q (pc, L, st, h) v h := ⟨pc, L, st, s_To.rf, hex, hE⟩
theorem s_Fin.to {d : Nat} {q : s_M} {x y : s_S} {v : Option Value} {h' : s_H} (t : s_To d q x y) (k : s_Fin d q y v h') : s_Fin d q x v h' := by
  obtain ⟨px, L', st', t2, e1, e2⟩ := k
  exact ⟨px, L', st', t.tr t2, e1, e2⟩
theorem s_Fin.sg (n : Nat) {d : Nat} {q : s_M} {x y : s_S} {v : Option Value} {h' : s_H} (h : s_mny 0 0 q n x = some y) (k : s_Fin d q y v h') : s_Fin d q x v h' := s_Fin.to (s_To.sg n h s_To.rf) k
theorem s_Fin.nx {d : Nat} {q : s_M} {pc pc1 : Nat} {L L1 : s_L} {st st1 : List Value} {h h1 h' : s_H} {v : Option Value} (hex : s_exq q pc L st h = some (.inl (pc1, L1, st1, h1))) (hmo : s_mo h h1 = true) (k : s_Fin d q (pc1, L1, st1, h1) v h') : s_Fin d q (pc, L, st, h) v h' := s_Fin.to (s_To.nx hex hmo s_To.rf) k
theorem s_Fin.br {c : Prop} [Decidable c] {d : Nat} {q : s_M} {pc tg p2 : Nat} {L L1 : s_L} {st st1 : List Value} {h h' : s_H} {v : Option Value} (hex : s_exq q pc L st h = s_br c tg p2 L1 st1 h) (kt : c → s_Fin d q (tg, L1, st1, h) v h') (kf : ¬ c → s_Fin d q (p2 + 3, L1, st1, h) v h') : s_Fin d q (pc, L, st, h) v h' := by
  by_cases hc : c
  · exact s_Fin.nx (by rw [hex]; unfold s_br; rw [if_pos hc]; rfl) (s_mo_rf h) (kt hc)
  · exact s_Fin.nx (by rw [hex]; unfold s_br; rw [if_neg hc]; rfl) (s_mo_rf h) (kf hc)
theorem s_Fin.bt {c : Prop} [Decidable c] {d : Nat} {q : s_M} {pc tg p2 : Nat} {L L1 : s_L} {st st1 : List Value} {h h' : s_H} {v : Option Value} (hc : c) (hex : s_exq q pc L st h = s_br c tg p2 L1 st1 h) (k : s_Fin d q (tg, L1, st1, h) v h') : s_Fin d q (pc, L, st, h) v h' := s_Fin.br hex (fun _ => k) (fun hn => absurd hc hn)
theorem s_Fin.bf {c : Prop} [Decidable c] {d : Nat} {q : s_M} {pc tg p2 : Nat} {L L1 : s_L} {st st1 : List Value} {h h' : s_H} {v : Option Value} (hc : ¬ c) (hex : s_exq q pc L st h = s_br c tg p2 L1 st1 h) (k : s_Fin d q (p2 + 3, L1, st1, h) v h') : s_Fin d q (pc, L, st, h) v h' := s_Fin.br hex (fun hn => absurd hn hc) (fun _ => k)
theorem s_Fin.gd {c : Prop} [Decidable c] {d : Nat} {q : s_M} {pc pc1 : Nat} {L L1 : s_L} {st st1 : List Value} {h h1 h' : s_H} {v : Option Value} (hn : ¬ c) (hex : s_exq q pc L st h = if c then none else s_nx pc1 L1 st1 h1) (hmo : s_mo h h1 = true) (k : s_Fin d q (pc1, L1, st1, h1) v h') : s_Fin d q (pc, L, st, h) v h' := s_Fin.nx (by rw [hex, if_neg hn]; rfl) hmo k
theorem s_Fin.cl {d : Nat} {q q1 : s_M} {pc md : Nat} {L : s_L} {st vs rest : List Value} {h h1 h' : s_H} {u v : Option Value} (he : s_Ev d q1 vs h u h1) (hex : s_exq q pc L st h = some (.inr (.inr (md, vs, rest)))) (hi : s_isq q pc = true) (hq1 : s_ms[md]? = some q1) (hle : Nat.ble (s_en vs).length q1.2.2.1 = true) (k : s_Fin (d + 1) q (pc + 3, L, u.toList ++ rest, h1) v h') : s_Fin (d + 1) q (pc, L, st, h) v h' := s_Fin.to (s_To.cl hex hi hq1 (Nat.le_of_ble_eq_true hle) he s_To.rf) k
theorem s_Fin.up {d d' : Nat} {q : s_M} {x : s_S} {v : Option Value} {h' : s_H} (hd : d ≤ d') (k : s_Fin d q x v h') : s_Fin d' q x v h' := by
  obtain ⟨px, L', st', t, e1, e2⟩ := k
  exact ⟨px, L', st', t.up hd, e1, e2⟩
/-- more locals known -/
theorem s_Fin.more {d : Nat} {q : s_M} {pc : Nat} {L L' : s_L} {st : List Value} {h h' : s_H} {v : Option Value} (hle : s_le L L') (k : s_Fin d q (pc, L, st, h) v h') : s_Fin d q (pc, L', st, h) v h' := by
  obtain ⟨px, Lx, st', ⟨f, n, t⟩, e1, e2⟩ := k
  obtain ⟨Ly, hle2, t2⟩ := s_mny_more n _ _ _ _ _ _ _ _ _ hle t
  exact ⟨px, Ly, st', ⟨f, n, t2⟩, (s_exq_le hle2).2 _ e1, e2⟩
theorem s_Ev.fin {d : Nat} {q : s_M} {vs : List Value} {h h' : s_H} {v : Option Value} (k : s_Fin d q (0, s_ent vs q.2.2.1, [], h) v h') : s_Ev d q vs h v h' := by
  obtain ⟨px, L', st', t, e1, e2⟩ := k
  exact s_Ev.of t e1 e2
