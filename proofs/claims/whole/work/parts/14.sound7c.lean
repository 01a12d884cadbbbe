section SNK
variable {p : Program} {l : Launch} {e : Env} {R : Room} {s : State} {m : MethodId} {args : Array Value} {below : List Frame} {meth : Method} {c : Code} {Q : State → Prop}
variable {base : Nat} {ρ : Nat → Nat} {D : va_G} {cid : Nat → ClassId} {xs : Nat → Int32} {Ln : Nat}
theorem s_ck_of {pc len tg : Nat} {i : Instr} (h : s_ck (pc, i, len, tg) = true) : s_lk i len = true ∧ s_tk pc i tg = true := by
  have h2 : (s_lk i len && s_tk pc i tg) = true := h
  rw [Bool.and_eq_true] at h2
  exact h2
theorem s_tb_at {b : ByteArray} {t : s_T} (hdc : s_dec b t) (hck : t.all s_ck = true) {pc len tg : Nat} {i : Instr} (hlo : s_look t pc = some (i, len, tg)) : decode b pc = .ok (i, len) ∧ s_lk i len = true ∧ s_tk pc i tg = true := by
  have hmem := s_look_mem _ _ _ hlo
  have h1 := hdc (pc, i, len, tg) hmem
  have h2 := List.all_eq_true.mp hck (pc, i, len, tg) hmem
  exact ⟨h1, s_ck_of h2⟩
theorem s_cx_at {q : s_M} (cx : s_Cx p s m args meth c base ρ D cid xs Ln q) {pc len tg : Nat} {i : Instr} (hlo : s_look q.2.2.2.2.2.2 pc = some (i, len, tg)) : decode q.2.1 pc = .ok (i, len) ∧ s_lk i len = true ∧ s_tk pc i tg = true := by
  obtain ⟨-, -, -, -, -, -, -, -, -, hdc, hck⟩ := cx
  exact s_tb_at hdc hck hlo
set_option maxHeartbeats 4000000 in
/-- A STEP of the pure machine is a walk -/
theorem s_step {cp : s_C} {q : s_M} {n0 z0 G Gs pc pc1 len tg : Nat} {i : Instr} {L L1 : s_L} {st st1 : List Value} {h h1 : s_H} {H : Heap} {locs : List Loc} {ls : Array Slot}
    (cx : s_Cx p s m args meth c base ρ D cid xs Ln q) (hcp : s_cps[q.2.2.2.2.1]? = some cp) (hH : s_HR base ρ D cid xs Ln h H) (hS : va_S (s_A base) s.heap H locs) (hl : lv_has ls q.2.2.1 (s_as ρ 0 L)) (hL : L.length = q.2.2.1)
    (hal : h.2.2.1 = true → s.heap.size = base + n0 ∧ G = 0) (hn0 : n0 ≤ h.1) (hz0 : z0 ≤ h.2.1) (hR1 : 6 ≤ R.frames) (hR2 : 240 ≤ R.locals) (hc1 : h1.1 - n0 + G ≤ R.cells) (hc2 : h1.2.1 - z0 + Gs ≤ R.slots) (hd1 : h.1 - n0 + G ≤ R.cells) (hd2 : h.2.1 - z0 + Gs ≤ R.slots)
    (hlo : s_look q.2.2.2.2.2.2 pc = some (i, len, tg)) (hex : s_ex cp q.2.2.2.2.1 q.2.2.2.2.2.1 q.2.2.2.1 pc i tg L st h = some (.inl (pc1, L1, st1, h1)))
    (kk : s_K p l e R s m args below meth c Q base ρ D cid xs Ln q n0 z0 G Gs pc1 L1 st1 h1) : W p l e R s m args below meth c H locs (h.1 - n0 + G) (h.2.1 - z0 + Gs) Q (F0 m pc ls (st.map (s_v ρ))) := by
  obtain ⟨hdg, hlk, htk⟩ := s_cx_at cx hlo
  exact s_step1 cx hH hS hl hL hex hlk htk hdg kk (fun hh => s_step2 cx hcp hH hS hl hL hal hn0 hz0 hR1 hR2 hc1 hc2 hd1 hd2 hex hlk htk hdg hh kk)

end SNK
