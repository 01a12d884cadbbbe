section SNJ
variable {p : Program} {l : Launch} {e : Env} {R : Room} {s : State} {m : MethodId} {args : Array Value} {below : List Frame} {meth : Method} {c : Code} {Q : State → Prop}
variable {base : Nat} {ρ : Nat → Nat} {D : va_G} {cid : Nat → ClassId} {xs : Nat → Int32} {Ln : Nat}
set_option maxHeartbeats 4000000 in
theorem s_step2 {cp : s_C} {q : s_M} {n0 z0 G Gs pc pc1 len tg : Nat} {i : Instr} {L L1 : s_L} {st st1 : List Value} {h h1 : s_H} {H : Heap} {locs : List Loc} {ls : Array Slot}
    (cx : s_Cx p s m args meth c base ρ D cid xs Ln q) (hcp : s_cps[q.2.2.2.2.1]? = some cp) (hH : s_HR base ρ D cid xs Ln h H) (hS : va_S (s_A base) s.heap H locs) (hl : lv_has ls q.2.2.1 (s_as ρ 0 L)) (hL : L.length = q.2.2.1)
    (hal : h.2.2.1 = true → s.heap.size = base + n0 ∧ G = 0) (hn0 : n0 ≤ h.1) (hz0 : z0 ≤ h.2.1) (hR1 : 6 ≤ R.frames) (hR2 : 240 ≤ R.locals) (hc1 : h1.1 - n0 + G ≤ R.cells) (hc2 : h1.2.1 - z0 + Gs ≤ R.slots) (hd1 : h.1 - n0 + G ≤ R.cells) (hd2 : h.2.1 - z0 + Gs ≤ R.slots)
    (hex : s_ex cp q.2.2.2.2.1 q.2.2.2.2.2.1 q.2.2.2.1 pc i tg L st h = some (.inl (pc1, L1, st1, h1))) (hlk : s_lk i len = true) (htk : s_tk pc i tg = true) (hdg : decode q.2.1 pc = .ok (i, len)) (hh : s_hd i = false)
    (kk : s_K p l e R s m args below meth c Q base ρ D cid xs Ln q n0 z0 G Gs pc1 L1 st1 h1) : W p l e R s m args below meth c H locs (h.1 - n0 + G) (h.2.1 - z0 + Gs) Q (F0 m pc ls (st.map (s_v ρ))) := by
  cases i with
  | getfield x =>
    obtain rfl : 3 = len := Nat.eq_of_beq_eq_true hlk
    unfold s_ex at hex
    dsimp only at hex
    split at hex
    · rename_i c1 k1 hq
      exact s_k_getf cx hcp hH hS hl hL hq hex hdg kk
    · cases hex
  | putfield x =>
    obtain rfl : 3 = len := Nat.eq_of_beq_eq_true hlk
    unfold s_ex at hex
    dsimp only at hex
    split at hex
    · rename_i c1 k1 hq
      exact s_k_putf cx hcp hH hS hl hL hq hex hdg kk
    · cases hex
  | getstatic x =>
    obtain rfl : 3 = len := Nat.eq_of_beq_eq_true hlk
    unfold s_ex at hex
    dsimp only at hex
    split at hex
    · rename_i v hq
      obtain ⟨rfl, rfl, rfl, rfl⟩ := s_nx_of hex
      exact s_k_gets cx hcp hH hS hl hL hdg hq kk
    · cases hex
  | ldc x =>
    obtain rfl : 2 = len := Nat.eq_of_beq_eq_true hlk
    unfold s_ex at hex
    dsimp only at hex
    split at hex
    · rename_i v hq
      obtain ⟨rfl, rfl, rfl, rfl⟩ := s_nx_of hex
      exact s_k_ldc (pc1 := 0) cx hcp hH hS hl hL hdg hq (Or.inl ⟨rfl, rfl, Or.inl ⟨_, rfl⟩⟩) kk
    · rename_i v hq
      obtain ⟨rfl, rfl, rfl, rfl⟩ := s_nx_of hex
      exact s_k_ldc (pc1 := 0) cx hcp hH hS hl hL hdg hq (Or.inl ⟨rfl, rfl, Or.inr ⟨⟨_, rfl⟩, s_own11 hcp (s_look_mem _ _ _ hq)⟩⟩) kk
    · cases hex
  | ldc_w x =>
    obtain rfl : 3 = len := Nat.eq_of_beq_eq_true hlk
    unfold s_ex at hex
    dsimp only at hex
    split at hex
    · rename_i v hq
      obtain ⟨rfl, rfl, rfl, rfl⟩ := s_nx_of hex
      exact s_k_ldc (pc1 := 0) cx hcp hH hS hl hL hdg hq (Or.inr (Or.inl ⟨rfl, rfl, Or.inl ⟨_, rfl⟩⟩)) kk
    · rename_i v hq
      obtain ⟨rfl, rfl, rfl, rfl⟩ := s_nx_of hex
      exact s_k_ldc (pc1 := 0) cx hcp hH hS hl hL hdg hq (Or.inr (Or.inl ⟨rfl, rfl, Or.inr ⟨⟨_, rfl⟩, s_own11 hcp (s_look_mem _ _ _ hq)⟩⟩)) kk
    · cases hex
  | ldc2_w x =>
    obtain rfl : 3 = len := Nat.eq_of_beq_eq_true hlk
    unfold s_ex at hex
    dsimp only at hex
    split at hex
    · rename_i v hq
      obtain ⟨rfl, rfl, rfl, rfl⟩ := s_nx_of hex
      exact s_k_ldc (pc1 := 0) cx hcp hH hS hl hL hdg hq (Or.inr (Or.inr ⟨rfl, rfl, _, rfl⟩)) kk
    · cases hex
  | iaload =>
    obtain rfl : 1 = len := Nat.eq_of_beq_eq_true hlk
    exact s_k_ald (cp := cp) cx hH hS hl hL hdg (Or.inl ⟨rfl, hex⟩) kk
  | baload =>
    obtain rfl : 1 = len := Nat.eq_of_beq_eq_true hlk
    exact s_k_ald (cp := cp) cx hH hS hl hL hdg (Or.inr (Or.inl ⟨rfl, hex⟩)) kk
  | laload =>
    obtain rfl : 1 = len := Nat.eq_of_beq_eq_true hlk
    exact s_k_ald (cp := cp) cx hH hS hl hL hdg (Or.inr (Or.inr (Or.inl ⟨rfl, hex⟩))) kk
  | aaload =>
    obtain rfl : 1 = len := Nat.eq_of_beq_eq_true hlk
    exact s_k_ald (cp := cp) cx hH hS hl hL hdg (Or.inr (Or.inr (Or.inr ⟨rfl, hex⟩))) kk
  | iastore =>
    obtain rfl : 1 = len := Nat.eq_of_beq_eq_true hlk
    exact s_k_ast (cp := cp) cx hH hS hl hL hdg (Or.inl ⟨rfl, hex⟩) kk
  | bastore =>
    obtain rfl : 1 = len := Nat.eq_of_beq_eq_true hlk
    exact s_k_ast (cp := cp) cx hH hS hl hL hdg (Or.inr (Or.inl ⟨rfl, hex⟩)) kk
  | lastore =>
    obtain rfl : 1 = len := Nat.eq_of_beq_eq_true hlk
    exact s_k_ast (cp := cp) cx hH hS hl hL hdg (Or.inr (Or.inr ⟨rfl, hex⟩)) kk
  | aastore =>
    obtain rfl : 1 = len := Nat.eq_of_beq_eq_true hlk
    exact s_k_aast cx hH hS hl hL hdg hex kk
  | arraylength =>
    obtain rfl : 1 = len := Nat.eq_of_beq_eq_true hlk
    exact s_k_alen cx hH hS hl hL hdg hex kk
  | newarray t =>
    obtain rfl : 2 = len := Nat.eq_of_beq_eq_true hlk
    exact s_k_mka (x := 0) cx hcp hH hS hl hL hal hn0 hz0 hc1 hc2 hdg (Or.inl ⟨t, rfl, rfl, hex⟩) kk
  | anewarray x =>
    obtain rfl : 3 = len := Nat.eq_of_beq_eq_true hlk
    unfold s_ex at hex
    dsimp only at hex
    split at hex
    · rename_i c1 hq
      exact s_k_mka (x := x) cx hcp hH hS hl hL hal hn0 hz0 hc1 hc2 hdg (Or.inr ⟨_, rfl, rfl, hq, hex⟩) kk
    · cases hex
  | new x =>
    obtain rfl : 3 = len := Nat.eq_of_beq_eq_true hlk
    unfold s_ex at hex
    dsimp only at hex
    split at hex
    · rename_i c1 hq
      exact s_k_mko cx hcp hH hS hl hL hal hn0 hz0 hc1 hc2 hdg hq hex kk
    · split at hex
      · cases hex
      · cases hex
  | invokevirtual x =>
    obtain rfl : 3 = len := Nat.eq_of_beq_eq_true hlk
    unfold s_ex at hex
    dsimp only at hex
    split at hex
    · rename_i en hq
      exact s_k_prim (w := 0) cx hcp hH hS hl hL hR1 hR2 hd1 hd2 hdg hq (Or.inl ⟨rfl, rfl⟩) hex kk
    · cases hex
  | invokestatic x =>
    obtain rfl : 3 = len := Nat.eq_of_beq_eq_true hlk
    unfold s_ex at hex
    dsimp only at hex
    split at hex
    · rename_i en hq
      exact s_k_prim (w := 1) cx hcp hH hS hl hL hR1 hR2 hd1 hd2 hdg hq (Or.inr (Or.inl ⟨rfl, rfl⟩)) hex kk
    · cases hex
  | invokespecial x =>
    obtain rfl : 3 = len := Nat.eq_of_beq_eq_true hlk
    unfold s_ex at hex
    dsimp only at hex
    split at hex
    · rename_i en hq
      exact s_k_prim (w := 2) cx hcp hH hS hl hL hR1 hR2 hd1 hd2 hdg hq (Or.inr (Or.inr ⟨rfl, rfl⟩)) hex kk
    · cases hex
  | tableswitch d lo hi offs =>
    obtain ⟨hx, hb, -⟩ := cx
    obtain ⟨x, r, rfl, hex2⟩ := s_i1_of hex
    clear hex
    split at hex2
    · rename_i hlen
      obtain ⟨rfl, rfl, rfl, hcs⟩ := s_ts_of _ _ hex2
      rcases hcs with ⟨h4, h5⟩ | ⟨h4, h5, o, h6, h7⟩
      · exact lv_tableOut hx hb hdg (by rcases h4 with h4 | h4; exact Or.inl h4; right; omega) h5 (kk H locs ls hH hS hl hL)
      · exact lv_tableIn hx hb hdg h4 (by omega) (by rw [← Array.getElem?_toList]; exact h6) h7 (kk H locs ls hH hS hl hL)
    · cases hex2
  | lookupswitch d ps =>
    obtain ⟨hx, hb, -⟩ := cx
    obtain ⟨x, r, rfl, hex2⟩ := s_i1_of hex
    clear hex
    obtain ⟨rfl, rfl, rfl, h5⟩ := s_ls_of _ hex2
    exact lv_lookup hx hb hdg htk rfl h5 (kk H locs ls hH hS hl hL)
  | ireturn =>
    exfalso
    unfold s_ex s_ret at hex
    dsimp only at hex
    split at hex
    · cases hex
    · split at hex <;> cases hex
    · cases hex
  | lreturn =>
    exfalso
    unfold s_ex at hex
    dsimp only at hex
    split at hex <;> cases hex
  | areturn =>
    exfalso
    unfold s_ex at hex
    dsimp only at hex
    split at hex <;> cases hex
  | return_ =>
    exfalso
    unfold s_ex at hex
    dsimp only at hex
    split at hex <;> cases hex
  | _ => first | exact Bool.noConfusion (show true = false from hh) | exact (Option.some_ne_none _ (Eq.symm (show (none : Option s_O) = some _ from hex))).elim
end SNJ
