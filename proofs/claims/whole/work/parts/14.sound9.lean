-- calls
theorem s_call_of {md n md1 : Nat} {st vs rest : List Value} (h : s_call md n st = some (.inr (.inr (md1, vs, rest)))) : md1 = md ∧ n ≤ st.length ∧ s_cat (st.drop n) ≤ 8 ∧ vs = (st.take n).reverse ∧ rest = st.drop n := by
  unfold s_call at h
  split at h
  · rename_i hb
    rw [Bool.and_eq_true] at hb
    have h2 := Prod.mk.inj (Sum.inr.inj (Sum.inr.inj (Option.some.inj h)))
    have h3 := Prod.mk.inj h2.2
    exact ⟨h2.1.symm, Nat.le_of_ble_eq_true hb.1, Nat.le_of_ble_eq_true hb.2, h3.1.symm, h3.2.symm⟩
  · cases h
theorem s_call_no {pc md : Nat} {L : s_L} {r vs rest : List Value} {h : s_H} (hq : s_nx pc L r h = some (.inr (.inr (md, vs, rest)))) : False := by
  unfold s_nx at hq
  cases hq
/-- which row of the pool a call comes from -/
theorem s_inv_of {w pc md : Nat} {en : Nat × Nat × Nat} {L : s_L} {st vs rest : List Value} {h : s_H} (hex : s_inv w pc en L st h = some (.inr (.inr (md, vs, rest)))) :
    (∃ n q1 a, w = 0 ∧ en = (0, md, n) ∧ s_ms[md]? = some q1 ∧ st[n]? = some (.ref a) ∧ s_isG h a q1.2.2.2.2.1 = true ∧ s_call md (n + 1) st = some (.inr (.inr (md, vs, rest)))) ∨
    (∃ n, w = 1 ∧ en = (1, md, n) ∧ s_call md n st = some (.inr (.inr (md, vs, rest)))) ∨
    (∃ n a, w = 2 ∧ (en = (2, md, n) ∨ en = (3, md, n)) ∧ st[n]? = some (.ref a) ∧ s_call md (n + 1) st = some (.inr (.inr (md, vs, rest)))) ∨
    (w = 1 ∧ en.1 = 14 ∧ md = 9999 ∧ s_call md 4 st = some (.inr (.inr (md, vs, rest)))) := by
  unfold s_inv at hex
  split at hex
  · split at hex
    · rename_i q1 a hq1 ha
      split at hex
      · rename_i hg
        have e := (s_call_of hex).1
        subst e
        exact Or.inl ⟨_, q1, a, rfl, rfl, hq1, ha, hg, hex⟩
      · cases hex
    · cases hex
  · have e := (s_call_of hex).1
    subst e
    exact Or.inr (Or.inl ⟨_, rfl, rfl, hex⟩)
  · split at hex
    · rename_i a ha
      have e := (s_call_of hex).1
      subst e
      exact Or.inr (Or.inr (Or.inl ⟨_, a, rfl, Or.inl rfl, ha, hex⟩))
    · cases hex
  · split at hex
    · rename_i a ha
      have e := (s_call_of hex).1
      subst e
      exact Or.inr (Or.inr (Or.inl ⟨_, a, rfl, Or.inr rfl, ha, hex⟩))
    · cases hex
  · exfalso
    obtain ⟨a, r, -, hex2⟩ := s_r1_of hex
    split at hex2
    · exact s_call_no (md := md) hex2
    · cases hex2
  · exfalso
    unfold s_acp at hex
    split at hex
    · split at hex
      · cases hex
      · split at hex
        · exact s_call_no (md := md) hex
        · split at hex
          · exact s_call_no (md := md) hex
          · cases hex
    · cases hex
  · have e := (s_call_of hex).1
    subst e
    exact Or.inr (Or.inr (Or.inr ⟨rfl, rfl, rfl, hex⟩))
  · exfalso
    obtain ⟨a, b, r, -, hex2⟩ := s_ii_of hex
    split at hex2
    · exact s_call_no (md := md) hex2
    · cases hex2
  · exfalso
    obtain ⟨a, b, r, -, hex2⟩ := s_ii_of hex
    split at hex2
    · exact s_call_no (md := md) hex2
    · cases hex2
  · exfalso
    obtain ⟨a, r, -, hex2⟩ := s_r1_of hex
    split at hex2
    · cases hex2
    · split at hex2
      · split at hex2
        · exact s_call_no (md := md) hex2
        · cases hex2
      · cases hex2
  · exfalso
    obtain ⟨i, a, r, -, hex2⟩ := s_ir_of hex
    split at hex2
    · cases hex2
    · split at hex2
      · split at hex2
        · split at hex2
          · cases hex2
          · exact s_call_no (md := md) hex2
        · cases hex2
      · cases hex2
  · cases hex
theorem s_ws_gw {q : s_M} (hok : s_okM q) : ∀ w ∈ s_ws q, w ∈ s_gw := by
  intro w hw
  rcases List.mem_cons.mp hw with rfl | h
  · exact s_gw_mem hok.2.2.1 rfl
  · exact h
theorem s_rm_l (d mc ms : Nat) : (s_rm d mc ms).locals = 40 * d + 240 := rfl
theorem s_rm_f (d mc ms : Nat) : (s_rm d mc ms).frames = d + 6 := rfl
theorem s_ms_9999 : s_ms[9999]? = none := by decide +kernel
theorem s_lc {d x R : Nat} (h : 40 * (d + 1) + 240 ≤ R) (hx : x ≤ 20) : 8 + (x + 11) + (40 * d + 240) ≤ R := by omega
theorem s_ow17 : ∀ q ∈ s_ms, q.2.2.2.2.1 < 17 := by decide +kernel
theorem s_Gs_ob : ∀ z ∈ s_Gs, z.1 < 17 → z.1 < 13 ∧ z.1 ≠ 10 := by decide +kernel
section SNM
variable {p : Program} {l : Launch} {e : Env} {R : Room} {s : State} {m : MethodId} {args : Array Value} {below : List Frame} {meth : Method} {c : Code} {Q : State → Prop}
variable {base : Nat} {ρ : Nat → Nat} {D : va_G} {cid : Nat → ClassId} {xs : Nat → Int32} {Ln : Nat}
theorem s_callW {H : Heap} {locs : List Loc} {cells slots mc ms pc : Nat} {ls : Array Slot} {rest st0 : List Value} {a : Array Value} {v : Option Value} {h1 : s_H} (hr : va_Run p l e R s m args below meth c H locs cells slots mc ms (F0 m pc ls st0) rest (s_Qc base ρ D cid xs Ln v h1 a) (s_A base)) (hS : va_S (s_A base) s.heap H locs)
    (kk : ∀ (H1 : Heap) (locs1 : List Loc), s_HR base ρ D cid xs Ln h1 H1 → va_S (s_A base) s.heap H1 locs1 → W p l e R s m args below meth c H1 locs1 (cells + mc) (slots + ms) Q (F0 m (pc + 3) ls ((v.map (s_v ρ)).toList ++ rest))) : W p l e R s m args below meth c H locs cells slots Q (F0 m pc ls st0) := by
  intro T hT X
  obtain ⟨v', st₀, t, T', L, h0, X', hL, e1, e2, ⟨hv, hHR, hz, hk⟩, st⟩ := hr T hT X
  cases hv
  rw [h0] at hz hk
  obtain ⟨t2, a1, b1⟩ := kk T'.heap (locs ++ L) (by rw [e1]; exact hHR) ⟨Nat.le_trans hS.1 (by rw [e1]; exact hz), fun q h1 h2 => by rw [e1, hk q (Nat.lt_of_lt_of_le h1 hS.1) h2]; exact hS.2.1 q h1 h2, fun q hq => by
      rcases List.mem_append.mp hq with h | h
      · exact hS.2.2 q h
      · exact hL q h⟩ T' rfl X'
  exact ⟨t2, st t2 a1, b1⟩
theorem s_size {h : s_H} {H : Heap} {locs : List Loc} {n0 : Nat} (hH : s_HR base ρ D cid xs Ln h H) (hS : va_S (s_A base) s.heap H locs) (hs : s.heap.size = base + n0) (hn0 : n0 ≤ h.1) (hsz : H.size ≤ s.heap.size + (h.1 - n0)) : H.size = base + h.1 := by
  rcases Nat.eq_zero_or_pos h.1 with h0 | h0
  · have := hS.1
    omega
  · have h1 := (hH.1 (h.1 - 1) _ (s_w_at (by omega))).lt
    have h2 : base + (h.1 - 1) < H.size := h1
    omega
set_option maxHeartbeats 2000000 in
theorem s_k_call {cp : s_C} {q q1 : s_M} {n0 z0 G Gs pc px1 len tg w x md d1 f : Nat} {i : Instr} {L : s_L} {st vs rest : List Value} {h h1 : s_H} {H : Heap} {locs : List Loc} {ls : Array Slot} {v : Option Value}
    (cx : s_Cx p s m args meth c base ρ D cid xs Ln q) (hcp : s_cps[q.2.2.2.2.1]? = some cp) (hH : s_HR base ρ D cid xs Ln h H) (hS : va_S (s_A base) s.heap H locs) (hl : lv_has ls q.2.2.1 (s_as ρ 0 L)) (hL : L.length = q.2.2.1)
    (hal : h.2.2.1 = true → s.heap.size = base + n0 ∧ G = 0) (hn0 : n0 ≤ h.1) (hz0 : z0 ≤ h.2.1) (hR1 : d1 + 1 + 6 ≤ R.frames) (hR2 : 40 * (d1 + 1) + 240 ≤ R.locals) (hc1 : h1.1 - n0 + G ≤ R.cells) (hc2 : h1.2.1 - z0 + Gs ≤ R.slots)
    (hlo : s_look q.2.2.2.2.2.2 pc = some (i, len, tg)) (hex : s_ex cp q.2.2.2.2.1 q.2.2.2.2.2.1 q.2.2.2.1 pc i tg L st h = some (.inr (.inr (md, vs, rest)))) (hiv : s_iv i = some (w, x))
    (hq1 : s_ms[md]? = some q1) (hlen : (s_en vs).length ≤ q1.2.2.1) (ih : s_Snd l base ρ D cid xs Ln d1 f) (hr1 : s_run f d1 q1 0 (s_ent vs q1.2.2.1) [] h = some (px1, some v, h1))
    (kk : s_K p l e R s m args below meth c Q base ρ D cid xs Ln q n0 z0 G Gs (pc + 3) L (v.toList ++ rest) h1) : W p l e R s m args below meth c H locs (h.1 - n0 + G) (h.2.1 - z0 + Gs) Q (F0 m pc ls (st.map (s_v ρ))) := by
  obtain ⟨hdg, hlk, -⟩ := s_cx_at cx hlo
  obtain ⟨hx, hb, hml, hown, hts, hin, hSR, hρ, hinj, hdc, hck⟩ := cx
  have hmemq := List.mem_of_getElem? hq1
  have hok := s_okMs q1 hmemq
  have hM := s_met ih hρ hinj hok hlen hr1
  have hmono := s_run_mono _ _ _ _ _ _ _ _ _ _ hr1
  have hok0 := hok
  obtain ⟨o1, o2, o3, o4, o5, o6, o7, o8, o9⟩ := hok0
  have hlen3 : len = 3 := by
    cases i with
    | invokevirtual y => exact (Nat.eq_of_beq_eq_true hlk).symm
    | invokestatic y => exact (Nat.eq_of_beq_eq_true hlk).symm
    | invokespecial y => exact (Nat.eq_of_beq_eq_true hlk).symm
    | _ => cases hiv
  subst hlen3
  have hinv : ∃ en, s_look cp.2.2.1 x = some en ∧ s_inv w (pc + 3) en L st h = some (.inr (.inr (md, vs, rest))) ∧ ((w = 0 ∧ i = .invokevirtual x) ∨ (w = 1 ∧ i = .invokestatic x) ∨ (w = 2 ∧ i = .invokespecial x)) := by
    cases i with
    | invokevirtual y =>
      cases hiv
      change (match s_look cp.2.2.1 x with
        | some e => s_inv 0 (pc + 3) e L st h
        | none => none) = _ at hex
      cases hy : s_look cp.2.2.1 x with
      | none => rw [hy] at hex; cases hex
      | some en => rw [hy] at hex; exact ⟨en, rfl, hex, Or.inl ⟨rfl, rfl⟩⟩
    | invokestatic y =>
      cases hiv
      change (match s_look cp.2.2.1 x with
        | some e => s_inv 1 (pc + 3) e L st h
        | none => none) = _ at hex
      cases hy : s_look cp.2.2.1 x with
      | none => rw [hy] at hex; cases hex
      | some en => rw [hy] at hex; exact ⟨en, rfl, hex, Or.inr (Or.inl ⟨rfl, rfl⟩)⟩
    | invokespecial y =>
      cases hiv
      change (match s_look cp.2.2.1 x with
        | some e => s_inv 2 (pc + 3) e L st h
        | none => none) = _ at hex
      cases hy : s_look cp.2.2.1 x with
      | none => rw [hy] at hex; cases hex
      | some en => rw [hy] at hex; exact ⟨en, rfl, hex, Or.inr (Or.inr ⟨rfl, rfl⟩)⟩
    | _ => cases hiv
  obtain ⟨en, hen, hinv, hi⟩ := hinv
  obtain ⟨pp, hp⟩ := (s_okPs _ cp hcp).2.2.1 _ (s_look_mem _ _ _ hen)
  have hpay : ∀ w ∈ s_ws q1, ∀ (a' : Array Value) (U : State), s.WarmedH U.vm → w.before a' U = true := fun w hw a' U hW => word_at hW (good_of_word (s_gw_good (s_ws_gw hok w hw)).2) (hts w (s_ws_gw hok w hw))
  have hcode : (Cond.code q1.1 q1.2.1 q1.2.2.1 q1.2.2.2.1).before args s = true := hts _ (s_gw_mem o3 rfl)
  have hini : (Cond.initialized q1.1.cls).before args s = true := hts _ (s_gw_mem o7 rfl)
  have hpar : ∀ n : Nat, (parseMethodDescriptor q1.1.desc).map (fun d => d.parameters.length) = some n → ∀ sig, parseMethodDescriptor q1.1.desc = some sig → n = sig.parameters.length := by
    intro n hn sig hs
    rw [hs] at hn
    exact (Option.some.inj hn).symm
  have hfr : (s_rm d1 (h1.1 - h.1) (h1.2.1 - h.2.1)).frames + 1 ≤ R.frames := by rw [s_rm_f]; omega
  have hlc : 8 + (q1.2.2.1 + 11) + (s_rm d1 (h1.1 - h.1) (h1.2.1 - h.2.1)).locals ≤ R.locals := by rw [s_rm_l]; exact s_lc hR2 o9
  have hcl : h.1 - n0 + G + (h1.1 - h.1) = h1.1 - n0 + G := by omega
  have hsl : h.2.1 - z0 + Gs + (h1.2.1 - h.2.1) = h1.2.1 - z0 + Gs := by omega
  have hf : h.1 - n0 + G + (h1.1 - h.1) ≤ R.cells ∧ h.2.1 - z0 + Gs + (h1.2.1 - h.2.1) ≤ R.slots := by rw [hcl, hsl]; exact ⟨hc1, hc2⟩
  refine s_Wsz (fun hsz => ?_)
  have hpre : ∀ U : State, U.heap = H → s.WarmedH U.vm → s_Pc base ρ D cid xs Ln vs h (vs.map (s_v ρ)).toArray U := by
    intro U hU hW
    refine ⟨rfl, by rw [hU]; exact hH, s_SR_moved hSR hW (by rw [hU]; exact hS.1) (fun a h1 h2 => by rw [hU]; exact hS.2.1 a h1 h2), fun ha => ?_⟩
    rw [hU]
    obtain ⟨hs0, hG⟩ := hal ha
    exact s_size hH hS hs0 hn0 (by rw [hG] at hsz; exact hsz)
  have S : CallFix p m c q.2.1 q.2.2.1 s args s_gw (s_R q.2.2.2.2.1) := ⟨hx, hb, hml, hown, hts⟩
  have fin : ∀ (a : Array Value) (rst : List Value), rst = rest.map (s_v ρ) → va_Run p l e R s m args below meth c H locs (h.1 - n0 + G) (h.2.1 - z0 + Gs) (h1.1 - h.1) (h1.2.1 - h.2.1) (F0 m pc ls (st.map (s_v ρ))) rst (s_Qc base ρ D cid xs Ln v h1 a) (s_A base) → W p l e R s m args below meth c H locs (h.1 - n0 + G) (h.2.1 - z0 + Gs) Q (F0 m pc ls (st.map (s_v ρ))) := by
    intro a rst hrst hrun
    refine s_callW hrun hS (fun H1 locs1 hH1 hS1 => ?_)
    have := kk H1 locs1 ls hH1 hS1 hl hL
    rw [hcl, hsl, hrst]
    rw [List.map_append] at this
    cases v with
    | none => exact this
    | some z => exact this
  have hroom : ∀ n : Nat, s_cat (st.drop n) ≤ 8 → 2 * (F0 m pc ls (st.map (s_v ρ))).monitorRoom + (((st.drop n).map (s_v ρ)).map fun v => v.category).sum ≤ 8 := fun n h8 => lv_room (by rw [s_cat_map]; exact h8)
  have cut : ∀ (n : Nat) (a : Nat), st[n]? = some (.ref a) → st = st.take n ++ .ref a :: st.drop (n + 1) ∧ (st.take (n + 1)).reverse = .ref a :: (st.take n).reverse := by
    intro n a ha
    have hlt := (List.getElem?_eq_some_iff.mp ha).1
    have hge : st[n] = .ref a := (List.getElem?_eq_some_iff.mp ha).2
    refine ⟨?_, ?_⟩
    · rw [← hge, ← List.drop_eq_getElem_cons hlt, List.take_append_drop]
    · rw [List.take_succ_eq_append_getElem hlt, List.reverse_append, hge]; rfl
  rcases s_inv_of hinv with ⟨n, qx, a, rfl, rfl, hqx, ha, hg, hcall⟩ | ⟨n, rfl, rfl, hcall⟩ | ⟨n, a, rfl, hen3, ha, hcall⟩ | ⟨-, -, rfl, -⟩
  · -- virtual
    cases hq1.symm.trans hqx
    obtain ⟨-, hnl, h8, hvs, hrest⟩ := s_call_of hcall
    rcases hi with ⟨-, rfl⟩ | ⟨hw, -⟩ | ⟨hw, -⟩
    · unfold s_ckM at hp
      dsimp only at hp
      rw [hq1] at hp
      simp only [Bool.and_eq_true] at hp
      obtain ⟨⟨⟨p1, p2⟩, p3⟩, p4⟩ := hp
      obtain ⟨c1, c2⟩ := cut n a ha
      have hgo := s_isG_of hg
      have hob := s_Gs_ob _ (List.mem_of_getElem? hgo.2) (s_ow17 q1 hmemq)
      obtain ⟨k1, k2, -⟩ := s_okC q1.2.2.2.2.1 hob.1 hob.2
      have he := s_w_at (base := base) (ρ := ρ) (cid := cid) hgo.1
      have hob1 : q1.2.2.2.2.1 < 13 := hob.1
      rw [s_E_obj hg (by omega)] at he
      have hrec := va_recv hSR.1 hH.1 k1 he
      rw [← o2] at hrec
      have hρa : ρ a = base + a := hρ a (s_isG_lt hg)
      rw [hvs, c2] at hpre
      refine fin ((Value.ref (base + a) :: ((st.take n).reverse.map (s_v ρ))).toArray) _ (by rw [hrest]) (va_runV (C := q1.1.cls) (b := base + a) (As := (st.take n).reverse.map (s_v ρ)) (rest := (st.drop (n + 1)).map (s_v ρ)) (n := n) S hM ⟨⟨rfl, rfl, hfr, hlc, hpay, List.mem_cons_self, hcode, hini, o8, hpar n (of_decide_eq_true p4), hts _ (s_gw_mem (s_wAt_mem p1) rfl)⟩, hts _ (s_gw_mem (s_wAt_mem p2) rfl), hts _ (s_gw_mem (s_wAt_mem p3) rfl)⟩ ⟨s_Pc_blind, hrec, fun U hU hW => ?_⟩ rfl ?_ hl.1 ?_ (hroom _ h8) hdg hf)
      · have := hpre U hU hW
        rw [List.map_cons] at this
        rw [hvs, c2]
        have e3 : s_v ρ (.ref a) = .ref (base + a) := by show Value.ref (ρ a) = _; rw [hρa]
        rw [e3] at this
        exact this
      · rw [List.length_map, List.length_reverse, List.length_take]
        omega
      · show st.map (s_v ρ) = _
        rw [← List.map_reverse, List.reverse_reverse]
        have e3 : s_v ρ (.ref a) = .ref (base + a) := by show Value.ref (ρ a) = _; rw [hρa]
        rw [← e3, ← List.map_cons, ← List.map_append, ← c1]
    · cases hw
    · cases hw
  · -- static
    obtain ⟨-, hnl, h8, hvs, hrest⟩ := s_call_of hcall
    rcases hi with ⟨hw, -⟩ | ⟨-, rfl⟩ | ⟨hw, -⟩
    · cases hw
    · unfold s_ckM at hp
      dsimp only at hp
      rw [hq1] at hp
      simp only [Bool.and_eq_true] at hp
      obtain ⟨⟨p1, p2⟩, p3⟩ := hp
      refine fin ((vs.map (s_v ρ)).toArray) _ (by rw [hrest]) (va_runS (As := vs.map (s_v ρ)) (rest := (st.drop n).map (s_v ρ)) (n := n) S hM ⟨⟨rfl, rfl, hfr, hlc, hpay, List.mem_cons_self, hcode, hini, o8, hpar n (of_decide_eq_true p3), hts _ (s_gw_mem (s_wAt_mem p1) rfl)⟩, hts _ (s_gw_mem (s_wAt_mem p2) rfl)⟩ ⟨s_Pc_blind, hpre⟩ rfl ?_ hl.1 ?_ (hroom _ h8) hdg hf)
      · rw [hvs, List.length_map, List.length_reverse, List.length_take]
        omega
      · show st.map (s_v ρ) = _
        rw [hvs, ← List.map_reverse, List.reverse_reverse, ← List.map_append, List.take_append_drop]
    · cases hw
  · -- special
    obtain ⟨-, hnl, h8, hvs, hrest⟩ := s_call_of hcall
    rcases hi with ⟨hw, -⟩ | ⟨hw, -⟩ | ⟨-, rfl⟩
    · cases hw
    · cases hw
    · obtain ⟨c1, c2⟩ := cut n a ha
      rw [hvs, c2] at hpre
      have hstk : st.map (s_v ρ) = ((st.take n).reverse.map (s_v ρ)).reverse ++ .ref (ρ a) :: (st.drop (n + 1)).map (s_v ρ) := by
        rw [← List.map_reverse, List.reverse_reverse]
        show _ = (st.take n).map (s_v ρ) ++ (s_v ρ (.ref a) :: (st.drop (n + 1)).map (s_v ρ))
        rw [← List.map_cons, ← List.map_append, ← c1]
      have hpre2 : ∀ U : State, U.heap = H → s.WarmedH U.vm → s_Pc base ρ D cid xs Ln vs h (Value.ref (ρ a) :: (st.take n).reverse.map (s_v ρ)).toArray U := by
        intro U hU hW
        have := hpre U hU hW
        rw [List.map_cons] at this
        rw [hvs, c2]
        exact this
      have hnn : ((st.take n).reverse.map (s_v ρ)).length = n := by
        rw [List.length_map, List.length_reverse, List.length_take]
        omega
      rcases hen3 with rfl | rfl
      · unfold s_ckM at hp
        dsimp only at hp
        rw [hq1] at hp
        simp only [Bool.and_eq_true] at hp
        obtain ⟨⟨⟨p1, p2⟩, p3⟩, p4⟩ := hp
        have hrt : q1.2.2.2.1 = none := (o6 p3).2
        have hcode2 := hcode
        rw [hrt] at hcode2
        refine fin ((Value.ref (ρ a) :: (st.take n).reverse.map (s_v ρ)).toArray) _ (by rw [hrest]) (va_runI (bytes := q1.2.1) (maxL := q1.2.2.1) (b := ρ a) (As := (st.take n).reverse.map (s_v ρ)) (rest := (st.drop (n + 1)).map (s_v ρ)) (n := n) S hM ⟨⟨rfl, rfl, hfr, hlc, hpay, by rw [← hrt]; exact List.mem_cons_self, hcode2, hini, o8, hpar n (of_decide_eq_true p4), hts _ (s_gw_mem (s_wAt_mem p1) rfl)⟩, (o6 p3).1, hts _ (s_gw_mem (s_wAt_mem p2) rfl)⟩ ⟨s_Pc_blind, hpre2⟩ rfl hnn hl.1 hstk (hroom _ h8) hdg hf)
      · unfold s_ckM at hp
        dsimp only at hp
        rw [hq1] at hp
        simp only [Bool.and_eq_true] at hp
        obtain ⟨⟨⟨p1, p2⟩, p3⟩, p4⟩ := hp
        have hrt : q1.2.2.2.1 = none := (o6 p3).2
        have hcode2 := hcode
        rw [hrt] at hcode2
        have hlink := va_Nw.use (A := args) rfl (hSR.2.1 _ (of_decide_eq_true p1))
        refine fin ((Value.ref (ρ a) :: (st.take n).reverse.map (s_v ρ)).toArray) _ (by rw [hrest]) (va_runIN (bytes := q1.2.1) (maxL := q1.2.2.1) (host := "CampAshes") (b := ρ a) (As := (st.take n).reverse.map (s_v ρ)) (rest := (st.drop (n + 1)).map (s_v ρ)) (n := n) S hM ⟨⟨⟨rfl, rfl, hfr, hlc, hpay, by rw [← hrt]; exact List.mem_cons_self⟩, hcode2, hini, o8, hpar n (of_decide_eq_true p4), hlink⟩, (o6 p3).1, hts _ (s_gw_mem (s_wAt_mem p2) rfl)⟩ ⟨s_Pc_blind, hpre2⟩ rfl hnn hl.1 hstk (hroom _ h8) hdg hf)
  · rw [s_ms_9999] at hq1
    cases hq1
set_option maxHeartbeats 1000000 in
/-- SOUNDNESS: what the pure machine's run comes to, the JVM comes to -/
theorem s_sound (l : Launch) : ∀ (f d : Nat), s_Snd l base ρ D cid xs Ln d f := by
  intro f
  induction f with
  | zero => intro d q pc L st h px r h' hr; rw [s_run] at hr; cases hr
  | succ f ih =>
    intro d q pc L st h px r h' hr p e R s m args below meth c Q n0 z0 G Gs H locs ls cx hal hn0 hz0 hR1 hR2 hc1 hc2 hH hS hl hL kx
    obtain ⟨i, len, tg, cp, hlo, hcp, hc⟩ := s_run_of hr
    have hmo0 := s_run_mono _ _ _ _ _ _ _ _ _ _ hr
    rcases hc with ⟨pc1, L1, st1, h1, hex, hmo, hr1⟩ | ⟨hex, hE, rfl, rfl⟩ | ⟨w, x, md, vs, rest, d1, q1, px1, v, h1, hex, hiv, rfl, hq1, hlen, hr1, hr2⟩
    · have hm1 := s_mo_of hmo
      have hm2 := s_run_mono _ _ _ _ _ _ _ _ _ _ hr1
      refine s_step cx hcp hH hS hl hL hal hn0 hz0 (by omega) (by omega) (by omega) (by omega) (by omega) (by omega) hlo hex ?_
      intro H1 locs1 ls1 hH1 hS1 hl1 hL1
      exact ih d q pc1 L1 st1 h1 px r h' hr1 p e R s m args below meth c Q n0 z0 G Gs H1 locs1 ls1 cx (by rw [hm1.2.2]; exact hal) (by omega) (by omega) hR1 hR2 hc1 hc2 hH1 hS1 hl1 hL1 kx
    · exact kx i len tg cp L st hlo hcp hE hex H locs ls hH hS hl hL
    · have hm1 := s_run_mono _ _ _ _ _ _ _ _ _ _ hr1
      have hm2 := s_run_mono _ _ _ _ _ _ _ _ _ _ hr2
      refine s_k_call cx hcp hH hS hl hL hal hn0 hz0 hR1 hR2 (by omega) (by omega) hlo hex hiv hq1 hlen (ih d1) hr1 ?_
      intro H1 locs1 ls1 hH1 hS1 hl1 hL1
      exact ih (d1 + 1) q (pc + 3) L (v.toList ++ rest) h1 px r h' hr2 p e R s m args below meth c Q n0 z0 G Gs H1 locs1 ls1 cx (by rw [hm1.2.2]; exact hal) (by omega) (by omega) hR1 hR2 hc1 hc2 hH1 hS1 hl1 hL1 kx
end SNM
