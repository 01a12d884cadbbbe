section SNH
variable {p : Program} {l : Launch} {e : Env} {R : Room} {s : State} {m : MethodId} {args : Array Value} {below : List Frame} {meth : Method} {c : Code} {Q : State → Prop}
variable {base : Nat} {ρ : Nat → Nat} {D : va_G} {cid : Nat → ClassId} {xs : Nat → Int32} {Ln : Nat}
/-- the place of a new cell, by counting -/
theorem s_fresh {h : s_H} {H1 : Heap} {q : Nat} {E : va_E} (hsz : H1.size ≤ base + h.1 + 1) (hP : va_P D s_cl2 (s_w base ρ cid h ++ [(q, E)]) H1) (hD : va_D (s_A base) (s_w base ρ cid h ++ [(q, E)])) : q = base + h.1 := by
  have hlen : (s_w base ρ cid h).length = h.1 := by unfold s_w; rw [List.length_map, List.length_range]
  have hlast : (s_w base ρ cid h ++ [(q, E)])[h.1]? = some (q, E) := by
    rw [List.getElem?_append_right (by omega), hlen, Nat.sub_self]; rfl
  have h1 : q < H1.size := (hP h.1 _ hlast).lt
  have h2 : base ≤ q := hD.2 h.1 _ hlast
  rcases Nat.lt_or_ge q (base + h.1) with h3 | h3
  · exfalso
    have h4 : q - base < h.1 := by omega
    have h5 : (s_w base ρ cid h ++ [(q, E)])[q - base]? = some (base + (q - base), s_E ρ cid h (q - base)) := by
      rw [List.getElem?_append_left (by omega), s_w_at h4]
    have := hD.1 (q - base) h.1 _ _ h5 hlast (by show base + (q - base) = q; omega)
    omega
  · omega
theorem s_mk_of {h : s_H} {k n : Nat} (hm : s_mk h k n = true) : h.2.2.1 = true ∧ s_Gs[h.1]? = some (k, n) := by
  unfold s_mk at hm
  rw [Bool.and_eq_true] at hm
  refine ⟨hm.1, ?_⟩
  have h2 := hm.2
  cases hs : s_Gs[h.1]? with
  | none => rw [hs] at h2; cases h2
  | some x =>
    obtain ⟨j, y⟩ := x
    rw [hs] at h2
    simp only [Bool.and_eq_true] at h2
    rw [Nat.eq_of_beq_eq_true h2.1, Nat.eq_of_beq_eq_true h2.2]
theorem s_Gs_len {a k n : Nat} (h : s_Gs[a]? = some (k, n)) : n ≤ 1000 := by
  have : ∀ z ∈ s_Gs, z.2 ≤ 1000 := by decide +kernel
  exact this _ (List.mem_of_getElem? h)
theorem s_HR_new {h : s_H} {H H1 : Heap} {k n sl : Nat} {E : va_E} (hH : s_HR base ρ D cid xs Ln h H) (hg : s_Gs[h.1]? = some (k, n)) (hE : s_E ρ cid (s_new h sl) h.1 = E) (hP : va_P D s_cl2 (s_w base ρ cid h ++ [(base + h.1, E)]) H1) : s_HR base ρ D cid xs Ln (s_new h sl) H1 := by
  have h153 := s_Gs_lt hg
  refine ⟨?_, fun hf => ?_⟩
  · rw [s_w_new, hE]; exact hP
  · show s_cl0 h.2.2.2.1 h.1 0 1200 = xs ∧ s_cl0 h.2.2.2.1 h.1 0 1201 0 = _
    rw [s_cl0_n _ _ (by omega), s_cl0_n _ _ (by omega)]
    exact hH.2 hf
theorem s_RA_eq {U : State} {a b : ClassId} {ty : FieldType} (h1 : va_RA U a ty) (h2 : va_RA U b ty) : a = b := by
  cases ty with
  | object C =>
    obtain ⟨_, _, -, -, -, e1⟩ := h1
    obtain ⟨_, _, -, -, -, e2⟩ := h2
    exact Option.some.inj (e1.symm.trans e2)
  | _ => exact Option.some.inj ((show U.vm.findClass _ = some a from h1).symm.trans h2)
set_option maxHeartbeats 1000000 in
/-- a new row -/
theorem s_k_mka {cp : s_C} {q : s_M} {n0 z0 G Gs pc pc1 x : Nat} {L L1 : s_L} {st st1 : List Value} {h h1 : s_H} {H : Heap} {locs : List Loc} {ls : Array Slot} {i : Instr} {len : Nat}
    (cx : s_Cx p s m args meth c base ρ D cid xs Ln q) (hcp : s_cps[q.2.2.2.2.1]? = some cp) (hH : s_HR base ρ D cid xs Ln h H) (hS : va_S (s_A base) s.heap H locs) (hl : lv_has ls q.2.2.1 (s_as ρ 0 L)) (hL : L.length = q.2.2.1)
    (hal : h.2.2.1 = true → s.heap.size = base + n0 ∧ G = 0) (hn0 : n0 ≤ h.1) (hz0 : z0 ≤ h.2.1) (hc1 : h1.1 - n0 + G ≤ R.cells) (hc2 : h1.2.1 - z0 + Gs ≤ R.slots)
    (hdg : decode q.2.1 pc = .ok (i, len))
    (hex : (∃ t, i = .newarray t ∧ len = 2 ∧ s_mka (pc + 2) (s_aty t) L st h = some (.inl (pc1, L1, st1, h1))) ∨ (∃ cc, i = .anewarray x ∧ len = 3 ∧ s_look cp.2.2.2.1 x = some cc ∧ s_mka (pc + 3) (s_rk cc) L st h = some (.inl (pc1, L1, st1, h1))))
    (kk : s_K p l e R s m args below meth c Q base ρ D cid xs Ln q n0 z0 G Gs pc1 L1 st1 h1) : W p l e R s m args below meth c H locs (h.1 - n0 + G) (h.2.1 - z0 + Gs) Q (F0 m pc ls (st.map (s_v ρ))) := by
  obtain ⟨hx, hb, hml, hown, hts, hin, hSR, hρ, hinj, hdc, hck⟩ := cx
  have hD : va_D (s_A base) (s_w base ρ cid h) := s_w_D
  have hA : ∀ q : Nat, s.heap.size ≤ q → s_A base q := fun q hq => Nat.le_trans hSR.2.2.2.2.2.2.2.2 hq
  have fin : ∀ (k pcn : Nat) (t0 : Nat) (ty : FieldType) (a0 : (Nat → Int32) ⊕ (Nat → Int64) ⊕ (Nat → UInt32) ⊕ (Nat → UInt64) ⊕ (Nat → Option Nat)) (n : Int32) (r : List Value), s_mk h k n.toNatClampNeg = true → 100 ≤ k → (s_tys cid)[t0]? = some (cid k, ty) → s_ar ρ (s_new h n.toNatClampNeg) h.1 k = a0 → s_K p l e R s m args below meth c Q base ρ D cid xs Ln q n0 z0 G Gs pcn L (.ref h.1 :: r) (s_new h n.toNatClampNeg) →
      ∀ (qq : Nat) (cA : ClassId) (H1 : Heap), va_K D s_cl2 (s_tys cid ++ [(cA, ty)]) s → va_P D s_cl2 (s_w base ρ cid h ++ [(qq, .inl (cA, n.toNatClampNeg, a0))]) H1 → va_D (s_A base) (s_w base ρ cid h ++ [(qq, .inl (cA, n.toNatClampNeg, a0))]) → va_S (s_A base) s.heap H1 locs →
      W p l e R s m args below meth c H1 locs (h.1 - n0 + G + 1) (h.2.1 - z0 + Gs + n.toNatClampNeg) Q (F0 m pcn ls (.ref qq :: r.map (s_v ρ))) := by
    intro k pcn t0 ty a0 n r hm hk ht ha0 kk2 qq cA H1 hK2 hP2 hD2 hS2
    obtain ⟨hal1, hgs⟩ := s_mk_of hm
    obtain ⟨hs0, hG⟩ := hal hal1
    refine s_Wsz (fun hsz => ?_)
    have hq : qq = base + h.1 := s_fresh (by rw [hs0] at hsz; omega) hP2 hD2
    have hcA : cA = cid k := by
      have e1 := (hSR.1.2 t0 _ ht).2
      have e2 : va_RA s cA ty := (hK2.2 7 (cA, ty) rfl).2
      exact s_RA_eq e2 e1
    subst hq hcA
    have h153 := s_Gs_lt hgs
    have hE : s_E ρ cid (s_new h n.toNatClampNeg) h.1 = .inl (cid k, n.toNatClampNeg, a0) := by
      rw [s_E_arr hgs hk, ha0]
    have := kk2 H1 locs ls (s_HR_new hH hgs hE hP2) hS2 hl hL
    have e1 : (s_new h n.toNatClampNeg).1 - n0 + G = h.1 - n0 + G + 1 := by show h.1 + 1 - n0 + G = _; omega
    have e2 : (s_new h n.toNatClampNeg).2.1 - z0 + Gs = h.2.1 - z0 + Gs + n.toNatClampNeg := by show h.2.1 + _ - z0 + Gs = _; omega
    rw [e1, e2, List.map_cons] at this
    have e3 : s_v ρ (.ref h.1) = .ref (base + h.1) := by show Value.ref (ρ h.1) = _; rw [hρ h.1 (by omega)]
    rw [e3] at this
    exact this
  have ar0 : ∀ n k, k ≠ 102 → k < 104 → s_ar ρ (s_new h n) h.1 k = .inl (fun _ => 0) := by
    intro n k h1 h2
    unfold s_ar
    rw [if_neg h1, if_neg (by omega)]
    have : (s_new h n).2.2.2.1 h.1 = fun _ => 0 := s_cl0_s _ _ _
    rw [this]
  rcases hex with ⟨t, rfl, rfl, hex⟩ | ⟨cc, rfl, rfl, hlo, hex⟩
  · obtain ⟨n, r, rfl, hex2⟩ := s_i1_of hex
    clear hex
    split at hex2
    · cases hex2
    · rename_i hneg
      cases hm : s_mk h (s_aty t) n.toNatClampNeg with
      | false => rw [hm] at hex2; cases hex2
      | true =>
        rw [hm] at hex2
        obtain ⟨rfl, rfl, rfl, rfl⟩ := s_nx_of hex2
        obtain ⟨hal1, hgs⟩ := s_mk_of hm
        have hle := s_Gs_len hgs
        have c1 : h.1 - n0 + G + 1 ≤ R.cells := by
          have : h.1 + 1 - n0 + G ≤ R.cells := hc1
          omega
        have c2 : h.2.1 - z0 + Gs + n.toNatClampNeg ≤ R.slots := by
          have : h.2.1 + n.toNatClampNeg - z0 + Gs ≤ R.slots := hc2
          omega
        cases t with
        | byte => exact va_newa (atype := .byte) (ty := .byte) (a0 := (n.toNatClampNeg, .inl (fun _ => 0))) hx hb (hts _ (s_gw_mem s_wa100 rfl)) rfl hSR.1 hH.1 hD hS hA (fun _ => rfl) hneg rfl (by show n.toNatClampNeg * 1 ≤ _; omega) c1 c2 hdg (fin 100 _ 0 .byte _ n r hm (by omega) rfl (ar0 _ _ (by omega) (by omega)) kk)
        | int => exact va_newa (atype := .int) (ty := .int) (a0 := (n.toNatClampNeg, .inl (fun _ => 0))) hx hb (hts _ (s_gw_mem s_wa101 rfl)) rfl hSR.1 hH.1 hD hS hA (fun _ => rfl) hneg rfl (by show n.toNatClampNeg * 4 ≤ _; omega) c1 c2 hdg (fin 101 _ 1 .int _ n r hm (by omega) rfl (ar0 _ _ (by omega) (by omega)) kk)
        | long =>
          have arL : s_ar ρ (s_new h n.toNatClampNeg) h.1 102 = .inr (.inl (fun _ => 0)) := by
            unfold s_ar
            rw [if_pos rfl]
            have : (s_new h n.toNatClampNeg).2.2.2.2.1 h.1 = fun _ => 0 := s_cl0_s _ _ _
            rw [this]
          exact va_newa (atype := .long) (ty := .long) (a0 := (n.toNatClampNeg, .inr (.inl (fun _ => 0)))) hx hb (hts _ (s_gw_mem s_wa102 rfl)) rfl hSR.1 hH.1 hD hS hA (fun _ => rfl) hneg rfl (by show n.toNatClampNeg * 8 ≤ _; omega) c1 c2 hdg (fin 102 _ 2 .long _ n r hm (by omega) rfl arL kk)
        | boolean => exact va_newa (atype := .boolean) (ty := .boolean) (a0 := (n.toNatClampNeg, .inl (fun _ => 0))) hx hb (hts _ (s_gw_mem s_wa103 rfl)) rfl hSR.1 hH.1 hD hS hA (fun _ => rfl) hneg rfl (by show n.toNatClampNeg * 1 ≤ _; omega) c1 c2 hdg (fin 103 _ 3 .boolean _ n r hm (by omega) rfl (ar0 _ _ (by omega) (by omega)) kk)
        | _ =>
          exfalso
          have : ∀ z ∈ s_Gs, z.1 ≠ 99 := by decide +kernel
          exact this _ (List.mem_of_getElem? hgs) rfl
  · obtain ⟨n, r, rfl, hex2⟩ := s_i1_of hex
    clear hex
    split at hex2
    · cases hex2
    · rename_i hneg
      cases hm : s_mk h (s_rk cc) n.toNatClampNeg with
      | false => rw [hm] at hex2; cases hex2
      | true =>
        rw [hm] at hex2
        obtain ⟨rfl, rfl, rfl, rfl⟩ := s_nx_of hex2
        obtain ⟨hal1, hgs⟩ := s_mk_of hm
        have hle := s_Gs_len hgs
        have c1 : h.1 - n0 + G + 1 ≤ R.cells := by
          have : h.1 + 1 - n0 + G ≤ R.cells := hc1
          omega
        have c2 : h.2.1 - z0 + Gs + n.toNatClampNeg ≤ R.slots := by
          have : h.2.1 + n.toNatClampNeg - z0 + Gs ≤ R.slots := hc2
          omega
        obtain ⟨pp, hp⟩ := (s_okPs _ cp hcp).2.2.2.1 _ (s_look_mem _ _ _ hlo)
        unfold s_ckC at hp
        rw [Bool.and_eq_true] at hp
        have hlink := hts _ (s_gw_mem (s_wAt_mem hp.2) rfl)
        have arR : ∀ k, 104 ≤ k → s_ar ρ (s_new h n.toNatClampNeg) h.1 k = .inr (.inr (.inr (.inr (fun _ => none)))) := by
          intro k hk
          rw [s_ar_R hk]
          have : (s_new h n.toNatClampNeg).2.2.2.2.2 h.1 = fun _ => none := s_cl0_s _ _ _
          rw [this]
          rfl
        have h3 : cc = 10 ∨ cc = 8 ∨ cc = 5 := by
          unfold s_rk at hgs
          split at hgs
          · exact Or.inl rfl
          · exact Or.inr (Or.inl rfl)
          · exact Or.inr (Or.inr rfl)
          · exfalso
            have : ∀ z ∈ s_Gs, z.1 ≠ 99 := by decide +kernel
            exact this _ (List.mem_of_getElem? hgs) rfl
        rcases h3 with rfl | rfl | rfl
        · exact va_newq hx hb hown hlink hSR.2.2.1.1 hSR.1 hH.1 hD hS hA hneg rfl (by omega) c1 c2 hdg (fin 104 _ 4 (.object RX10) _ n r hm (by omega) rfl (arR 104 (by omega)) kk)
        · exact va_newq hx hb hown hlink hSR.2.2.1.2.1 hSR.1 hH.1 hD hS hA hneg rfl (by omega) c1 c2 hdg (fin 105 _ 5 (.object RX8) _ n r hm (by omega) rfl (arR 105 (by omega)) kk)
        · exact va_newq hx hb hown hlink hSR.2.2.1.2.2 hSR.1 hH.1 hD hS hA hneg rfl (by omega) c1 c2 hdg (fin 106 _ 6 (.object RX5) _ n r hm (by omega) rfl (arR 106 (by omega)) kk)
set_option maxHeartbeats 1000000 in
/-- a new object -/
theorem s_k_mko {cp : s_C} {q : s_M} {n0 z0 G Gs pc pc1 x cc : Nat} {L L1 : s_L} {st st1 : List Value} {h h1 : s_H} {H : Heap} {locs : List Loc} {ls : Array Slot}
    (cx : s_Cx p s m args meth c base ρ D cid xs Ln q) (hcp : s_cps[q.2.2.2.2.1]? = some cp) (hH : s_HR base ρ D cid xs Ln h H) (hS : va_S (s_A base) s.heap H locs) (hl : lv_has ls q.2.2.1 (s_as ρ 0 L)) (hL : L.length = q.2.2.1)
    (hal : h.2.2.1 = true → s.heap.size = base + n0 ∧ G = 0) (hn0 : n0 ≤ h.1) (hz0 : z0 ≤ h.2.1) (hc1 : h1.1 - n0 + G ≤ R.cells) (hc2 : h1.2.1 - z0 + Gs ≤ R.slots)
    (hdg : decode q.2.1 pc = .ok (.new x, 3)) (hlo : s_look cp.2.2.2.1 x = some cc) (hex : s_mko (pc + 3) cc L st h = some (.inl (pc1, L1, st1, h1)))
    (kk : s_K p l e R s m args below meth c Q base ρ D cid xs Ln q n0 z0 G Gs pc1 L1 st1 h1) : W p l e R s m args below meth c H locs (h.1 - n0 + G) (h.2.1 - z0 + Gs) Q (F0 m pc ls (st.map (s_v ρ))) := by
  obtain ⟨hx, hb, hml, hown, hts, hin, hSR, hρ, hinj, hdc, hck⟩ := cx
  have hD : va_D (s_A base) (s_w base ρ cid h) := s_w_D
  have hA : ∀ q : Nat, s.heap.size ≤ q → s_A base q := fun q hq => Nat.le_trans hSR.2.2.2.2.2.2.2.2 hq
  unfold s_mko at hex
  cases h10 : Nat.beq cc 10 with
  | true => rw [h10] at hex; cases hex
  | false =>
    rw [h10] at hex
    dsimp only at hex
    have hne : cc ≠ 10 := fun q => by rw [q] at h10; cases h10
    cases hf : s_fts[cc]? with
    | none => rw [hf] at hex; cases hex
    | some lf =>
      rw [hf] at hex
      dsimp only at hex
      cases hm : s_mk h cc 0 with
      | false => rw [hm] at hex; cases hex
      | true =>
        rw [hm] at hex
        obtain ⟨rfl, rfl, rfl, rfl⟩ := s_nx_of hex
        obtain ⟨hal1, hgs⟩ := s_mk_of hm
        obtain ⟨pp, hp⟩ := (s_okPs _ cp hcp).2.2.2.1 _ (s_look_mem _ _ _ hlo)
        unfold s_ckC at hp
        rw [Bool.and_eq_true] at hp
        have hlink := hts _ (s_gw_mem (s_wAt_mem hp.2) rfl)
        have h13 : cc < 13 := s_blt hp.1
        obtain ⟨o1, o2, o3, o4, o5, o6, o7, o8, o9, o10⟩ := s_okC cc h13 hne
        have hnf : s_nf cc = lf.length := by unfold s_nf; rw [hf]
        have c1 : h.1 - n0 + G + 1 ≤ R.cells := by
          have : h.1 + 1 - n0 + G ≤ R.cells := hc1
          omega
        have c2 : h.2.1 - z0 + Gs + s_nf cc ≤ R.slots := by
          have : h.2.1 + lf.length - z0 + Gs ≤ R.slots := hc2
          rw [hnf]; omega
        refine va_new (fs := s_fs ρ (s_new h lf.length) h.1 cc) hx hb hts (fun w hw => s_gw_mem (o3 w hw).1 (o3 w hw).2) (s_tyx cc) o4 hown hlink (hts _ (s_gw_mem o9 rfl)) (hts _ (s_gw_mem o10 rfl)) hSR.1 hH.1 hD hS hA o1 ?_ c1 c2 hdg ?_
        · intro j hj
          unfold vp_V
          rw [List.getD_eq_getElem?_getD, s_fs_at hj]
          have ht := o6 j hj
          have z1 : (s_new h lf.length).2.2.2.1 h.1 = fun _ => 0 := s_cl0_s _ _ _
          have z2 : (s_new h lf.length).2.2.2.2.1 h.1 = fun _ => 0 := s_cl0_s _ _ _
          have z3 : (s_new h lf.length).2.2.2.2.2 h.1 = fun _ => none := s_cl0_s _ _ _
          show defaultValue (s_tyx cc j) = s_v ρ (s_pv (s_new h lf.length) (s_ft cc j) h.1 j)
          rw [← ht]
          cases hty : s_tyx cc j with
          | int => show _ = s_v ρ (.int ((s_new h lf.length).2.2.2.1 h.1 j)); rw [z1]; rfl
          | boolean => show _ = s_v ρ (.int ((s_new h lf.length).2.2.2.1 h.1 j)); rw [z1]; rfl
          | long => show _ = s_v ρ (.long ((s_new h lf.length).2.2.2.2.1 h.1 j)); rw [z2]; rfl
          | object C => show _ = s_v ρ (va_rf ((s_new h lf.length).2.2.2.2.2 h.1 j)); rw [z3]; rfl
          | array u => show _ = s_v ρ (va_rf ((s_new h lf.length).2.2.2.2.2 h.1 j)); rw [z3]; rfl
          | _ =>
            exfalso
            rw [hty] at ht
            have h4 : ∀ c, c < 13 → ∀ k, k < s_nf c → s_ft c k ≠ 8 := by decide +kernel
            exact h4 cc h13 j hj ht.symm
        · intro qq H1 hP2 hD2 hS2
          obtain ⟨hs0, hG⟩ := hal hal1
          refine s_Wsz (fun hsz => ?_)
          have hq : qq = base + h.1 := s_fresh (by rw [hs0] at hsz; omega) hP2 hD2
          subst hq
          have h153 := s_Gs_lt hgs
          have hE : s_E ρ cid (s_new h lf.length) h.1 = .inr (cc, s_fs ρ (s_new h lf.length) h.1 cc) := by
            unfold s_E
            rw [hgs]
            simp only [if_pos (show cc < 100 by omega)]
          have := kk H1 locs ls (s_HR_new hH hgs hE hP2) hS2 hl hL
          have e1 : (s_new h lf.length).1 - n0 + G = h.1 - n0 + G + 1 := by show h.1 + 1 - n0 + G = _; omega
          have e2 : (s_new h lf.length).2.1 - z0 + Gs = h.2.1 - z0 + Gs + s_nf cc := by show h.2.1 + _ - z0 + Gs = _; rw [hnf]; omega
          rw [e1, e2, List.map_cons] at this
          have e3 : s_v ρ (.ref h.1) = .ref (base + h.1) := by show Value.ref (ρ h.1) = _; rw [hρ h.1 (by omega)]
          rw [e3] at this
          exact this
end SNH
