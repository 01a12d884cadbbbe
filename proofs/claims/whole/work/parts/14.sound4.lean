section SNG
variable {p : Program} {l : Launch} {e : Env} {R : Room} {s : State} {m : MethodId} {args : Array Value} {below : List Frame} {meth : Method} {c : Code} {Q : State → Prop}
variable {base : Nat} {ρ : Nat → Nat} {D : va_G} {cid : Nat → ClassId} {xs : Nat → Int32} {Ln : Nat}
theorem s_Any_kept {E : String} {s : State} {H H1 : Heap} {a : Nat} (h : va_Any E s H a) (hq : H1[a]? = H[a]?) : va_Any E s H1 a := by
  obtain ⟨cell, h1, h2⟩ := h
  exact ⟨cell, by rw [hq]; exact h1, h2⟩
theorem s_ar_R {h : s_H} {a k : Nat} (hk : 104 ≤ k) : s_ar ρ h a k = .inr (.inr (.inr (.inr (fun j => (h.2.2.2.2.2 a j).map ρ)))) := by
  unfold s_ar
  rw [if_neg (by omega), if_pos hk]
theorem s_HR_R {h : s_H} {H H1 : Heap} {a k j : Nat} {v : Option Nat} (hH : s_HR base ρ D cid xs Ln h H) (hg : s_isG h a k = true) (hk : 104 ≤ k) (hP : va_P D s_cl2 ((s_w base ρ cid h).set a (base + a, .inl (cid k, s_len a, .inr (.inr (.inr (.inr (va_up (fun j => (h.2.2.2.2.2 a j).map ρ) j (v.map ρ)))))))) H1) : s_HR base ρ D cid xs Ln (s_wR h a j v) H1 := by
  refine s_HR_set hH (s_isG_of hg).1 (s_isG_lt hg) rfl rfl ?_ (fun b hb => s_wR_o h _ v hb) hP
  rw [s_E_arr (s_isG_of hg).2 (by omega), s_ar_R hk]
  have e1 : (s_wR h a j v).2.2.2.2.2 a = va_up (h.2.2.2.2.2 a) j v := s_up_s _ _ _ _
  rw [e1]
  have e2 : (fun z => (va_up (h.2.2.2.2.2 a) j v z).map ρ) = va_up (fun z => (h.2.2.2.2.2 a z).map ρ) j (v.map ρ) := by
    funext z
    unfold va_up
    split <;> rfl
  rw [e2]
set_option maxHeartbeats 1000000 in
/-- a reference into a row -/
theorem s_k_aast {q : s_M} {n0 z0 G Gs pc pc1 : Nat} {L L1 : s_L} {st st1 : List Value} {h h1 : s_H} {H : Heap} {locs : List Loc} {ls : Array Slot}
    (cx : s_Cx p s m args meth c base ρ D cid xs Ln q) (hH : s_HR base ρ D cid xs Ln h H) (hS : va_S (s_A base) s.heap H locs) (hl : lv_has ls q.2.2.1 (s_as ρ 0 L)) (hL : L.length = q.2.2.1)
    (hdg : decode q.2.1 pc = .ok (.aastore, 1)) (hex : s_aast (pc + 1) L st h = some (.inl (pc1, L1, st1, h1)))
    (kk : s_K p l e R s m args below meth c Q base ρ D cid xs Ln q n0 z0 G Gs pc1 L1 st1 h1) : W p l e R s m args below meth c H locs (h.1 - n0 + G) (h.2.1 - z0 + Gs) Q (F0 m pc ls (st.map (s_v ρ))) := by
  obtain ⟨hx, hb, hml, hown, hts, hin, hSR, hρ, hinj, hdc, hck⟩ := cx
  have hD : va_D (s_A base) (s_w base ρ cid h) := s_w_D
  unfold s_aast at hex
  split at hex
  · rename_i v i a r
    cases hor : (s_isG h a 104 || s_isG h a 105 || s_isG h a 106) with
    | false => rw [hor] at hex; cases hex
    | true =>
      rw [hor] at hex
      dsimp only at hex
      split at hex
      · cases hex
      · rename_i hi
        have kind : ∃ (k t0 : Nat) (C : String), s_isG h a k = true ∧ 104 ≤ k ∧ (s_tys cid)[t0]? = some (cid k, FieldType.object C) := by
          simp only [Bool.or_eq_true] at hor
          rcases hor with (g | g) | g
          · exact ⟨104, 4, _, g, by omega, rfl⟩
          · exact ⟨105, 5, _, g, by omega, rfl⟩
          · exact ⟨106, 6, _, g, by omega, rfl⟩
        split at hex
        · obtain ⟨rfl, rfl, rfl, rfl⟩ := s_nx_of hex
          obtain ⟨k, t0, C, hg, hk, ht⟩ := kind
          have hρa : ρ a = base + a := hρ a (s_isG_lt hg)
          have he := s_arr_at (base := base) (ρ := ρ) (cid := cid) hg (by omega)
          rw [s_ar_R hk] at he
          show W p l e R s m args below meth c H locs (_ - n0 + G) (_ - z0 + Gs) Q (F0 m pc ls (.null :: .int i :: .ref (ρ a) :: st1.map (s_v ρ)))
          rw [hρa]
          exact va_astqN hx hb hSR.1 hH.1 hD hS a t0 he ht hi hdg (fun H1 locs1 hP _ hS1 => kk H1 locs1 ls (s_HR_R (v := none) hH hg hk hP) hS1 hl hL)
        · rename_i b
          cases hok : s_okR h a b with
          | false => rw [hok] at hex; cases hex
          | true =>
            rw [hok] at hex
            dsimp only at hex
            obtain ⟨rfl, rfl, rfl, rfl⟩ := s_nx_of hex
            unfold s_okR at hok
            cases g4 : s_isG h a 104 with
            | true =>
              rw [g4] at hok
              simp only [Bool.and_eq_true] at hok
              have hb1 := Nat.le_of_ble_eq_true hok.1
              have hb2 := s_blt hok.2
              have hρa : ρ a = base + a := hρ a (s_isG_lt g4)
              have he := s_arr_at (base := base) (ρ := ρ) (cid := cid) g4 (by omega)
              rw [s_ar_R (by omega)] at he
              show W p l e R s m args below meth c H locs (_ - n0 + G) (_ - z0 + Gs) Q (F0 m pc ls (.ref (ρ b) :: .int i :: .ref (ρ a) :: st1.map (s_v ρ)))
              rw [hρa]
              obtain ⟨j, rfl⟩ := Nat.exists_eq_add_of_le hb1
              obtain ⟨-, -, hO, hAny⟩ := hSR.2.2.2.2.1 j (by omega)
              obtain ⟨cell, w1, w2, w3, w4⟩ := hO
              have hq : H[ρ (1000 + j)]? = s.heap[ρ (1000 + j)]? := hS.2.1 _ (Array.getElem?_eq_some_iff.mp w1).1 w4
              exact va_astqM hx hb hSR.1 hH.1 hD hS a 4 he rfl (s_Any_kept hAny hq) hi hdg (fun H1 locs1 hP _ hS1 => kk H1 locs1 ls (s_HR_R (v := some (1000 + j)) hH g4 (by omega) hP) hS1 hl hL)
            | false =>
              rw [g4] at hok
              simp only [Bool.or_eq_true, Bool.and_eq_true] at hok
              have two : ∀ (k t0 ci : Nat) (C : String) (T : u_T), s_isG h a k = true → 104 ≤ k → (s_tys cid)[t0]? = some (cid k, FieldType.object C) → s_isG h b ci = true → ci < 100 → s_cl2[ci]? = some (C, T, s_nf ci) → W p l e R s m args below meth c H locs (h.1 - n0 + G) (h.2.1 - z0 + Gs) Q (F0 m pc ls ((Value.ref b :: Value.int i :: Value.ref a :: st1).map (s_v ρ))) := by
                intro k t0 ci C T hg hk ht hgb hci hc
                have hρa : ρ a = base + a := hρ a (s_isG_lt hg)
                have hρb : ρ b = base + b := hρ b (s_isG_lt hgb)
                have he := s_arr_at (base := base) (ρ := ρ) (cid := cid) hg (by omega)
                rw [s_ar_R hk] at he
                have heb := s_w_at (base := base) (ρ := ρ) (cid := cid) (s_isG_of hgb).1
                rw [s_E_obj hgb hci] at heb
                show W p l e R s m args below meth c H locs (_ - n0 + G) (_ - z0 + Gs) Q (F0 m pc ls (.ref (ρ b) :: .int i :: .ref (ρ a) :: st1.map (s_v ρ)))
                rw [hρa, hρb]
                refine va_astq hx hb hSR.1 hH.1 hD hS a t0 b ci he (r := (C, T, s_nf ci)) ht heb hc hi hdg (fun H1 locs1 hP _ hS1 => kk H1 locs1 ls (s_HR_R (v := some b) hH hg hk ?_) hS1 hl hL)
                show va_P D s_cl2 ((s_w base ρ cid h).set a (base + a, .inl (cid k, s_len a, .inr (.inr (.inr (.inr (va_up (fun j => (h.2.2.2.2.2 a j).map ρ) i.toNatClampNeg (some (ρ b)))))))) ) H1
                rw [hρb]
                exact hP
              rcases hok with ⟨g5, gb⟩ | ⟨g6, gb⟩
              · exact two 105 5 8 _ _ g5 (by omega) rfl gb (by omega) rfl
              · exact two 106 6 5 _ _ g6 (by omega) rfl gb (by omega) rfl
        · cases hex
  · cases hex
set_option maxHeartbeats 1000000 in
theorem s_k_alen {q : s_M} {n0 z0 G Gs pc pc1 : Nat} {L L1 : s_L} {st st1 : List Value} {h h1 : s_H} {H : Heap} {locs : List Loc} {ls : Array Slot}
    (cx : s_Cx p s m args meth c base ρ D cid xs Ln q) (hH : s_HR base ρ D cid xs Ln h H) (hS : va_S (s_A base) s.heap H locs) (hl : lv_has ls q.2.2.1 (s_as ρ 0 L)) (hL : L.length = q.2.2.1)
    (hdg : decode q.2.1 pc = .ok (.arraylength, 1)) (hex : s_alen (pc + 1) L st h = some (.inl (pc1, L1, st1, h1)))
    (kk : s_K p l e R s m args below meth c Q base ρ D cid xs Ln q n0 z0 G Gs pc1 L1 st1 h1) : W p l e R s m args below meth c H locs (h.1 - n0 + G) (h.2.1 - z0 + Gs) Q (F0 m pc ls (st.map (s_v ρ))) := by
  obtain ⟨hx, hb, hml, hown, hts, hin, hSR, hρ, hinj, hdc, hck⟩ := cx
  obtain ⟨a, r, rfl, hex2⟩ := s_r1_of hex
  clear hex
  cases h12 : (Nat.beq a 1200 && !h.2.2.1) with
  | true =>
    rw [h12] at hex2
    rw [Bool.and_eq_true, Bool.not_eq_true'] at h12
    have ea := Nat.eq_of_beq_eq_true h12.1
    have hsc := hH.2 h12.2
    subst ea
    obtain ⟨rfl, rfl, rfl, rfl⟩ := s_nx_of hex2
    obtain ⟨x1, x2, x3, x4⟩ := hSR.2.2.2.2.2.2.1
    refine va_slen hx hb x1 x3 x2 hS hdg ?_
    have := kk H locs ls hH hS hl hL
    rw [hsc.2] at this
    exact this
  | false =>
    rw [h12] at hex2
    dsimp only at hex2
    cases h11 : Nat.beq a 1100 with
    | true =>
      rw [h11] at hex2
      have ea := Nat.eq_of_beq_eq_true h11
      subst ea
      obtain ⟨rfl, rfl, rfl, rfl⟩ := s_nx_of hex2
      exact va_tlen hx hb hSR.2.2.2.2.2.1 hS rfl hdg (kk H locs ls hH hS hl hL)
    | false =>
      rw [h11] at hex2
      dsimp only at hex2
      cases hlt : Nat.blt a h.1 with
      | false => rw [hlt] at hex2; cases hex2
      | true =>
        rw [hlt] at hex2
        dsimp only at hex2
        cases hgs : s_Gs[a]? with
        | none => rw [hgs] at hex2; cases hex2
        | some x =>
          obtain ⟨k, n⟩ := x
          rw [hgs] at hex2
          dsimp only at hex2
          cases hk : Nat.ble 100 k with
          | false => rw [hk] at hex2; cases hex2
          | true =>
            rw [hk] at hex2
            obtain ⟨rfl, rfl, rfl, rfl⟩ := s_nx_of hex2
            have hk2 : 100 ≤ k := Nat.le_of_ble_eq_true hk
            have ha : a < h1.1 := s_blt hlt
            have h153 := s_Gs_lt hgs
            have hρa : ρ a = base + a := hρ a (by omega)
            have he := s_w_at (base := base) (ρ := ρ) (cid := cid) ha
            rw [s_E_arr hgs hk2] at he
            have hk7 : ∀ z ∈ s_Gs, z.1 < 107 := by decide +kernel
            have hk3 := hk7 _ (List.mem_of_getElem? hgs)
            have ht : ∃ ty, (s_tys cid)[k - 100]? = some (cid k, ty) := by
              have : k = 100 ∨ k = 101 ∨ k = 102 ∨ k = 103 ∨ k = 104 ∨ k = 105 ∨ k = 106 := by
                have : k < 107 := hk3
                omega
              rcases this with rfl | rfl | rfl | rfl | rfl | rfl | rfl <;> exact ⟨_, rfl⟩
            obtain ⟨ty, ht⟩ := ht
            show W p l e R s m args below meth c H locs (_ - n0 + G) (_ - z0 + Gs) Q (F0 m pc ls (.ref (ρ a) :: r.map (s_v ρ)))
            rw [hρa]
            exact va_alen hx hb hSR.1 hH.1 a (k - 100) he ht rfl hdg (kk H locs ls hH hS hl hL)
/-- statics and constants -/
theorem s_k_gets {cp : s_C} {q : s_M} {n0 z0 G Gs pc x : Nat} {L : s_L} {st : List Value} {h : s_H} {H : Heap} {locs : List Loc} {ls : Array Slot} {v : Value}
    (cx : s_Cx p s m args meth c base ρ D cid xs Ln q) (hcp : s_cps[q.2.2.2.2.1]? = some cp) (hH : s_HR base ρ D cid xs Ln h H) (hS : va_S (s_A base) s.heap H locs) (hl : lv_has ls q.2.2.1 (s_as ρ 0 L)) (hL : L.length = q.2.2.1)
    (hdg : decode q.2.1 pc = .ok (.getstatic x, 3)) (hlo : s_look cp.2.1 x = some v)
    (kk : s_K p l e R s m args below meth c Q base ρ D cid xs Ln q n0 z0 G Gs (pc + 3) L (v :: st) h) : W p l e R s m args below meth c H locs (h.1 - n0 + G) (h.2.1 - z0 + Gs) Q (F0 m pc ls (st.map (s_v ρ))) := by
  obtain ⟨hx, hb, hml, hown, hts, hin, hSR, hρ, hinj, hdc, hck⟩ := cx
  obtain ⟨pp, hp⟩ := (s_okPs _ cp hcp).2.1 _ (s_look_mem _ _ _ hlo)
  unfold s_ckS at hp
  dsimp only at hp
  cases v with
  | ref a =>
    dsimp only at hp
    cases h11 : Nat.beq a 1100 with
    | true =>
      rw [h11] at hp
      have ea := Nat.eq_of_beq_eq_true h11
      subst ea
      exact va_gets hx hb hSR.2.2.2.1.2 hS hown (hts _ (s_gw_mem (s_wAt_mem hp) rfl)) (fun _ h => h) hdg (kk H locs ls hH hS hl hL)
    | false =>
      rw [h11] at hp
      simp only [Bool.and_eq_true] at hp
      have h1 := Nat.le_of_ble_eq_true hp.1.1
      have h2 := s_blt hp.1.2
      obtain ⟨i, rfl⟩ := Nat.exists_eq_add_of_le h1
      have e1 : 1000 + i - 1000 = i := Nat.add_sub_cancel_left 1000 i
      rw [e1] at hp
      exact va_gets hx hb (hSR.2.2.2.1.1 i (by omega)) hS hown (hts _ (s_gw_mem (s_wAt_mem hp.2) rfl)) (fun _ h => h) hdg (kk H locs ls hH hS hl hL)
  | _ => cases hp
theorem s_k_ldc {cp : s_C} {q : s_M} {n0 z0 G Gs pc pc1 x : Nat} {L : s_L} {st : List Value} {h : s_H} {H : Heap} {locs : List Loc} {ls : Array Slot} {v : Value} {i : Instr} {len : Nat}
    (cx : s_Cx p s m args meth c base ρ D cid xs Ln q) (hcp : s_cps[q.2.2.2.2.1]? = some cp) (hH : s_HR base ρ D cid xs Ln h H) (hS : va_S (s_A base) s.heap H locs) (hl : lv_has ls q.2.2.1 (s_as ρ 0 L)) (hL : L.length = q.2.2.1)
    (hdg : decode q.2.1 pc = .ok (i, len)) (hlo : s_look cp.2.2.2.2 x = some v)
    (hi : (i = .ldc x ∧ len = 2 ∧ ((∃ z, v = .int z) ∨ ((∃ z, v = .ref z) ∧ q.2.2.2.2.1 = 11))) ∨ (i = .ldc_w x ∧ len = 3 ∧ ((∃ z, v = .int z) ∨ ((∃ z, v = .ref z) ∧ q.2.2.2.2.1 = 11))) ∨ (i = .ldc2_w x ∧ len = 3 ∧ ∃ z, v = .long z))
    (kk : s_K p l e R s m args below meth c Q base ρ D cid xs Ln q n0 z0 G Gs (pc + len) L (v :: st) h) : W p l e R s m args below meth c H locs (h.1 - n0 + G) (h.2.1 - z0 + Gs) Q (F0 m pc ls (st.map (s_v ρ))) := by
  obtain ⟨hx, hb, hml, hown, hts, hin, hSR, hρ, hinj, hdc, hck⟩ := cx
  have hmem := s_look_mem _ _ _ hlo
  obtain ⟨pp, hp⟩ := (s_okPs _ cp hcp).2.2.2.2 _ hmem
  unfold s_ckK at hp
  dsimp only at hp
  rcases hi with ⟨rfl, rfl, hv⟩ | ⟨rfl, rfl, hv⟩ | ⟨rfl, rfl, z, rfl⟩
  · rcases hv with ⟨z, rfl⟩ | ⟨⟨z, rfl⟩, h11⟩
    · exact lv_ldc hx hb hown (hts _ (s_gw_mem (s_wAt_mem hp) rfl)) hdg (kk H locs ls hH hS hl hL)
    · rw [h11] at hcp hown
      cases hcp
      exact va_ldcS hx hb hown (hSR.2.2.2.2.2.2.2.1.1 x z hmem) hdg (kk H locs ls hH hS hl hL)
  · rcases hv with ⟨z, rfl⟩ | ⟨⟨z, rfl⟩, h11⟩
    · exact lv_ldcw hx hb hown (hts _ (s_gw_mem (s_wAt_mem hp) rfl)) hdg (kk H locs ls hH hS hl hL)
    · rw [h11] at hcp hown
      cases hcp
      have hZ := hSR.2.2.2.2.2.2.2.1.1 x z hmem
      intro T hT X
      obtain ⟨t, a1, b1⟩ := kk H locs ls hH hS hl hL T hT X
      exact ⟨t, X.ldcStringW hx hown (text := _) (a := ρ z) hZ.1 hZ.2 (g := F0 m pc ls (st.map (s_v ρ))) rfl (by rw [hb]; exact hdg) t a1, b1⟩
  · exact lv_ldc2 hx hb hown (hts _ (s_gw_mem (s_wAt_mem hp) rfl)) hdg (kk H locs ls hH hS hl hL)
/-- switches -/
theorem s_ts_of {x : Int} {pc pc1 : Nat} {L L1 : s_L} {st st1 : List Value} {h h1 : s_H} {d : Int} : ∀ (offs : List Int) (lo : Int), s_ts x pc L st h d lo offs = some (.inl (pc1, L1, st1, h1)) → L1 = L ∧ st1 = st ∧ h1 = h ∧ (((x < lo ∨ lo + (offs.length : Int) ≤ x) ∧ (pc : Int) + d = (pc1 : Int)) ∨ (¬ x < lo ∧ x < lo + (offs.length : Int) ∧ ∃ o, offs[(x - lo).toNat]? = some o ∧ (pc : Int) + o = (pc1 : Int))) := by
  intro offs
  induction offs with
  | nil =>
    intro lo e
    unfold s_ts at e
    split at e
    · rename_i h0
      obtain ⟨rfl, rfl, rfl, rfl⟩ := s_nx_of e
      refine ⟨rfl, rfl, rfl, Or.inl ⟨?_, ?_⟩⟩
      · rcases Int.lt_or_le x lo with h | h
        · exact Or.inl h
        · right; simp; exact h
      · rw [Int.toNat_of_nonneg h0]
    · cases e
  | cons o t ih =>
    intro lo e
    unfold s_ts at e
    split at e
    · rename_i hx
      split at e
      · rename_i h0
        obtain ⟨rfl, rfl, rfl, rfl⟩ := s_nx_of e
        refine ⟨rfl, rfl, rfl, Or.inr ⟨by omega, by simp only [List.length_cons]; omega, o, ?_, ?_⟩⟩
        · rw [hx, Int.sub_self]; rfl
        · rw [Int.toNat_of_nonneg h0]
      · cases e
    · rename_i hx
      obtain ⟨e1, e2, e3, e4⟩ := ih (lo + 1) e
      refine ⟨e1, e2, e3, ?_⟩
      simp only [List.length_cons]
      rcases e4 with ⟨h4, h5⟩ | ⟨h4, h5, z, h6, h7⟩
      · refine Or.inl ⟨?_, h5⟩
        rcases h4 with h4 | h4
        · left; omega
        · right; omega
      · refine Or.inr ⟨by omega, by omega, z, ?_, h7⟩
        rw [show (x - lo).toNat = (x - (lo + 1)).toNat + 1 by omega]
        simpa using h6
theorem s_ls_of {x : Int} {pc pc1 : Nat} {L L1 : s_L} {st st1 : List Value} {h h1 : s_H} {d : Int} : ∀ (ps : List (Int × Int)), s_ls x pc L st h d ps = some (.inl (pc1, L1, st1, h1)) → L1 = L ∧ st1 = st ∧ h1 = h ∧ (pc : Int) + Op.lookupswitch.offset ps d x = (pc1 : Int) := by
  intro ps
  induction ps with
  | nil =>
    intro e
    unfold s_ls at e
    split at e
    · rename_i h0
      obtain ⟨rfl, rfl, rfl, rfl⟩ := s_nx_of e
      refine ⟨rfl, rfl, rfl, ?_⟩
      rw [Int.toNat_of_nonneg h0]
      first | rfl | simp [Op.lookupswitch.offset]
    · cases e
  | cons a t ih =>
    obtain ⟨k, o⟩ := a
    intro e
    unfold s_ls at e
    rw [Op.lookupswitch.offset_cons]
    split at e
    · rename_i hx
      split at e
      · rename_i h0
        obtain ⟨rfl, rfl, rfl, rfl⟩ := s_nx_of e
        refine ⟨rfl, rfl, rfl, ?_⟩
        rw [if_pos (by first | exact hx | exact hx.symm), Int.toNat_of_nonneg h0]
      · cases e
    · rename_i hx
      rw [if_neg (by first | exact hx | exact fun q => hx q.symm)]
      exact ih e
end SNG
