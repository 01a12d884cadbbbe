section SNI
variable {p : Program} {l : Launch} {e : Env} {R : Room} {s : State} {m : MethodId} {args : Array Value} {below : List Frame} {meth : Method} {c : Code} {Q : State → Prop}
variable {base : Nat} {ρ : Nat → Nat} {D : va_G} {cid : Nat → ClassId} {xs : Nat → Int32} {Ln : Nat}
set_option maxHeartbeats 1000000 in
set_option maxRecDepth 100000 in
/-- calls that are steps: Object's constructor, arraycopy, a text's length and signs, the lesser and the greater -/
theorem s_k_prim {cp : s_C} {q : s_M} {n0 z0 G Gs pc pc1 x w : Nat} {en : Nat × Nat × Nat} {L L1 : s_L} {st st1 : List Value} {h h1 : s_H} {H : Heap} {locs : List Loc} {ls : Array Slot} {i : Instr}
    (cx : s_Cx p s m args meth c base ρ D cid xs Ln q) (hcp : s_cps[q.2.2.2.2.1]? = some cp) (hH : s_HR base ρ D cid xs Ln h H) (hS : va_S (s_A base) s.heap H locs) (hl : lv_has ls q.2.2.1 (s_as ρ 0 L)) (hL : L.length = q.2.2.1)
    (hR1 : 6 ≤ R.frames) (hR2 : 240 ≤ R.locals) (hc1 : h.1 - n0 + G ≤ R.cells) (hc2 : h.2.1 - z0 + Gs ≤ R.slots)
    (hdg : decode q.2.1 pc = .ok (i, 3)) (hlo : s_look cp.2.2.1 x = some en) (hi : (w = 0 ∧ i = .invokevirtual x) ∨ (w = 1 ∧ i = .invokestatic x) ∨ (w = 2 ∧ i = .invokespecial x)) (hex : s_inv w (pc + 3) en L st h = some (.inl (pc1, L1, st1, h1)))
    (kk : s_K p l e R s m args below meth c Q base ρ D cid xs Ln q n0 z0 G Gs pc1 L1 st1 h1) : W p l e R s m args below meth c H locs (h.1 - n0 + G) (h.2.1 - z0 + Gs) Q (F0 m pc ls (st.map (s_v ρ))) := by
  have cx0 := cx
  obtain ⟨hx, hb, hml, hown, hts, hin, hSR, hρ, hinj, hdc, hck⟩ := cx
  obtain ⟨pp, hp⟩ := (s_okPs _ cp hcp).2.2.1 _ (s_look_mem _ _ _ hlo)
  have nocall : ∀ md n, s_call md n st = some (.inl (pc1, L1, st1, h1)) → False := by
    intro md n hq
    unfold s_call at hq
    split at hq
    · cases hq
    · cases hq
  have hsz : c.maxLocals = ls.size := by rw [hml, hl.1]
  unfold s_inv at hex
  split at hex
  · -- virtual
    split at hex
    · split at hex
      · exact (nocall _ _ hex).elim
      · cases hex
    · cases hex
  · exact (nocall _ _ hex).elim
  · split at hex
    · exact (nocall _ _ hex).elim
    · cases hex
  · split at hex
    · exact (nocall _ _ hex).elim
    · cases hex
  · -- Object
    rcases hi with ⟨hw, -⟩ | ⟨hw, -⟩ | ⟨-, rfl⟩
    · cases hw
    · cases hw
    obtain ⟨a, r, rfl, hex2⟩ := s_r1_of hex
    clear hex
    cases hcat : Nat.ble (s_cat r) 8 with
    | false => rw [hcat] at hex2; cases hex2
    | true =>
      rw [hcat] at hex2
      obtain ⟨rfl, rfl, rfl, rfl⟩ := s_nx_of hex2
      have h8 := Nat.le_of_ble_eq_true hcat
      have hlink : Cond.methodLink (s_R q.2.2.2.2.1) x objectInit ∈ lw_tbl := s_wAt_mem hp
      refine W.objInit hx hb hown (hts _ (s_gw_mem hlink rfl)) (hts _ (s_gw_mem s_w1 rfl)) (hts _ (s_gw_mem s_w2 rfl)) (g := F0 m pc ls _) rfl (by rw [hml]; exact hl.1) (a := ρ a) (rest := List.map (s_v ρ) st1) rfl hdg (by omega) ?_ (kk H locs ls hH hS hl hL)
      have := lv_room (m := m) (pc := pc) (ls := ls) (rest := List.map (s_v ρ) (Value.ref a :: st1)) (st := List.map (s_v ρ) st1) (by rw [s_cat_map]; exact h8)
      omega
  · -- arraycopy
    rcases hi with ⟨hw, -⟩ | ⟨-, rfl⟩ | ⟨hw, -⟩
    · cases hw
    · have hlink : Cond.methodLink (s_R q.2.2.2.2.1) x arraycopyName ∈ lw_tbl := s_wAt_mem hp
      have hD : va_D (s_A base) (s_w base ρ cid h) := s_w_D
      unfold s_acp at hex
      split at hex
      · rename_i n dp b sp a r
        split at hex
        · cases hex
        · rename_i hg
          simp only [not_or] at hg
          obtain ⟨g1, g2, g3, g4, g5, g6⟩ := hg
          have hroom : ((r.map (s_v ρ)).map fun v => v.category).sum + (nativeFrameWords "java/lang/System" "arraycopy" 5 + 11) ≤ R.locals := by
            rw [s_cat_map]
            have : nativeFrameWords "java/lang/System" "arraycopy" 5 = 7 := by decide +kernel
            omega
          cases hi1 : (s_isG h a 101 && s_isG h b 101) with
          | true =>
            rw [hi1] at hex
            obtain ⟨rfl, rfl, rfl, rfl⟩ := s_nx_of hex
            rw [Bool.and_eq_true] at hi1
            have ha := s_arr_at (base := base) (ρ := ρ) (cid := cid) hi1.1 (by omega)
            have hb2 := s_arr_at (base := base) (ρ := ρ) (cid := cid) hi1.2 (by omega)
            have e1 : ρ a = base + a := hρ a (s_isG_lt hi1.1)
            have e2 : ρ b = base + b := hρ b (s_isG_lt hi1.2)
            show W p l e R s m args below meth c H locs (h.1 - n0 + G) (h.2.1 - z0 + Gs) Q (F0 m pc ls (.int n :: .int dp :: .ref (ρ b) :: .int sp :: .ref (ρ a) :: st1.map (s_v ρ)))
            rw [e1, e2]
            refine va_copyi hx hb hsz hown (hts _ (s_gw_mem hlink rfl)) (hts _ (s_gw_mem s_w3 rfl)) (hts _ (s_gw_mem s_w4 rfl)) (hts _ (s_gw_mem s_w5 rfl)) hSR.1 hH.1 hD hS a b 1 1 (ty := .int) ha hb2 rfl rfl rfl g1 g2 g3 (by omega) (by omega) (fun _ _ => rfl) (by omega) hroom hdg (fun H1 locs1 hP _ hS1 => kk H1 locs1 ls (s_HR_set hH (s_isG_of hi1.2).1 (s_isG_lt hi1.2) rfl rfl ?_ (fun z hz => ⟨s_row_n _ _ hz, rfl, rfl⟩) hP) hS1 hl hL)
            rw [s_E_arr (s_isG_of hi1.2).2 (by omega)]
            unfold s_ar
            rw [if_neg (by omega), if_neg (by omega)]
            dsimp only
            rw [s_row_s]
          | false =>
            rw [hi1] at hex
            dsimp only at hex
            cases hi2 : (s_isG h a 102 && s_isG h b 102) with
            | false => rw [hi2] at hex; cases hex
            | true =>
              rw [hi2] at hex
              obtain ⟨rfl, rfl, rfl, rfl⟩ := s_nx_of hex
              rw [Bool.and_eq_true] at hi2
              have ha := s_arr_at (base := base) (ρ := ρ) (cid := cid) hi2.1 (by omega)
              have hb2 := s_arr_at (base := base) (ρ := ρ) (cid := cid) hi2.2 (by omega)
              have e1 : ρ a = base + a := hρ a (s_isG_lt hi2.1)
              have e2 : ρ b = base + b := hρ b (s_isG_lt hi2.2)
              show W p l e R s m args below meth c H locs (h.1 - n0 + G) (h.2.1 - z0 + Gs) Q (F0 m pc ls (.int n :: .int dp :: .ref (ρ b) :: .int sp :: .ref (ρ a) :: st1.map (s_v ρ)))
              rw [e1, e2]
              refine va_copyl hx hb hsz hown (hts _ (s_gw_mem hlink rfl)) (hts _ (s_gw_mem s_w3 rfl)) (hts _ (s_gw_mem s_w4 rfl)) (hts _ (s_gw_mem s_w5 rfl)) hSR.1 hH.1 hD hS a b 2 2 (ty := .long) ha hb2 rfl rfl rfl g1 g2 g3 (by omega) (by omega) (fun _ _ => rfl) (by omega) hroom hdg (fun H1 locs1 hP _ hS1 => kk H1 locs1 ls (s_HR_set hH (s_isG_of hi2.2).1 (s_isG_lt hi2.2) rfl rfl ?_ (fun z hz => ⟨rfl, s_row_n _ _ hz, rfl⟩) hP) hS1 hl hL)
              rw [s_E_arr (s_isG_of hi2.2).2 (by omega)]
              unfold s_ar
              rw [if_pos rfl]
              dsimp only
              rw [s_row_s]
      · cases hex
    · cases hw
  · exact (nocall _ _ hex).elim
  · -- the lesser
    rcases hi with ⟨hw, -⟩ | ⟨-, rfl⟩ | ⟨hw, -⟩
    · cases hw
    · have hlink : Cond.methodLink (s_R q.2.2.2.2.1) x Lib.Math.min.name ∈ lw_tbl := s_wAt_mem hp
      obtain ⟨u, v, r, rfl, hex2⟩ := s_ii_of hex
      clear hex
      cases hcat : Nat.ble (s_cat r) 8 with
      | false => rw [hcat] at hex2; cases hex2
      | true =>
        rw [hcat] at hex2
        obtain ⟨rfl, rfl, rfl, rfl⟩ := s_nx_of hex2
        have h8 := Nat.le_of_ble_eq_true hcat
        exact va_mmin hx hb hsz hown (hts _ (s_gw_mem hlink rfl)) (hts _ (s_gw_mem s_wm0 rfl)) (hts _ (s_gw_mem s_wi rfl)) (hts _ (s_gw_mem s_wc0 rfl)) (by omega) (by rw [s_cat_map]; omega) hc1 hc2 hdg (kk H locs ls hH hS hl hL)
    · cases hw
  · -- the greater
    rcases hi with ⟨hw, -⟩ | ⟨-, rfl⟩ | ⟨hw, -⟩
    · cases hw
    · have hlink : Cond.methodLink (s_R q.2.2.2.2.1) x Lib.Math.max.name ∈ lw_tbl := s_wAt_mem hp
      obtain ⟨u, v, r, rfl, hex2⟩ := s_ii_of hex
      clear hex
      cases hcat : Nat.ble (s_cat r) 8 with
      | false => rw [hcat] at hex2; cases hex2
      | true =>
        rw [hcat] at hex2
        obtain ⟨rfl, rfl, rfl, rfl⟩ := s_nx_of hex2
        have h8 := Nat.le_of_ble_eq_true hcat
        exact va_mmax hx hb hsz hown (hts _ (s_gw_mem hlink rfl)) (hts _ (s_gw_mem s_wm1 rfl)) (hts _ (s_gw_mem s_wi rfl)) (hts _ (s_gw_mem s_wc1 rfl)) (by omega) (by rw [s_cat_map]; omega) hc1 hc2 hdg (kk H locs ls hH hS hl hL)
    · cases hw
  · -- length
    rcases hi with ⟨-, rfl⟩ | ⟨hw, -⟩ | ⟨hw, -⟩
    · have hlink : Cond.methodLink (s_R q.2.2.2.2.1) x yJ0_length_8abf5 ∈ lw_tbl := s_wAt_mem hp
      obtain ⟨a, r, rfl, hex2⟩ := s_r1_of hex
      clear hex
      split at hex2
      · cases hex2
      · rename_i hge
        cases htx : s_txs[a - 1300]? with
        | none => rw [htx] at hex2; cases hex2
        | some tx =>
          rw [htx] at hex2
          dsimp only at hex2
          cases hcat : Nat.ble (s_cat r) 8 with
          | false => rw [hcat] at hex2; cases hex2
          | true =>
            rw [hcat] at hex2
            obtain ⟨rfl, rfl, rfl, rfl⟩ := s_nx_of hex2
            have h8 := Nat.le_of_ble_eq_true hcat
            have ea : 1300 + (a - 1300) = a := Nat.add_sub_cancel' (Nat.not_lt.mp hge)
            refine s_k_str (cp := cp) (w := 0) (t := a - 1300) (rest := r.map (s_v ρ)) cx0 hS hl.1 hR1 hR2 hc1 hc2 hdg htx (by rw [s_cat_map]; exact h8) (Or.inl ⟨rfl, s_gw_mem hlink rfl⟩) _ _ (Or.inl ⟨rfl, ?_, rfl⟩) (kk H locs ls hH hS hl hL)
            rw [ea]; rfl
    · cases hw
    · cases hw
  · -- charAt
    rcases hi with ⟨-, rfl⟩ | ⟨hw, -⟩ | ⟨hw, -⟩
    · have hlink : Cond.methodLink (s_R q.2.2.2.2.1) x yJ0_charAt_5068e ∈ lw_tbl := s_wAt_mem hp
      obtain ⟨i, a, r, rfl, hex2⟩ := s_ir_of hex
      clear hex
      split at hex2
      · cases hex2
      · rename_i hge
        cases htx : s_txs[a - 1300]? with
        | none => rw [htx] at hex2; cases hex2
        | some tx =>
          rw [htx] at hex2
          dsimp only at hex2
          cases hcat : Nat.ble (s_cat r) 8 with
          | false => rw [hcat] at hex2; cases hex2
          | true =>
            rw [hcat] at hex2
            dsimp only at hex2
            split at hex2
            · cases hex2
            · rename_i hin2
              obtain ⟨rfl, rfl, rfl, rfl⟩ := s_nx_of hex2
              have h8 := Nat.le_of_ble_eq_true hcat
              have ea : 1300 + (a - 1300) = a := Nat.add_sub_cancel' (Nat.not_lt.mp hge)
              refine s_k_str (cp := cp) (w := 1) (t := a - 1300) (rest := r.map (s_v ρ)) cx0 hS hl.1 hR1 hR2 hc1 hc2 hdg htx (by rw [s_cat_map]; exact h8) (Or.inr ⟨rfl, s_gw_mem hlink rfl⟩) _ _ (Or.inr ⟨rfl, i, hin2, ?_, rfl⟩) (kk H locs ls hH hS hl hL)
              rw [ea]; rfl
    · cases hw
    · cases hw
  · cases hex
end SNI
