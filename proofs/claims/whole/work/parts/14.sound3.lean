section SNF
variable {p : Program} {l : Launch} {e : Env} {R : Room} {s : State} {m : MethodId} {args : Array Value} {below : List Frame} {meth : Method} {c : Code} {Q : State → Prop}
variable {base : Nat} {ρ : Nat → Nat} {D : va_G} {cid : Nat → ClassId} {xs : Nat → Int32} {Ln : Nat}
theorem s_arr_at {h : s_H} {a k : Nat} (hg : s_isG h a k = true) (hk : 100 ≤ k) : (s_w base ρ cid h)[a]? = some (base + a, .inl (cid k, s_len a, s_ar ρ h a k)) := by
  have h1 := s_isG_of hg
  rw [s_w_at h1.1, s_E_arr h1.2 hk]
set_option maxHeartbeats 1000000 in
/-- reading rows -/
theorem s_k_ald {cp : s_C} {q : s_M} {n0 z0 G Gs pc pc1 : Nat} {L L1 : s_L} {st st1 : List Value} {h h1 : s_H} {H : Heap} {locs : List Loc} {ls : Array Slot} {i : Instr}
    (cx : s_Cx p s m args meth c base ρ D cid xs Ln q) (hH : s_HR base ρ D cid xs Ln h H) (hS : va_S (s_A base) s.heap H locs) (hl : lv_has ls q.2.2.1 (s_as ρ 0 L)) (hL : L.length = q.2.2.1)
    (hdg : decode q.2.1 pc = .ok (i, 1))
    (hex : (i = .iaload ∧ s_iald (pc + 1) L st h = some (.inl (pc1, L1, st1, h1))) ∨ (i = .baload ∧ s_bald (pc + 1) L st h = some (.inl (pc1, L1, st1, h1))) ∨ (i = .laload ∧ s_lald (pc + 1) L st h = some (.inl (pc1, L1, st1, h1))) ∨ (i = .aaload ∧ s_aald (pc + 1) L st h = some (.inl (pc1, L1, st1, h1))))
    (kk : s_K p l e R s m args below meth c Q base ρ D cid xs Ln q n0 z0 G Gs pc1 L1 st1 h1) : W p l e R s m args below meth c H locs (h.1 - n0 + G) (h.2.1 - z0 + Gs) Q (F0 m pc ls (st.map (s_v ρ))) := by
  obtain ⟨hx, hb, hml, hown, hts, hin, hSR, hρ, hinj, hdc, hck⟩ := cx
  rcases hex with ⟨rfl, hex⟩ | ⟨rfl, hex⟩ | ⟨rfl, hex⟩ | ⟨rfl, hex⟩
  · obtain ⟨i, a, r, rfl, hex2⟩ := s_ir_of hex
    clear hex
    cases h12 : (Nat.beq a 1200 && !h.2.2.1) with
    | true =>
      rw [h12] at hex2
      rw [Bool.and_eq_true, Bool.not_eq_true'] at h12
      have ea := Nat.eq_of_beq_eq_true h12.1
      have hsc := hH.2 h12.2
      subst ea
      dsimp only at hex2
      split at hex2
      · cases hex2
      · rename_i hi
        obtain ⟨rfl, rfl, rfl, rfl⟩ := s_nx_of hex2
        obtain ⟨x1, x2, x3, x4⟩ := hSR.2.2.2.2.2.2.1
        rw [hsc.2, show (Int32.ofNat Ln).toNatClampNeg = Ln from nI_clamp x4] at hi
        refine va_sld hx hb x1 x3 x2 hS hi hdg ?_
        have := kk H locs ls hH hS hl hL
        rw [hsc.1] at this
        exact this
    | false =>
      rw [h12] at hex2
      dsimp only at hex2
      cases hg : s_isG h a 101 with
      | false => rw [hg] at hex2; cases hex2
      | true =>
        rw [hg] at hex2
        dsimp only at hex2
        have hρa : ρ a = base + a := hρ a (s_isG_lt hg)
        have he := s_arr_at (base := base) (ρ := ρ) (cid := cid) hg (by omega)
        split at hex2
        · cases hex2
        · rename_i hi
          obtain ⟨rfl, rfl, rfl, rfl⟩ := s_nx_of hex2
          show W p l e R s m args below meth c H locs (_ - n0 + G) (_ - z0 + Gs) Q (F0 m pc ls (.int i :: .ref (ρ a) :: r.map (s_v ρ)))
          rw [hρa]
          exact va_iald hx hb hSR.1 hH.1 a 1 he rfl hi hdg (kk H locs ls hH hS hl hL)
  · obtain ⟨i, a, r, rfl, hex2⟩ := s_ir_of hex
    clear hex
    cases hg : s_isG h a 100 with
    | true =>
      rw [hg, Bool.true_or] at hex2
      dsimp only at hex2
      have hρa : ρ a = base + a := hρ a (s_isG_lt hg)
      have he := s_arr_at (base := base) (ρ := ρ) (cid := cid) hg (by omega)
      split at hex2
      · cases hex2
      · rename_i hi
        obtain ⟨rfl, rfl, rfl, rfl⟩ := s_nx_of hex2
        show W p l e R s m args below meth c H locs (_ - n0 + G) (_ - z0 + Gs) Q (F0 m pc ls (.int i :: .ref (ρ a) :: r.map (s_v ρ)))
        rw [hρa]
        exact va_bald hx hb hSR.1 hH.1 a 0 he rfl hi hdg (kk H locs ls hH hS hl hL)
    | false =>
      rw [hg, Bool.false_or] at hex2
      cases hg : s_isG h a 103 with
      | false => rw [hg] at hex2; cases hex2
      | true =>
        rw [hg] at hex2
        dsimp only at hex2
        have hρa : ρ a = base + a := hρ a (s_isG_lt hg)
        have he := s_arr_at (base := base) (ρ := ρ) (cid := cid) hg (by omega)
        split at hex2
        · cases hex2
        · rename_i hi
          obtain ⟨rfl, rfl, rfl, rfl⟩ := s_nx_of hex2
          show W p l e R s m args below meth c H locs (_ - n0 + G) (_ - z0 + Gs) Q (F0 m pc ls (.int i :: .ref (ρ a) :: r.map (s_v ρ)))
          rw [hρa]
          exact va_zald hx hb hSR.1 hH.1 a 3 he rfl hi hdg (kk H locs ls hH hS hl hL)
  · obtain ⟨i, a, r, rfl, hex2⟩ := s_ir_of hex
    clear hex
    cases hg : s_isG h a 102 with
    | false => rw [hg] at hex2; cases hex2
    | true =>
      rw [hg] at hex2
      dsimp only at hex2
      have hρa : ρ a = base + a := hρ a (s_isG_lt hg)
      have he := s_arr_at (base := base) (ρ := ρ) (cid := cid) hg (by omega)
      split at hex2
      · cases hex2
      · rename_i hi
        obtain ⟨rfl, rfl, rfl, rfl⟩ := s_nx_of hex2
        show W p l e R s m args below meth c H locs (_ - n0 + G) (_ - z0 + Gs) Q (F0 m pc ls (.int i :: .ref (ρ a) :: r.map (s_v ρ)))
        rw [hρa]
        exact va_lald hx hb hSR.1 hH.1 a 2 he rfl hi hdg (kk H locs ls hH hS hl hL)
  · obtain ⟨i, a, r, rfl, hex2⟩ := s_ir_of hex
    clear hex
    cases h12 : Nat.beq a 1100 with
    | true =>
      rw [h12] at hex2
      have ea := Nat.eq_of_beq_eq_true h12
      subst ea
      dsimp only at hex2
      split at hex2
      · cases hex2
      · rename_i hi
        obtain ⟨rfl, rfl, rfl, rfl⟩ := s_nx_of hex2
        exact vb_tq hx hb hSR.2.2.2.2.2.1 hS hi rfl hdg (kk H locs ls hH hS hl hL)
    | false =>
      rw [h12] at hex2
      dsimp only at hex2
      have go : ∀ (k t0 : Nat) (C : String), s_isG h a k = true → 104 ≤ k → (s_tys cid)[t0]? = some (cid k, .object C) → W p l e R s m args below meth c H locs (h.1 - n0 + G) (h.2.1 - z0 + Gs) Q (F0 m pc ls ((Value.int i :: Value.ref a :: r).map (s_v ρ))) := by
        intro k t0 C hg hk ht
        have hor : (s_isG h a 104 || s_isG h a 105 || s_isG h a 106) = true := by
          cases hz : (s_isG h a 104 || s_isG h a 105 || s_isG h a 106) with
          | true => rfl
          | false => rw [hz] at hex2; cases hex2
        rw [hor] at hex2
        dsimp only at hex2
        have hρa : ρ a = base + a := hρ a (s_isG_lt hg)
        have he := s_arr_at (base := base) (ρ := ρ) (cid := cid) hg (by omega)
        rw [show s_ar ρ h a k = .inr (.inr (.inr (.inr (fun j => (h.2.2.2.2.2 a j).map ρ)))) by unfold s_ar; rw [if_neg (by omega), if_pos hk]] at he
        split at hex2
        · cases hex2
        · rename_i hi
          obtain ⟨rfl, rfl, rfl, rfl⟩ := s_nx_of hex2
          show W p l e R s m args below meth c H locs (_ - n0 + G) (_ - z0 + Gs) Q (F0 m pc ls (.int i :: .ref (ρ a) :: r.map (s_v ρ)))
          rw [hρa]
          refine va_aldq hx hb hSR.1 hH.1 a t0 he ht hi hdg ?_
          have := kk H locs ls hH hS hl hL
          rw [List.map_cons, s_v_rf] at this
          exact this
      cases g4 : s_isG h a 104 with
      | true => exact go 104 4 _ g4 (by omega) rfl
      | false => cases g5 : s_isG h a 105 with
        | true => exact go 105 5 _ g5 (by omega) rfl
        | false => cases g6 : s_isG h a 106 with
          | true => exact go 106 6 _ g6 (by omega) rfl
          | false => rw [g4, g5, g6] at hex2; cases hex2
set_option maxHeartbeats 1000000 in
/-- writing rows of numbers -/
theorem s_k_ast {cp : s_C} {q : s_M} {n0 z0 G Gs pc pc1 : Nat} {L L1 : s_L} {st st1 : List Value} {h h1 : s_H} {H : Heap} {locs : List Loc} {ls : Array Slot} {i : Instr}
    (cx : s_Cx p s m args meth c base ρ D cid xs Ln q) (hH : s_HR base ρ D cid xs Ln h H) (hS : va_S (s_A base) s.heap H locs) (hl : lv_has ls q.2.2.1 (s_as ρ 0 L)) (hL : L.length = q.2.2.1)
    (hdg : decode q.2.1 pc = .ok (i, 1))
    (hex : (i = .iastore ∧ s_iast (pc + 1) L st h = some (.inl (pc1, L1, st1, h1))) ∨ (i = .bastore ∧ s_bast (pc + 1) L st h = some (.inl (pc1, L1, st1, h1))) ∨ (i = .lastore ∧ s_last (pc + 1) L st h = some (.inl (pc1, L1, st1, h1))))
    (kk : s_K p l e R s m args below meth c Q base ρ D cid xs Ln q n0 z0 G Gs pc1 L1 st1 h1) : W p l e R s m args below meth c H locs (h.1 - n0 + G) (h.2.1 - z0 + Gs) Q (F0 m pc ls (st.map (s_v ρ))) := by
  obtain ⟨hx, hb, hml, hown, hts, hin, hSR, hρ, hinj, hdc, hck⟩ := cx
  have hD : va_D (s_A base) (s_w base ρ cid h) := s_w_D
  -- a store of an int
  have storeI : ∀ (a k j : Nat) (x : Int32), s_isG h a k = true → 100 ≤ k → k < 104 → k ≠ 102 → ∀ (H1 : Heap) (locs1 : List Loc), va_P D s_cl2 ((s_w base ρ cid h).set a (base + a, .inl (cid k, s_len a, .inl (upd (h.2.2.2.1 a) j x)))) H1 → va_S (s_A base) s.heap H1 locs1 → s_HR base ρ D cid xs Ln (s_wI h a j x) H1 := by
    intro a k j x hg h1 h2 h3 H1 locs1 hP _
    refine s_HR_set hH (s_isG_of hg).1 (s_isG_lt hg) rfl rfl ?_ (fun b hb => s_wI_o h j x hb) hP
    rw [s_E_arr (s_isG_of hg).2 h1]
    unfold s_ar
    rw [if_neg h3, if_neg (by omega)]
    show _ = Sum.inl (cid k, s_len a, Sum.inl (upd (h.2.2.2.1 a) j x))
    have : (s_wI h a j x).2.2.2.1 a = upd (h.2.2.2.1 a) j x := s_up_s _ _ _ _
    rw [this]
  rcases hex with ⟨rfl, hex⟩ | ⟨rfl, hex⟩ | ⟨rfl, hex⟩
  · obtain ⟨x, st2, rfl, hex2⟩ := s_i1_of hex
    clear hex
    obtain ⟨i, a, r, rfl, hex⟩ := s_ir_of hex2
    clear hex2
    cases hg : s_isG h a 101 with
    | false => rw [hg] at hex; cases hex
    | true =>
      rw [hg] at hex
      dsimp only at hex
      have hρa : ρ a = base + a := hρ a (s_isG_lt hg)
      have he := s_arr_at (base := base) (ρ := ρ) (cid := cid) hg (by omega)
      split at hex
      · cases hex
      · rename_i hi
        obtain ⟨rfl, rfl, rfl, rfl⟩ := s_nx_of hex
        show W p l e R s m args below meth c H locs (_ - n0 + G) (_ - z0 + Gs) Q (F0 m pc ls (.int x :: .int i :: .ref (ρ a) :: st1.map (s_v ρ)))
        rw [hρa]
        exact va_iast hx hb hSR.1 hH.1 hD hS a 1 he rfl hi hdg (fun H1 locs1 hP _ hS1 => kk H1 locs1 ls (storeI a 101 _ x hg (by omega) (by omega) (by omega) H1 locs1 hP hS1) hS1 hl hL)
  · obtain ⟨x, st2, rfl, hex2⟩ := s_i1_of hex
    clear hex
    obtain ⟨i, a, r, rfl, hex⟩ := s_ir_of hex2
    clear hex2
    cases hg : s_isG h a 100 with
    | true =>
      rw [hg] at hex
      dsimp only at hex
      have hρa : ρ a = base + a := hρ a (s_isG_lt hg)
      have he := s_arr_at (base := base) (ρ := ρ) (cid := cid) hg (by omega)
      split at hex
      · cases hex
      · rename_i hi
        obtain ⟨rfl, rfl, rfl, rfl⟩ := s_nx_of hex
        show W p l e R s m args below meth c H locs (_ - n0 + G) (_ - z0 + Gs) Q (F0 m pc ls (.int x :: .int i :: .ref (ρ a) :: st1.map (s_v ρ)))
        rw [hρa]
        exact va_bast hx hb hSR.1 hH.1 hD hS a 0 he rfl hi hdg (fun H1 locs1 hP _ hS1 => kk H1 locs1 ls (storeI a 100 _ _ hg (by omega) (by omega) (by omega) H1 locs1 hP hS1) hS1 hl hL)
    | false =>
      rw [hg] at hex
      dsimp only at hex
      cases hg : s_isG h a 103 with
      | false => rw [hg] at hex; cases hex
      | true =>
        rw [hg] at hex
        dsimp only at hex
        have hρa : ρ a = base + a := hρ a (s_isG_lt hg)
        have he := s_arr_at (base := base) (ρ := ρ) (cid := cid) hg (by omega)
        split at hex
        · cases hex
        · rename_i hi
          obtain ⟨rfl, rfl, rfl, rfl⟩ := s_nx_of hex
          show W p l e R s m args below meth c H locs (_ - n0 + G) (_ - z0 + Gs) Q (F0 m pc ls (.int x :: .int i :: .ref (ρ a) :: st1.map (s_v ρ)))
          rw [hρa]
          exact va_zast hx hb hSR.1 hH.1 hD hS a 3 he rfl hi hdg (fun H1 locs1 hP _ hS1 => kk H1 locs1 ls (storeI a 103 _ _ hg (by omega) (by omega) (by omega) H1 locs1 hP hS1) hS1 hl hL)
  · obtain ⟨x, st2, rfl, hex2⟩ := s_l1_of hex
    clear hex
    obtain ⟨i, a, r, rfl, hex⟩ := s_ir_of hex2
    clear hex2
    cases hg : s_isG h a 102 with
    | false => rw [hg] at hex; cases hex
    | true =>
      rw [hg] at hex
      dsimp only at hex
      have hρa : ρ a = base + a := hρ a (s_isG_lt hg)
      have he := s_arr_at (base := base) (ρ := ρ) (cid := cid) hg (by omega)
      split at hex
      · cases hex
      · rename_i hi
        obtain ⟨rfl, rfl, rfl, rfl⟩ := s_nx_of hex
        show W p l e R s m args below meth c H locs (_ - n0 + G) (_ - z0 + Gs) Q (F0 m pc ls (.long x :: .int i :: .ref (ρ a) :: st1.map (s_v ρ)))
        rw [hρa]
        refine va_last hx hb hSR.1 hH.1 hD hS a 2 he rfl hi hdg (fun H1 locs1 hP _ hS1 => kk H1 locs1 ls (s_HR_set hH (s_isG_of hg).1 (s_isG_lt hg) rfl rfl ?_ (fun b hb => s_wL_o h _ x hb) hP) hS1 hl hL)
        rw [s_E_arr (s_isG_of hg).2 (by omega)]
        unfold s_ar
        rw [if_pos rfl]
        have : (s_wL h a i.toNatClampNeg x).2.2.2.2.1 a = vp_updL (h.2.2.2.2.1 a) i.toNatClampNeg x := s_up_s _ _ _ _
        rw [this]
end SNF
