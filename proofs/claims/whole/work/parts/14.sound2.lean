section SNE
variable {p : Program} {l : Launch} {e : Env} {R : Room} {s : State} {m : MethodId} {args : Array Value} {below : List Frame} {meth : Method} {c : Code} {Q : State → Prop}
variable {base : Nat} {ρ : Nat → Nat} {D : va_G} {cid : Nat → ClassId} {xs : Nat → Int32} {Ln : Nat}
/-- what a call of this heap's size tells: no more cells than were counted -/
theorem s_Wsz {H : Heap} {locs : List Loc} {cells slots : Nat} {g : JFrame} (k : H.size ≤ s.heap.size + cells → W p l e R s m args below meth c H locs cells slots Q g) : W p l e R s m args below meth c H locs cells slots Q g := by
  intro T hT X
  have h1 := X.same.2.2.1
  exact k (by rw [← hT]; exact h1) T hT X
theorem s_ckF_of {own : Nat} {cp : s_C} (hcp : s_cps[own]? = some cp) {x c k : Nat} (hl : s_look cp.1 x = some (c, k)) : (c = 10 ∧ ((k = 0 ∧ Cond.fieldLink (s_R own) x RX10 "letters" "J" ∈ s_gw) ∨ (k = 1 ∧ Cond.fieldLink (s_R own) x RX10 "kind" "I" ∈ s_gw))) ∨ (c ≠ 10 ∧ c < 13 ∧ k < s_nf c ∧ (Cond.fieldLink (s_R own) x (s_R c) (s_Tx c k).2.1 (s_Tx c k).2.2.1 ∈ s_gw ∨ Cond.fieldLinkNest (s_R own) x (s_R c) (s_Tx c k).2.1 (s_Tx c k).2.2.1 "CampAshes" ∈ s_nws)) := by
  obtain ⟨pp, hp⟩ := (s_okPs own cp hcp).1 _ (s_look_mem _ _ _ hl)
  unfold s_ckF at hp
  dsimp only at hp
  cases hb : Nat.beq c 10 with
  | true =>
    rw [hb] at hp
    refine Or.inl ⟨Nat.eq_of_beq_eq_true hb, ?_⟩
    dsimp only at hp
    split at hp
    · exact Or.inl ⟨rfl, s_gw_mem (s_wAt_mem hp) rfl⟩
    · exact Or.inr ⟨rfl, s_gw_mem (s_wAt_mem hp) rfl⟩
    · cases hp
  | false =>
    rw [hb] at hp
    simp only [Bool.and_eq_true, Bool.or_eq_true] at hp
    refine Or.inr ⟨fun q => ?_, s_blt hp.1.1, s_blt hp.1.2, ?_⟩
    · rw [q] at hb; cases hb
    · rcases hp.2 with h | h
      · exact Or.inl (s_gw_mem (s_wAt_mem h) rfl)
      · exact Or.inr (of_decide_eq_true h)
theorem s_sv_of {a k : Nat} {v : Value} (h : s_sv a k = some v) : ∃ i, i < 29 ∧ a = 1000 + i ∧ ((k = 0 ∧ v = .long (s_wl.getD i 0)) ∨ (k = 1 ∧ v = .int (s_wk i))) := by
  unfold s_sv at h
  split at h
  · cases h
  · split at h
    · refine ⟨a - 1000, by omega, by omega, ?_⟩
      split at h
      · exact Or.inl ⟨rfl, (Option.some.inj h).symm⟩
      · exact Or.inr ⟨rfl, (Option.some.inj h).symm⟩
      · cases h
    · cases h
theorem s_isG_lt {h : s_H} {a k : Nat} (hg : s_isG h a k = true) : a < 1000 := by
  have := s_Gs_lt (s_isG_of hg).2
  omega
set_option maxHeartbeats 1000000 in
theorem s_k_getf {x cc k : Nat}  {cp : s_C} {q : s_M} {n0 z0 G Gs pc pc1 : Nat} {L L1 : s_L} {st st1 : List Value} {h h1 : s_H} {H : Heap} {locs : List Loc} {ls : Array Slot}
    (cx : s_Cx p s m args meth c base ρ D cid xs Ln q) (hcp : s_cps[q.2.2.2.2.1]? = some cp) (hH : s_HR base ρ D cid xs Ln h H) (hS : va_S (s_A base) s.heap H locs) (hl : lv_has ls q.2.2.1 (s_as ρ 0 L)) (hL : L.length = q.2.2.1)
    (hlo : s_look cp.1 x = some (cc, k)) (hex : s_gf q.2.2.2.2.1 (pc + 3) cc k L st h = some (.inl (pc1, L1, st1, h1))) (hdg : decode q.2.1 pc = .ok (.getfield x, 3))
    (kk : s_K p l e R s m args below meth c Q base ρ D cid xs Ln q n0 z0 G Gs pc1 L1 st1 h1) : W p l e R s m args below meth c H locs (h.1 - n0 + G) (h.2.1 - z0 + Gs) Q (F0 m pc ls (st.map (s_v ρ))) := by
  obtain ⟨hx, hb, hml, hown, hts, hin, hSR, hρ, hinj, hdc, hck⟩ := cx
  obtain ⟨a, r, rfl, hex2⟩ := s_r1_of hex
  clear hex
  rcases s_ckF_of hcp hlo with ⟨rfl, hw⟩ | ⟨h10, h13, hk, hw⟩
  · have e10 : Nat.beq 10 10 = true := rfl
    rw [e10] at hex2
    dsimp only at hex2
    split at hex2
    · rename_i v hv
      obtain ⟨i, hi, rfl, hv2⟩ := s_sv_of hv
      obtain ⟨rfl, rfl, rfl, rfl⟩ := s_nx_of hex2
      have hOF := hSR.2.2.2.2.1 i hi
      rcases hv2 with ⟨rfl, rfl⟩ | ⟨rfl, rfl⟩
      · rcases hw with ⟨-, hw⟩ | ⟨hk, -⟩
        · exact vk_getf hx hb hOF.1 hS hown (hts _ hw) (fun _ h => h) hdg (kk H locs ls hH hS hl hL)
        · cases hk
      · rcases hw with ⟨hk, -⟩ | ⟨-, hw⟩
        · cases hk
        · exact vk_getf hx hb hOF.2.1 hS hown (hts _ hw) (fun _ h => h) hdg (kk H locs ls hH hS hl hL)
    · cases hex2
  · have e10 : Nat.beq cc 10 = false := by
      cases hq : Nat.beq cc 10 with
      | false => rfl
      | true => exact absurd (Nat.eq_of_beq_eq_true hq) h10
    rw [e10] at hex2
    dsimp only at hex2
    split at hex2
    · rename_i hg
      obtain ⟨rfl, rfl, rfl, rfl⟩ := s_nx_of hex2
      obtain ⟨o1, o2, o3, o4, o5, o6, o7, o8, o9, o10⟩ := s_okC cc h13 h10
      have ha := (s_isG_of hg).1
      have he := s_w_at (base := base) (ρ := ρ) (cid := cid) ha
      rw [s_E_obj hg (by omega)] at he
      have hρa : ρ a = base + a := hρ a (s_isG_lt hg)
      show W p l e R s m args below meth c H locs (_ - n0 + G) (_ - z0 + Gs) Q (F0 m pc ls (.ref (ρ a) :: r.map (s_v ρ)))
      rw [hρa]
      have hsame : ∀ z, s.fieldFound? (s_Tx cc k).1 (s_Tx cc k).2.1 (s_Tx cc k).2.2.1 = some z → s.fieldFound? (s_R cc) (s_Tx cc k).2.1 (s_Tx cc k).2.2.1 = some z := fun z h => by rw [o7 k hk] at h; exact h
      rcases hw with hw | hw
      · exact va_get hx hb hts (fun w hw => s_gw_mem (o3 w hw).1 (o3 w hw).2) hown hSR.1 hH.1 a he o1 k hk (hts _ hw) hsame (s_fs_at hk) hdg (kk H locs ls hH hS hl hL)
      · exact va_getN hx hb hts (fun w hw => s_gw_mem (o3 w hw).1 (o3 w hw).2) hown hSR.1 hH.1 a he o1 k hk (va_Nw.use rfl (hSR.2.1 _ hw)) hsame (s_fs_at hk) hdg (kk H locs ls hH hS hl hL)
    · cases hex2
theorem s_HR_set {h h1 : s_H} {H H1 : Heap} {a : Nat} {E1 : va_E} (hH : s_HR base ρ D cid xs Ln h H) (ha : a < h.1) (ha2 : a < 1000) (hn : h1.1 = h.1) (hfl : h1.2.2.1 = h.2.2.1) (hE : s_E ρ cid h1 a = E1) (ho : ∀ b, b ≠ a → h1.2.2.2.1 b = h.2.2.2.1 b ∧ h1.2.2.2.2.1 b = h.2.2.2.2.1 b ∧ h1.2.2.2.2.2 b = h.2.2.2.2.2 b) (hP : va_P D s_cl2 ((s_w base ρ cid h).set a (base + a, E1)) H1) : s_HR base ρ D cid xs Ln h1 H1 := by
  refine ⟨?_, fun hf => ?_⟩
  · rw [← hE, s_w_set hn ha (fun b hb => s_E_congr (ho b hb).1 (ho b hb).2.1 (ho b hb).2.2)] at hP
    exact hP
  · rw [hfl] at hf
    rw [(ho 1200 (by omega)).1, (ho 1201 (by omega)).1]
    exact hH.2 hf
theorem s_wI_o (h : s_H) {a b : Nat} (k : Nat) (x : Int32) (hb : b ≠ a) : (s_wI h a k x).2.2.2.1 b = h.2.2.2.1 b ∧ (s_wI h a k x).2.2.2.2.1 b = h.2.2.2.2.1 b ∧ (s_wI h a k x).2.2.2.2.2 b = h.2.2.2.2.2 b := ⟨s_up_n _ _ _ hb, rfl, rfl⟩
theorem s_wL_o (h : s_H) {a b : Nat} (k : Nat) (x : Int64) (hb : b ≠ a) : (s_wL h a k x).2.2.2.1 b = h.2.2.2.1 b ∧ (s_wL h a k x).2.2.2.2.1 b = h.2.2.2.2.1 b ∧ (s_wL h a k x).2.2.2.2.2 b = h.2.2.2.2.2 b := ⟨rfl, s_up_n _ _ _ hb, rfl⟩
theorem s_wR_o (h : s_H) {a b : Nat} (k : Nat) (x : Option Nat) (hb : b ≠ a) : (s_wR h a k x).2.2.2.1 b = h.2.2.2.1 b ∧ (s_wR h a k x).2.2.2.2.1 b = h.2.2.2.2.1 b ∧ (s_wR h a k x).2.2.2.2.2 b = h.2.2.2.2.2 b := ⟨rfl, rfl, s_up_n _ _ _ hb⟩
theorem s_pf_of {own pc pc1 cc k : Nat} {ini : Bool} {L L1 : s_L} {st st1 : List Value} {h h1 : s_H} (hex : s_pf own ini pc cc k L st h = some (.inl (pc1, L1, st1, h1))) : ∃ v a r, st = v :: .ref a :: r ∧ s_isG h a cc = true ∧ ((!(s_fi cc k)) || (ini && Nat.beq own cc)) = true ∧ pc1 = pc ∧ L1 = L ∧ st1 = r ∧ ((s_ft cc k = 0 ∧ ∃ x, v = .int x ∧ h1 = s_wI h a k x) ∨ (s_ft cc k = 1 ∧ ∃ x, v = .int x ∧ (x = 0 ∨ x = 1) ∧ h1 = s_wI h a k x) ∨ (s_ft cc k = 2 ∧ ∃ x, v = .long x ∧ h1 = s_wL h a k x) ∨ (s_ft cc k = 3 ∧ ∃ x, s_or v = some x ∧ h1 = s_wR h a k x)) := by
  unfold s_pf at hex
  split at hex
  · cases hex
  · rename_i hf
    split at hex
    · rename_i v a r
      split at hex
      · cases hex
      · rename_i hg
        split at hex
        · rename_i hft
          obtain ⟨e1, e2, e3, e4⟩ := s_nx_of hex
          exact ⟨_, _, _, rfl, hg, hf, e1, e2, e3, Or.inl ⟨hft, _, rfl, e4⟩⟩
        · rename_i hft
          split at hex
          · rename_i h01
            obtain ⟨e1, e2, e3, e4⟩ := s_nx_of hex
            exact ⟨_, _, _, rfl, hg, hf, e1, e2, e3, Or.inr (Or.inl ⟨hft, _, rfl, h01, e4⟩)⟩
          · cases hex
        · rename_i hft
          obtain ⟨e1, e2, e3, e4⟩ := s_nx_of hex
          exact ⟨_, _, _, rfl, hg, hf, e1, e2, e3, Or.inr (Or.inr (Or.inl ⟨hft, _, rfl, e4⟩))⟩
        · rename_i hft
          obtain ⟨e1, e2, e3, e4⟩ := s_nx_of hex
          exact ⟨_, _, _, rfl, hg, hf, e1, e2, e3, Or.inr (Or.inr (Or.inr ⟨hft, _, rfl, e4⟩))⟩
        · rename_i hft
          obtain ⟨e1, e2, e3, e4⟩ := s_nx_of hex
          exact ⟨_, _, _, rfl, hg, hf, e1, e2, e3, Or.inr (Or.inr (Or.inr ⟨hft, _, rfl, e4⟩))⟩
        · cases hex
    · cases hex
theorem s_va_ne {α : Type} (f : Nat → α) {j k : Nat} (v : α) (h : j ≠ k) : va_up f k v j = f j := if_neg h
theorem s_va_eq {α : Type} (f : Nat → α) (k : Nat) (v : α) : va_up f k v k = v := if_pos rfl
theorem s_pv_I {h : s_H} {t a j k : Nat} {x : Int32} (hj : j ≠ k) : s_pv (s_wI h a k x) t a j = s_pv h t a j := by
  unfold s_pv s_wI
  dsimp only
  rw [s_up_s, s_va_ne _ _ hj]
theorem s_pv_L {h : s_H} {t a j k : Nat} {x : Int64} (hj : j ≠ k) : s_pv (s_wL h a k x) t a j = s_pv h t a j := by
  unfold s_pv s_wL
  dsimp only
  rw [s_up_s, s_va_ne _ _ hj]
theorem s_pv_R {h : s_H} {t a j k : Nat} {x : Option Nat} (hj : j ≠ k) : s_pv (s_wR h a k x) t a j = s_pv h t a j := by
  unfold s_pv s_wR
  dsimp only
  rw [s_up_s, s_va_ne _ _ hj]
theorem s_tyc_0 {t : FieldType} (h : s_tyc t = 0) : t = .int := by cases t <;> first | rfl | cases h
theorem s_tyc_1 {t : FieldType} (h : s_tyc t = 1) : t = .boolean := by cases t <;> first | rfl | cases h
theorem s_tyc_2 {t : FieldType} (h : s_tyc t = 2) : t = .long := by cases t <;> first | rfl | cases h
theorem s_tyc_3 {t : FieldType} (h : s_tyc t = 3) : (∃ C, t = .object C) ∨ ∃ u, t = .array u := by cases t <;> first | exact Or.inl ⟨_, rfl⟩ | exact Or.inr ⟨_, rfl⟩ | cases h
set_option maxHeartbeats 2000000 in
theorem s_k_putf {x cc k : Nat} {cp : s_C} {q : s_M} {n0 z0 G Gs pc pc1 : Nat} {L L1 : s_L} {st st1 : List Value} {h h1 : s_H} {H : Heap} {locs : List Loc} {ls : Array Slot}
    (cx : s_Cx p s m args meth c base ρ D cid xs Ln q) (hcp : s_cps[q.2.2.2.2.1]? = some cp) (hH : s_HR base ρ D cid xs Ln h H) (hS : va_S (s_A base) s.heap H locs) (hl : lv_has ls q.2.2.1 (s_as ρ 0 L)) (hL : L.length = q.2.2.1)
    (hlo : s_look cp.1 x = some (cc, k)) (hex : s_pf q.2.2.2.2.1 q.2.2.2.2.2.1 (pc + 3) cc k L st h = some (.inl (pc1, L1, st1, h1))) (hdg : decode q.2.1 pc = .ok (.putfield x, 3))
    (kk : s_K p l e R s m args below meth c Q base ρ D cid xs Ln q n0 z0 G Gs pc1 L1 st1 h1) : W p l e R s m args below meth c H locs (h.1 - n0 + G) (h.2.1 - z0 + Gs) Q (F0 m pc ls (st.map (s_v ρ))) := by
  obtain ⟨hx, hb, hml, hown, hts, hin, hSR, hρ, hinj, hdc, hck⟩ := cx
  obtain ⟨v, a, r, rfl, hg, hf, rfl, rfl, rfl, hty⟩ := s_pf_of hex
  have ha := (s_isG_of hg).1
  have ha2 := s_isG_lt hg
  have hρa : ρ a = base + a := hρ a ha2
  rcases s_ckF_of hcp hlo with ⟨rfl, hw⟩ | ⟨h10, h13, hk, hw⟩
  · exfalso
    have h1 := (s_isG_of hg).2
    have h2 : ∀ z ∈ s_Gs, z.1 ≠ 10 := by decide +kernel
    exact h2 _ (List.mem_of_getElem? h1) rfl
  · obtain ⟨o1, o2, o3, o4, o5, o6, o7, o8, o9, o10⟩ := s_okC cc h13 h10
    have he := s_w_at (base := base) (ρ := ρ) (cid := cid) ha
    rw [s_E_obj hg (by omega)] at he
    have hsame : ∀ z, s.fieldFound? (s_Tx cc k).1 (s_Tx cc k).2.1 (s_Tx cc k).2.2.1 = some z → s.fieldFound? (s_R cc) (s_Tx cc k).2.1 (s_Tx cc k).2.2.1 = some z := fun z h => by rw [o7 k hk] at h; exact h
    -- the new heap, and what it holds at a
    have key : h1.1 = h.1 ∧ h1.2.2.1 = h.2.2.1 ∧ h1.2.1 = h.2.1 ∧ (∀ b, b ≠ a → h1.2.2.2.1 b = h.2.2.2.1 b ∧ h1.2.2.2.2.1 b = h.2.2.2.2.1 b ∧ h1.2.2.2.2.2 b = h.2.2.2.2.2 b) ∧ s_pv h1 (s_ft cc k) a k = v ∧ (∀ j, j ≠ k → s_pv h1 (s_ft cc j) a j = s_pv h (s_ft cc j) a j) ∧ narrow (s_tyx cc k) (s_v ρ v) = s_v ρ v ∧ fits (s_tyx cc k) (s_v ρ v) = true := by
      have ht := o6 k hk
      rcases hty with ⟨h0, x, rfl, rfl⟩ | ⟨h0, x, rfl, h01, rfl⟩ | ⟨h0, x, rfl, rfl⟩ | ⟨h0, x, hv, rfl⟩
      · rw [h0] at ht
        rw [s_tyc_0 ht, h0]
        refine ⟨rfl, rfl, rfl, fun b hb => s_wI_o h k x hb, ?_, fun j hj => s_pv_I hj, rfl, rfl⟩
        show Value.int (s_up h.2.2.2.1 a k x a k) = _
        rw [s_up_s, s_va_eq]
      · rw [h0] at ht
        rw [s_tyc_1 ht, h0]
        refine ⟨rfl, rfl, rfl, fun b hb => s_wI_o h k x hb, ?_, fun j hj => s_pv_I hj, ?_, ?_⟩
        · show Value.int (s_up h.2.2.2.1 a k x a k) = _
          rw [s_up_s, s_va_eq]
        · rcases h01 with rfl | rfl <;> rfl
        · rcases h01 with rfl | rfl <;> rfl
      · rw [h0] at ht
        rw [s_tyc_2 ht, h0]
        refine ⟨rfl, rfl, rfl, fun b hb => s_wL_o h k x hb, ?_, fun j hj => s_pv_L hj, rfl, rfl⟩
        show Value.long (s_up h.2.2.2.2.1 a k x a k) = _
        rw [s_up_s, s_va_eq]
      · rw [h0] at ht
        rw [h0]
        refine ⟨rfl, rfl, rfl, fun b hb => s_wR_o h k x hb, ?_, fun j hj => s_pv_R hj, ?_, ?_⟩
        · show va_rf (s_up h.2.2.2.2.2 a k x a k) = _
          rw [s_up_s, s_va_eq]
          have := s_or_of hv id
          cases v <;> first | (cases hv; rfl) | cases hv
        · rcases s_tyc_3 ht with ⟨C, e⟩ | ⟨u, e⟩ <;> rw [e] <;> cases v <;> first | rfl | cases hv
        · rcases s_tyc_3 ht with ⟨C, e⟩ | ⟨u, e⟩ <;> rw [e] <;> cases v <;> first | rfl | cases hv
    obtain ⟨n1, n8, n2, n3, n4, n5, n6, n7⟩ := key
    have hg1 : s_isG h1 a cc = true := by unfold s_isG at hg ⊢; rw [n1]; exact hg
    have hset : (s_fs ρ h a cc).set k (s_v ρ v) = s_fs ρ h1 a cc := by
      have := s_fs_set (ρ := ρ) (h := h) (h' := h1) (a := a) hk n5
      rw [n4] at this
      exact this
    have go : ∀ (H1 : Heap) (locs1 : List Loc), va_P D s_cl2 ((s_w base ρ cid h).set a (base + a, .inr (cc, (s_fs ρ h a cc).set k (s_v ρ v)))) H1 → va_D (s_A base) ((s_w base ρ cid h).set a (base + a, .inr (cc, (s_fs ρ h a cc).set k (s_v ρ v)))) → va_S (s_A base) s.heap H1 locs1 → W p l e R s m args below meth c H1 locs1 (h.1 - n0 + G) (h.2.1 - z0 + Gs) Q (F0 m (pc + 3) ls (st1.map (s_v ρ))) := by
      intro H1 locs1 hP _ hS1
      rw [hset] at hP
      have := kk H1 locs1 ls (s_HR_set hH ha ha2 n1 n8 (s_E_obj hg1 (by omega)) n3 hP) hS1 hl hL
      rw [n1, n2] at this
      exact this
    show W p l e R s m args below meth c H locs (h.1 - n0 + G) (h.2.1 - z0 + Gs) Q (F0 m pc ls (s_v ρ v :: .ref (ρ a) :: st1.map (s_v ρ)))
    rw [hρa]
    have hfin := o8 k hk
    have hD : va_D (s_A base) (s_w base ρ cid h) := s_w_D
    cases hfi : s_fi cc k with
    | false =>
      rw [hfi] at hfin
      rcases hw with hw | hw
      · exact va_put hx hb hts (fun w hw => s_gw_mem (o3 w hw).1 (o3 w hw).2) (s_tyx cc) o4 o5 hown hSR.1 hH.1 hD hS a he o1 k hk (hts _ hw) hsame hfin (o4 k hk) n6 n7 (by rw [s_fs_len]; exact hk) hdg go
      · exact va_putN hx hb hts (fun w hw => s_gw_mem (o3 w hw).1 (o3 w hw).2) (s_tyx cc) o4 o5 hown hSR.1 hH.1 hD hS a he o1 k hk (va_Nw.use rfl (hSR.2.1 _ hw)) hsame hfin (o4 k hk) n6 n7 (by rw [s_fs_len]; exact hk) hdg go
    | true =>
      rw [hfi] at hfin hf
      have hf2 : q.2.2.2.2.2.1 = true ∧ q.2.2.2.2.1 = cc := by
        simp only [Bool.not_true, Bool.false_or, Bool.and_eq_true] at hf
        exact ⟨hf.1, Nat.eq_of_beq_eq_true hf.2⟩
      have hdecl : (s_Tx cc k).1 = s_R q.2.2.2.2.1 := by rw [o7 k hk, hf2.2]
      rcases hw with hw | hw
      · exact va_putF hx hb hts (fun w hw => s_gw_mem (o3 w hw).1 (o3 w hw).2) (s_tyx cc) o4 o5 hown hSR.1 hH.1 hD hS a he o1 k hk (hts _ hw) hsame hfin (hin hf2.1) hdecl (o4 k hk) n6 n7 (by rw [s_fs_len]; exact hk) hdg go
      · exfalso
        have h2 : ∀ z ∈ s_nws, (match z with
          | Cond.fieldLinkNest a _ b _ _ _ => decide (a = b)
          | _ => false) = false := by decide +kernel
        have h3 := h2 _ hw
        dsimp only at h3
        rw [hf2.2] at h3
        simp at h3
end SNE
