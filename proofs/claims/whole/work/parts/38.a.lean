-- BOOK: lines
def t_zC (X Y : s_G) : Prop := (∀ a, ¬ a = 1 ∧ (a < 37 ∨ 42 < a) → Y.1 a = X.1 a ∧ Y.2.1 a = X.2.1 a ∧ Y.2.2 a = X.2.2 a) ∧ ∀ k, ¬ k = 5 → Y.1 37 k = X.1 37 k
def t_zM (X Y : s_G) : Prop := (∀ a, ¬ a = 130 ∧ ¬ a = 149 → Y.1 a = X.1 a ∧ Y.2.1 a = X.2.1 a) ∧ Y.2.2 = X.2.2 ∧ ∀ k, k < 2 ∨ 13 < k ∧ ¬ k = 41 → Y.1 130 k = X.1 130 k
theorem t_zC.rf (X : s_G) : t_zC X X := ⟨fun _ _ => ⟨rfl, rfl, rfl⟩, fun _ _ => rfl⟩
theorem t_zM.rf (X : s_G) : t_zM X X := ⟨fun _ _ => ⟨rfl, rfl⟩, rfl, fun _ _ => rfl⟩
theorem t_zC.tr {X Y Z : s_G} (h1 : t_zC X Y) (h2 : t_zC Y Z) : t_zC X Z := ⟨fun a ha => ⟨(h2.1 a ha).1.trans (h1.1 a ha).1, (h2.1 a ha).2.1.trans (h1.1 a ha).2.1, (h2.1 a ha).2.2.trans (h1.1 a ha).2.2⟩, fun k hk => (h2.2 k hk).trans (h1.2 k hk)⟩
theorem t_zM.tr {X Y Z : s_G} (h1 : t_zM X Y) (h2 : t_zM Y Z) : t_zM X Z := ⟨fun a ha => ⟨(h2.1 a ha).1.trans (h1.1 a ha).1, (h2.1 a ha).2.trans (h1.1 a ha).2⟩, h2.2.1.trans h1.2.1, fun k hk => (h2.2.2 k hk).trans (h1.2.2 k hk)⟩
theorem t_wC.z {X Y : s_G} (h : t_wC X Y) : t_zC X Y := ⟨fun a ha => h a ha.1, fun k _ => by rw [(h 37 (by omega)).1]⟩
theorem t_wM.z {X Y : s_G} (h : t_wM X Y) : t_zM X Y := ⟨fun a ha => h.1 a ha.1, h.2.1, fun k hk => h.2.2 k (by omega)⟩
theorem t_zC.si {X : s_G} {c k : Nat} {v : Int32} (h : 38 ≤ c) (h2 : c ≤ 42) : t_zC X (s_si X c k v) := ⟨fun a ha => ⟨e_sN (by omega), rfl, rfl⟩, fun k _ => by rw [e_sN (by omega)]⟩
theorem t_zC.s5 {X : s_G} {v : Int32} : t_zC X (s_si X 37 5 v) := ⟨fun a ha => ⟨e_sN (by omega), rfl, rfl⟩, fun k hk => by rw [e_sS, e_vn _ _ hk]⟩
theorem t_zM.si {X : s_G} {k : Nat} {v : Int32} : t_zM X (s_si X 149 k v) := ⟨fun a ha => ⟨e_sN ha.2, rfl⟩, rfl, fun j _ => by rw [e_sN (by omega)]⟩
theorem t_zM.s1 {X : s_G} {v : Int32} : t_zM X (s_si X 130 41 v) := ⟨fun a ha => ⟨e_sN ha.1, rfl⟩, rfl, fun j hj => by rw [e_sS, e_vn _ _ (by omega)]⟩
/-- a line, as both have it -/
def t_b1 (nb ne i : Nat) (r8 r9 r0 r1 r2 ln : Nat → Int32) : Prop := ∃ w, w ≤ 5 ∧ r8 i = Int32.ofNat (10 * w) ∧ ln (5 * i) = Int32.ofNat w ∧ (w ≤ 2 → ∃ b e, b < nb ∧ e < ne ∧ r9 i = Int32.ofNat b ∧ ln (5 * i + 1) = Int32.ofNat b ∧ r0 i = Int32.ofNat e ∧ ln (5 * i + 2) = Int32.ofNat e) ∧ (w = 2 → ∃ c k, c < nb ∧ 1 ≤ k ∧ k ≤ 40 ∧ r1 i = Int32.ofNat c ∧ ln (5 * i + 3) = Int32.ofNat c ∧ r2 i = Int32.ofNat k ∧ ln (5 * i + 4) = Int32.ofNat k) ∧ (w = 5 → ∃ k, 1 ≤ k ∧ k ≤ 60 ∧ r2 i = Int32.ofNat k ∧ ln (5 * i + 1) = Int32.ofNat k)
theorem t_b1_cg {nb ne i : Nat} {r8 r9 r0 r1 r2 ln r8' r9' r0' r1' r2' ln' : Nat → Int32} (h : t_b1 nb ne i r8 r9 r0 r1 r2 ln) (h8 : r8' i = r8 i) (h9 : r9' i = r9 i) (h0 : r0' i = r0 i) (h1 : r1' i = r1 i) (h2 : r2' i = r2 i) (hl : ∀ j, j < 5 → ln' (5 * i + j) = ln (5 * i + j)) : t_b1 nb ne i r8' r9' r0' r1' r2' ln' := by
  unfold t_b1
  rw [h8, h9, h0, h1, h2, show ln' (5 * i) = ln (5 * i) from hl 0 (by omega), hl 1 (by omega), hl 2 (by omega), hl 3 (by omega), hl 4 (by omega)]
  exact h
def t_Bk (lc nb ne : Nat) (C M : s_G) : Prop := (lc ≤ 40 ∧ C.1 37 5 = Int32.ofNat lc ∧ M.1 130 41 = Int32.ofNat lc) ∧ (nb ≤ 7 ∧ C.1 3 0 = Int32.ofNat nb ∧ M.1 132 0 = Int32.ofNat nb) ∧ (ne ≤ 10 ∧ C.1 3 1 = Int32.ofNat ne ∧ M.1 132 1 = Int32.ofNat ne) ∧ e_NM nb ne (C.2.1 4) (M.2.1 137)
theorem t_Bk_cg {lc nb ne : Nat} {C M C' M' : s_G} (h : t_Bk lc nb ne C M) (c1 : C'.1 37 5 = C.1 37 5) (c2 : C'.1 3 = C.1 3) (c3 : C'.2.1 4 = C.2.1 4) (m1 : M'.1 130 41 = M.1 130 41) (m2 : M'.1 132 = M.1 132) (m3 : M'.2.1 137 = M.2.1 137) : t_Bk lc nb ne C' M' := by
  unfold t_Bk
  rw [c1, c2, c3, m1, m2, m3]
  exact h
theorem t_Bk_w {lc nb ne : Nat} {C M C' M' : s_G} (h : t_Bk lc nb ne C M) (c : t_wC C C') (m : t_wM M M') : t_Bk lc nb ne C' M' := t_Bk_cg h (by rw [(c 37 (by omega)).1]) (c 3 (by omega)).1 (c 4 (by omega)).2.1 (m.2.2 41 (by omega)) (m.1 132 (by omega)).1 (m.1 137 (by omega)).2
theorem t_Bk_s {lc nb ne cc k : Nat} {v : Int32} {C M : s_G} (h : t_Bk lc nb ne C M) (hc : 38 ≤ cc) : t_Bk lc nb ne (s_si C cc k v) M := t_Bk_cg h (by rw [e_sN (by omega)]) (e_sN (by omega)) rfl rfl rfl rfl
theorem t_Bk_m {lc nb ne k : Nat} {v : Int32} {C M : s_G} (h : t_Bk lc nb ne C M) : t_Bk lc nb ne C (s_si M 149 k v) := t_Bk_cg h rfl rfl rfl (by rw [e_sN (by omega)]) (e_sN (by omega)) rfl
theorem t_P_s {n m a p cc k : Nat} {t : t_Tk} {v : Int32} {C M : s_G} (h : t_P n m t a p C M) (hc : 38 ≤ cc) : t_P n m t a p (s_si C cc k v) M := t_P_c h (e_sN (by omega)) (e_sN (by omega)) rfl rfl
theorem t_P_9 {n m a p k : Nat} {t : t_Tk} {v : Int32} {C M : s_G} (h : t_P n m t a p C M) : t_P n m t a p C (s_si M 149 k v) := t_P_m h (fun j _ => by rw [e_sN (by omega)]) (e_sN (by omega)) rfl
/-- what a reading of a line comes to, its end apart -/
def t_OL (n m a nb ne lc : Nat) (C M : s_G) (oc om : Option (Int32 × s_G)) : Prop := (∃ C' M' t' a' p', oc = some (1, C') ∧ om = some (1, M') ∧ t_P n m t' a' p' C' M' ∧ (2 ≤ t'.1 → a < a') ∧ t_Bk lc nb ne C' M' ∧ ((∀ i, ¬ i = lc → C'.1 38 i = C.1 38 i ∧ C'.1 39 i = C.1 39 i ∧ C'.1 40 i = C.1 40 i ∧ C'.1 41 i = C.1 41 i ∧ C'.1 42 i = C.1 42 i) ∧ (∀ j, j < 5 * lc → M'.1 149 j = M.1 149 j) ∧ t_b1 nb ne lc (C'.1 38) (C'.1 39) (C'.1 40) (C'.1 41) (C'.1 42) (M'.1 149)) ∧ t_zC C C' ∧ t_zM M M') ∨ (∃ C' M', oc = some (0, C') ∧ om = some (0, M') ∧ t_F C' M' ∧ t_zC C C' ∧ t_zM M M')
-- what one does: tells, lies, gives
theorem t_doesM {t : t_Tk} {M : s_G} {x1 : Int32} (ho : t_ok t) (h : t_tM t M) : (∃ w, w < 3 ∧ t_is t (11 + w) ∧ fM_readDoes_130 x1 M = fM_readDoes_130_23 x1 (Int32.ofNat (11 + w)) M) ∨ ((∀ w, w < 3 → ¬ t_is t (11 + w)) ∧ fM_readDoes_130 x1 M = fM_readDoes_130_23 x1 14 M) := by
  have step : ∀ w, w < 3 → ¬ t_is t (11 + w) → fM_readDoes_130_3 x1 (Int32.ofNat (11 + w)) M = some (.inl (Int32.ofNat (11 + (w + 1)))) := by
    intro w hw hn
    unfold fM_readDoes_130_3
    rw [if_neg (show ¬ 13 < Int32.ofNat (11 + w) from e_F (a := 13) (by omega) (by omega)), t_isWM ho h (by omega), s_b1_s, e_bi_f hn, if_pos rfl, e_inc]
    rfl
  have hit : ∀ w, w < 3 → t_is t (11 + w) → fM_readDoes_130_3 x1 (Int32.ofNat (11 + w)) M = s_in (fM_readDoes_130_23 x1 (Int32.ofNat (11 + w)) M) := by
    intro w hw hn
    unfold fM_readDoes_130_3
    rw [if_neg (show ¬ 13 < Int32.ofNat (11 + w) from e_F (a := 13) (by omega) (by omega)), t_isWM ho h (by omega), s_b1_s, e_bi_t hn, if_neg (by decide)]
  have fin : ∀ (k : Nat) (x : Int32) (F : Option (Int32 × s_G)), k ≤ 3 → (∀ w, w < k → ¬ t_is t (11 + w)) → fM_readDoes_130_3 x1 (Int32.ofNat (11 + k)) M = s_in F → fM_readDoes_130 x1 M = F := by
    intro k x F hk hno hF
    unfold fM_readDoes_130
    have e1 : s_lp (fun x => fM_readDoes_130_3 x1 x M) 11 = s_lp (fun x => fM_readDoes_130_3 x1 x M) (Int32.ofNat (11 + k)) := e_seq (fun k => Int32.ofNat (11 + k)) k (fun j hj => step j (by omega) (hno j hj))
    rw [e1]
    cases F with
    | some r => exact s_lp_out hF
    | none =>
      cases hl : s_lp (fun x => fM_readDoes_130_3 x1 x M) (Int32.ofNat (11 + k)) with
      | none => rfl
      | some r =>
        obtain ⟨q, hq⟩ := s_lp_to hl
        cases q with
        | zero => cases hq
        | succ q =>
          rw [s_it, hF] at hq
          cases hq
  by_cases h0 : t_is t 11
  · exact Or.inl ⟨0, by omega, h0, fin 0 0 _ (by omega) (fun w hw => by omega) (hit 0 (by omega) h0)⟩
  by_cases h1 : t_is t 12
  · refine Or.inl ⟨1, by omega, h1, fin 1 0 _ (by omega) (fun w hw => ?_) (hit 1 (by omega) h1)⟩
    obtain rfl : w = 0 := by omega
    exact h0
  by_cases h2 : t_is t 13
  · refine Or.inl ⟨2, by omega, h2, fin 2 0 _ (by omega) (fun w hw => ?_) (hit 2 (by omega) h2)⟩
    have : w = 0 ∨ w = 1 := by omega
    rcases this with rfl | rfl
    · exact h0
    · exact h1
  have hno : ∀ w, w < 3 → ¬ t_is t (11 + w) := by
    intro w hw
    have : w = 0 ∨ w = 1 ∨ w = 2 := by omega
    rcases this with rfl | rfl | rfl
    · exact h0
    · exact h1
    · exact h2
  refine Or.inr ⟨hno, fin 3 0 _ (by omega) hno ?_⟩
  unfold fM_readDoes_130_3
  rw [if_pos (by decide)]
  rfl
theorem t_keep1 {M : s_G} {k : Nat} (hk : k < 200) : fM_keep_130 (Int32.ofNat k) 1 M = some (1, s_si M 149 k (M.1 130 13)) := by
  unfold fM_keep_130
  rw [if_neg (by decide), e_ix hk (by omega), s_b1_s, t_or1]
theorem t_keep0 {M : s_G} {x : Int32} : fM_keep_130 x 0 M = some (0, M) := by
  unfold fM_keep_130
  rw [if_pos rfl, t_or0]
/-- a gift -/
theorem t_gift {n m a p nb ne lc : Nat} {t : t_Tk} {C M : s_G} (h : t_P n m t a p C M) (hB : t_Bk lc nb ne C M) (hlc : lc < 40) :
    (∃ c k C' M' t' a' p', 2 ≤ t.1 ∧ c < nb ∧ 1 ≤ k ∧ k ≤ 40 ∧ fB_readGift_37_1_3 C = some (1, C') ∧ (s_b2 (fM_readNamed_130 0 (M.1 132 0) M) fun v12 g11 => s_b2 (fM_keep_130 (Int32.ofNat (5 * lc + 3)) v12 g11) fun v14 g13 => if v14 = 0 then (some ((0 : Int32), g13)) else s_b2 (fM_readNumber_130 (1 : Int32) (40 : Int32) g13) fun v16 g15 => s_b2 (fM_keep_130 (Int32.ofNat (5 * lc + 4)) v16 g15) fun v18 g17 => if v18 = 0 then (some ((0 : Int32), g17)) else some ((1 : Int32), g17)) = some (1, M') ∧ t_P n m t' a' p' C' M' ∧ (2 ≤ t'.1 → a < a') ∧ t_Bk lc nb ne C' M' ∧ (C'.1 38 = C.1 38 ∧ C'.1 39 = C.1 39 ∧ C'.1 40 = C.1 40 ∧ C'.1 41 = va_up (C.1 41) lc (Int32.ofNat c) ∧ C'.1 42 = va_up (C.1 42) lc (Int32.ofNat k)) ∧ M'.1 149 = va_up (va_up (M.1 149) (5 * lc + 3) (Int32.ofNat c)) (5 * lc + 4) (Int32.ofNat k) ∧ t_zC C C' ∧ t_zM M M') ∨
    (∃ C' M', fB_readGift_37_1_3 C = some (0, C') ∧ (s_b2 (fM_readNamed_130 0 (M.1 132 0) M) fun v12 g11 => s_b2 (fM_keep_130 (Int32.ofNat (5 * lc + 3)) v12 g11) fun v14 g13 => if v14 = 0 then (some ((0 : Int32), g13)) else s_b2 (fM_readNumber_130 (1 : Int32) (40 : Int32) g13) fun v16 g15 => s_b2 (fM_keep_130 (Int32.ofNat (5 * lc + 4)) v16 g15) fun v18 g17 => if v18 = 0 then (some ((0 : Int32), g17)) else some ((1 : Int32), g17)) = some (0, M') ∧ t_F C' M' ∧ t_zC C C' ∧ t_zM M M') := by
  obtain ⟨⟨l1, l2, l3⟩, ⟨n1, n2, n3⟩, ⟨e1, e2, e3⟩, hN⟩ := id hB
  unfold fB_readGift_37_1_3
  rw [t_b1_b2, n3, l2, e_ix hlc (by omega)]
  rcases t_named_bo h n1 n2 hN.1 with ⟨c, C1, M1, t1, a1, p1, x0, x1, x2, x3, x4, x5, x6, x7, x8⟩ | ⟨C1, M1, x1, x2, x3, x4, x5⟩
  · have l21 : C1.1 37 5 = Int32.ofNat lc := by rw [(x7 37 (by omega)).1]; exact l2
    rw [x2, s_b2_s, l21, e_ix hlc (by omega), s_b1_s, s_b1_s, e_sS, e_ve, if_neg (t_ne_m1 (by omega)), show fM_readNamed_130 0 (Int32.ofNat nb) M = _ from x3, s_b2_s, t_keep1 (by omega), s_b2_s, if_neg (by decide), x4]
    have x5' : t_P n m t1 a1 p1 (s_si C1 41 lc (Int32.ofNat c)) (s_si M1 149 (5 * lc + 3) (Int32.ofNat c)) := t_P_9 (t_P_s x5 (by omega))
    have hB1 : t_Bk lc nb ne (s_si C1 41 lc (Int32.ofNat c)) (s_si M1 149 (5 * lc + 3) (Int32.ofNat c)) := t_Bk_m (t_Bk_s (t_Bk_w hB x7 x8) (by omega))
    rcases t_num x5' (x := 1) (y := 40) (by omega) (by omega) with ⟨k, C2, M2, t2, a2, p2, v0, v1, v2, v3, v4, v5, v6, v7, v8, v9⟩ | ⟨C2, M2, v1, v2, v3, v4, v5⟩
    · have hB2 := t_Bk_w hB1 v8 v9
      rw [show fQ_passNumber_1 1 40 (s_si C1 41 lc (Int32.ofNat c)) = _ from v3, s_b2_s, hB2.1.2.1, e_ix hlc (by omega), s_b1_s, e_sS, e_ve, if_neg (t_ne_m1 (by omega)), show fM_readNumber_130 1 40 (s_si M1 149 (5 * lc + 3) (Int32.ofNat c)) = _ from v4, s_b2_s, t_keep1 (by omega), s_b2_s, if_neg (by decide), v5]
      refine Or.inl ⟨c, k, _, _, t2, a2, p2, x0, x1, v1, v2, rfl, rfl, t_P_9 (t_P_s v6 (by omega)), fun h2 => by have := v7 h2; have := x6 v0; omega, t_Bk_m (t_Bk_s hB2 (by omega)), ⟨?_, ?_, ?_, ?_, ?_⟩, ?_, ((x7.z.tr (t_zC.si (by omega) (by omega))).tr v8.z).tr (t_zC.si (by omega) (by omega)), ((x8.z.tr t_zM.si).tr v9.z).tr t_zM.si⟩
      · rw [e_sN (by omega), (v8 38 (by omega)).1, e_sN (by omega), (x7 38 (by omega)).1]
      · rw [e_sN (by omega), (v8 39 (by omega)).1, e_sN (by omega), (x7 39 (by omega)).1]
      · rw [e_sN (by omega), (v8 40 (by omega)).1, e_sN (by omega), (x7 40 (by omega)).1]
      · rw [e_sN (by omega), (v8 41 (by omega)).1, e_sS, (x7 41 (by omega)).1]
      · rw [e_sS, (v8 42 (by omega)).1, e_sN (by omega), (x7 42 (by omega)).1]
      · rw [e_sS, (v9.1 149 (by omega)).1, e_sS, (x8.1 149 (by omega)).1]
    · have l22 : C2.1 37 5 = Int32.ofNat lc := by rw [(v4 37 (by omega)).1, e_sN (by omega)]; exact l21
      rw [show fQ_passNumber_1 1 40 (s_si C1 41 lc (Int32.ofNat c)) = _ from v1, s_b2_s, l22, e_ix hlc (by omega), s_b1_s, e_sS, e_ve, if_pos rfl, show fM_readNumber_130 1 40 (s_si M1 149 (5 * lc + 3) (Int32.ofNat c)) = _ from v2, s_b2_s, t_keep0, s_b2_s, if_pos rfl]
      exact Or.inr ⟨_, M2, rfl, rfl, t_F_cg v3 (e_sN (by omega)) (e_sN (by omega)) (fun _ _ => rfl) rfl, ((x7.z.tr (t_zC.si (by omega) (by omega))).tr v4.z).tr (t_zC.si (by omega) (by omega)), (x8.z.tr t_zM.si).tr v5.z⟩
  · have l21 : C1.1 37 5 = Int32.ofNat lc := by rw [(x4 37 (by omega)).1]; exact l2
    rw [x1, s_b2_s, l21, e_ix hlc (by omega), s_b1_s, s_b1_s, e_sS, e_ve, if_pos rfl, show fM_readNamed_130 0 (Int32.ofNat nb) M = _ from x2, s_b2_s, t_keep0, s_b2_s, if_pos rfl]
    exact Or.inr ⟨_, M1, rfl, rfl, t_F_cg x3 (e_sN (by omega)) (e_sN (by omega)) (fun _ _ => rfl) rfl, x4.z.tr (t_zC.si (by omega) (by omega)), x5.z⟩
