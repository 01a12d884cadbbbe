-- CAMP: names that are looked up
theorem t_boyC_10 {C : s_G} {nb : Nat} {l : List Nat} (h0 : C.1 10 0 = Int32.ofNat nb) (hnb : nb ≤ 7) : fP_boyNamed_10 (Int64.ofNat (e_pk 32 l)) C = some (t_fst (t_sm (C.2.1 11) 0 l) nb) := by
  unfold fP_boyNamed_10
  refine t_find (B := fun x => fP_boyNamed_10_2 (Int64.ofNat (e_pk 32 l)) x C) (fun j hj => ?_) ?_
  · try dsimp only
    unfold fP_boyNamed_10_2
    rw [h0, if_pos (e_T hj (by omega)), e_ix (show j < 17 by omega) (by omega), s_b1_s, e_inc]
    by_cases hb : t_sm (C.2.1 11) 0 l j = true
    · have hb' := of_decide_eq_true hb
      rw [Nat.zero_add] at hb'
      rw [if_pos hb, if_pos (t_cmp.mpr hb')]; rfl
    · rw [if_neg hb, if_neg (fun hh => hb (decide_eq_true (by rw [Nat.zero_add]; exact t_cmp.mp hh)))]
  · try dsimp only
    unfold fP_boyNamed_10_2
    rw [h0, if_neg (e_F (Nat.le_refl nb) (by omega))]; rfl
theorem t_evC_10 {C : s_G} {ne : Nat} {l : List Nat} (h0 : C.1 10 1 = Int32.ofNat ne) (hne : ne ≤ 10) : fP_eventNamed_10 (Int64.ofNat (e_pk 32 l)) C = some (t_fst (t_sm (C.2.1 11) 7 l) ne) := by
  unfold fP_eventNamed_10
  refine t_find (B := fun x => fP_eventNamed_10_2 (Int64.ofNat (e_pk 32 l)) x C) (fun j hj => ?_) ?_
  · try dsimp only
    unfold fP_eventNamed_10_2
    rw [h0, if_pos (e_T hj (by omega)), show (7 : Int32) + Int32.ofNat j = Int32.ofNat (7 + j) from by rw [Int32.ofNat_add]; rfl, e_ix (show 7 + j < 17 by omega) (by omega), s_b1_s, e_inc]
    by_cases hb : t_sm (C.2.1 11) 7 l j = true
    · rw [if_pos hb, if_pos (t_cmp.mpr (of_decide_eq_true hb))]; rfl
    · rw [if_neg hb, if_neg (fun hh => hb (decide_eq_true (t_cmp.mp hh)))]
  · try dsimp only
    unfold fP_eventNamed_10_2
    rw [h0, if_neg (e_F (Nat.le_refl ne) (by omega))]; rfl
theorem t_findM_138 {M : s_G} {N b : Nat} {l : List Nat} {x : Nat → Int64} (hl : e_ltr l) (hnm : ∀ j, j < N → e_nm (x (b + j)) (M.2.1 138 (b + j))) (hb : b + N ≤ 17) : fM_findIn_138 (Int32.ofNat b) (Int32.ofNat N) (Int64.ofNat (e_pk 27 l)) M = some (t_fst (t_sm x b l) N) := by
  unfold fM_findIn_138
  refine t_find (B := fun x => fM_findIn_138_3 (Int32.ofNat b) (Int32.ofNat N) (Int64.ofNat (e_pk 27 l)) x M) (fun j hj => ?_) ?_
  · try dsimp only
    unfold fM_findIn_138_3
    rw [if_pos (e_T hj (by omega)), ← Int32.ofNat_add, e_ix (show b + j < 17 by omega) (by omega), s_b1_s, e_inc]
    have hq := t_sm_m hl (hnm j hj)
    by_cases hb : t_sm x b l j = true
    · rw [if_pos hb, if_pos (t_cmp.mpr (hq.mpr hb))]; rfl
    · rw [if_neg hb, if_neg (fun hh => hb (hq.mp (t_cmp.mp hh)))]
  · try dsimp only
    unfold fM_findIn_138_3
    rw [if_neg (e_F (Nat.le_refl N) (by omega))]; rfl
theorem t_boyC_3 {C : s_G} {nb : Nat} {l : List Nat} (h0 : C.1 3 0 = Int32.ofNat nb) (hnb : nb ≤ 7) : fP_boyNamed_3 (Int64.ofNat (e_pk 32 l)) C = some (t_fst (t_sm (C.2.1 4) 0 l) nb) := by
  unfold fP_boyNamed_3
  refine t_find (B := fun x => fP_boyNamed_3_2 (Int64.ofNat (e_pk 32 l)) x C) (fun j hj => ?_) ?_
  · try dsimp only
    unfold fP_boyNamed_3_2
    rw [h0, if_pos (e_T hj (by omega)), e_ix (show j < 17 by omega) (by omega), s_b1_s, e_inc]
    by_cases hb : t_sm (C.2.1 4) 0 l j = true
    · have hb' := of_decide_eq_true hb
      rw [Nat.zero_add] at hb'
      rw [if_pos hb, if_pos (t_cmp.mpr hb')]; rfl
    · rw [if_neg hb, if_neg (fun hh => hb (decide_eq_true (by rw [Nat.zero_add]; exact t_cmp.mp hh)))]
  · try dsimp only
    unfold fP_boyNamed_3_2
    rw [h0, if_neg (e_F (Nat.le_refl nb) (by omega))]; rfl
theorem t_evC_3 {C : s_G} {ne : Nat} {l : List Nat} (h0 : C.1 3 1 = Int32.ofNat ne) (hne : ne ≤ 10) : fP_eventNamed_3 (Int64.ofNat (e_pk 32 l)) C = some (t_fst (t_sm (C.2.1 4) 7 l) ne) := by
  unfold fP_eventNamed_3
  refine t_find (B := fun x => fP_eventNamed_3_2 (Int64.ofNat (e_pk 32 l)) x C) (fun j hj => ?_) ?_
  · try dsimp only
    unfold fP_eventNamed_3_2
    rw [h0, if_pos (e_T hj (by omega)), show (7 : Int32) + Int32.ofNat j = Int32.ofNat (7 + j) from by rw [Int32.ofNat_add]; rfl, e_ix (show 7 + j < 17 by omega) (by omega), s_b1_s, e_inc]
    by_cases hb : t_sm (C.2.1 4) 7 l j = true
    · rw [if_pos hb, if_pos (t_cmp.mpr (of_decide_eq_true hb))]; rfl
    · rw [if_neg hb, if_neg (fun hh => hb (decide_eq_true (t_cmp.mp hh)))]
  · try dsimp only
    unfold fP_eventNamed_3_2
    rw [h0, if_neg (e_F (Nat.le_refl ne) (by omega))]; rfl
theorem t_findM_137 {M : s_G} {N b : Nat} {l : List Nat} {x : Nat → Int64} (hl : e_ltr l) (hnm : ∀ j, j < N → e_nm (x (b + j)) (M.2.1 137 (b + j))) (hb : b + N ≤ 17) : fM_findIn_137 (Int32.ofNat b) (Int32.ofNat N) (Int64.ofNat (e_pk 27 l)) M = some (t_fst (t_sm x b l) N) := by
  unfold fM_findIn_137
  refine t_find (B := fun x => fM_findIn_137_3 (Int32.ofNat b) (Int32.ofNat N) (Int64.ofNat (e_pk 27 l)) x M) (fun j hj => ?_) ?_
  · try dsimp only
    unfold fM_findIn_137_3
    rw [if_pos (e_T hj (by omega)), ← Int32.ofNat_add, e_ix (show b + j < 17 by omega) (by omega), s_b1_s, e_inc]
    have hq := t_sm_m hl (hnm j hj)
    by_cases hb : t_sm x b l j = true
    · rw [if_pos hb, if_pos (t_cmp.mpr (hq.mpr hb))]; rfl
    · rw [if_neg hb, if_neg (fun hh => hb (hq.mp (t_cmp.mp hh)))]
  · try dsimp only
    unfold fM_findIn_137_3
    rw [if_neg (e_F (Nat.le_refl N) (by omega))]; rfl
-- CAMP: what is read so far
def t_D (nb ne : Nat) (C M : s_G) : Prop := e_HW nb ne (M.1 133) ∧ e_CR nb ne (C.1 10) (C.1 12) (C.1 13) (C.1 14) (C.1 15) (C.1 16) (M.1 133) ∧ e_NM nb ne (C.2.1 11) (M.2.1 138) ∧ (∃ tt, tt < 16 ∧ C.1 10 12 = Int32.ofNat tt ∧ ∀ k, k < 4 → M.1 142 k = t_bI (tt.testBit k)) ∧ ∃ oo, oo < 16 ∧ C.1 10 13 = Int32.ofNat oo ∧ ∀ k, k < 4 → M.1 141 k = t_bI (oo.testBit k)
theorem t_D_cg {nb ne : Nat} {C M C' M' : s_G} (h : t_D nb ne C M) (c : ∀ a, 10 ≤ a → a ≤ 16 → C'.1 a = C.1 a ∧ C'.2.1 a = C.2.1 a) (m : ∀ a, a = 133 ∨ a = 138 ∨ a = 141 ∨ a = 142 → M'.1 a = M.1 a ∧ M'.2.1 a = M.2.1 a) : t_D nb ne C' M' := by
  unfold t_D
  rw [(m 133 (by omega)).1, (m 138 (by omega)).2, (m 141 (by omega)).1, (m 142 (by omega)).1, (c 10 (by omega) (by omega)).1, (c 11 (by omega) (by omega)).2, (c 12 (by omega) (by omega)).1, (c 13 (by omega) (by omega)).1, (c 14 (by omega) (by omega)).1, (c 15 (by omega) (by omega)).1, (c 16 (by omega) (by omega)).1]
  exact h
theorem t_D_w {nb ne : Nat} {C M C' M' : s_G} (h : t_D nb ne C M) (c : t_wC C C') (m : t_wM M M') : t_D nb ne C' M' := t_D_cg h (fun a h1 h2 => ⟨(c a (by omega)).1, (c a (by omega)).2.1⟩) (fun a ha => m.1 a (by omega))
def t_xC (X Y : s_G) : Prop := ∀ a, ¬ a = 1 ∧ (a < 10 ∨ 16 < a) → Y.1 a = X.1 a ∧ Y.2.1 a = X.2.1 a ∧ Y.2.2 a = X.2.2 a
def t_xM (X Y : s_G) : Prop := (∀ a, ¬ a = 130 ∧ ¬ a = 133 ∧ ¬ a = 138 ∧ ¬ a = 141 ∧ ¬ a = 142 → Y.1 a = X.1 a ∧ Y.2.1 a = X.2.1 a) ∧ Y.2.2 = X.2.2 ∧ ∀ k, k < 2 ∨ 13 < k → Y.1 130 k = X.1 130 k
theorem t_wC.x {X Y : s_G} (h : t_wC X Y) : t_xC X Y := fun a ha => h a ha.1
theorem t_wM.x {X Y : s_G} (h : t_wM X Y) : t_xM X Y := ⟨fun a ha => h.1 a ha.1, h.2⟩
theorem t_xC.rf (X : s_G) : t_xC X X := fun _ _ => ⟨rfl, rfl, rfl⟩
theorem t_xM.rf (X : s_G) : t_xM X X := ⟨fun _ _ => ⟨rfl, rfl⟩, rfl, fun _ _ => rfl⟩
theorem t_xC.tr {X Y Z : s_G} (h1 : t_xC X Y) (h2 : t_xC Y Z) : t_xC X Z := fun a ha => ⟨(h2 a ha).1.trans (h1 a ha).1, (h2 a ha).2.1.trans (h1 a ha).2.1, (h2 a ha).2.2.trans (h1 a ha).2.2⟩
theorem t_xM.tr {X Y Z : s_G} (h1 : t_xM X Y) (h2 : t_xM Y Z) : t_xM X Z := ⟨fun a ha => ⟨(h2.1 a ha).1.trans (h1.1 a ha).1, (h2.1 a ha).2.trans (h1.1 a ha).2⟩, h2.2.1.trans h1.2.1, fun k hk => (h2.2.2 k hk).trans (h1.2.2 k hk)⟩
theorem t_xC.si {X : s_G} {c k : Nat} {v : Int32} (h : 10 ≤ c) (h2 : c ≤ 16) : t_xC X (s_si X c k v) := fun a ha => ⟨e_sN (by omega), rfl, rfl⟩
theorem t_xC.sl {X : s_G} {k : Nat} {v : Int64} : t_xC X (s_sl X 11 k v) := fun a ha => ⟨rfl, e_lN (by omega), rfl⟩
theorem t_xM.si {X : s_G} {c k : Nat} {v : Int32} (h : c = 133 ∨ c = 141 ∨ c = 142) : t_xM X (s_si X c k v) := ⟨fun a ha => ⟨e_sN (by omega), rfl⟩, rfl, fun k hk => by rw [e_sN (by omega)]⟩
theorem t_xM.s13 {X : s_G} {v : Int32} : t_xM X (s_si X 130 13 v) := ⟨fun a ha => ⟨e_sN (by omega), rfl⟩, rfl, fun k hk => by rw [e_sS, e_vn _ _ (by omega)]⟩
theorem t_xM.sl {X : s_G} {k : Nat} {v : Int64} : t_xM X (s_sl X 138 k v) := ⟨fun a ha => ⟨rfl, e_lN (by omega)⟩, rfl, fun _ _ => rfl⟩
/-- what a reading comes to -/
def t_OC (n m a : Nat) (C M : s_G) (oc om : Option (Int32 × s_G)) : Prop := (∃ C' M' nb ne t' a' p', oc = some (1, C') ∧ om = some (1, M') ∧ t_P n m t' a' p' C' M' ∧ t_D nb ne C' M' ∧ (2 ≤ t'.1 → a < a') ∧ t_xC C C' ∧ t_xM M M') ∨ (∃ C' M', oc = some (0, C') ∧ om = some (0, M') ∧ t_F C' M' ∧ t_xC C C' ∧ t_xM M M')
theorem t_bits4 : ∀ o, o < 16 → ∀ k, k < 4 → (Int32.ofNat o &&& Int32.ofNat (2 ^ k) = 0 ↔ o.testBit k = false) ∧ Int32.ofNat o ||| Int32.ofNat (2 ^ k) = Int32.ofNat (o ||| 2 ^ k) ∧ o ||| 2 ^ k < 16 ∧ (∀ j, j < 4 → (o ||| 2 ^ k).testBit j = (Nat.beq j k || o.testBit j)) ∧ (((Int32.ofNat o >>> (Int32.ofNat k &&& 31)) &&& 1 = 1) ↔ o.testBit k = true) ∧ Int32.ofNat o ||| ((1 : Int32) <<< (Int32.ofNat k &&& 31)) = Int32.ofNat (o ||| 2 ^ k) := by decide +kernel
theorem t_c_of {B v : Nat} (h : v ≤ B) : e_c B (Int32.ofNat v) := ⟨v, h, rfl⟩
/-- a flag that is set -/
theorem t_flag {o k : Nat} {r : Nat → Int32} (hk : k < 4) (ho : o < 16) (h : ∀ j, j < 4 → r j = t_bI (o.testBit j)) : ∀ j, j < 4 → va_up r k (1 &&& 1) j = t_bI ((o ||| 2 ^ k).testBit j) := by
  intro j hj
  rw [(t_bits4 o ho k hk).2.2.2.1 j hj]
  by_cases hq : j = k
  · subst hq; rw [e_ve, Nat.beq_refl]; rfl
  · rw [e_vn _ _ hq, h j hj]
    cases hb : Nat.beq j k with
    | true => exact absurd (Nat.eq_of_beq_eq_true hb) hq
    | false => rfl
theorem t_once {n m a p nb ne k lo hi : Nat} {t : t_Tk} {C M : s_G} (h : t_P n m t a p C M) (hD : t_D nb ne C M) (ht : 2 ≤ t.1) (hk : k < 4) (hlh : lo ≤ hi) (hhi : hi ≤ 999) (hb : (k = 0 → hi ≤ 30) ∧ (k = 1 → hi ≤ 20) ∧ (k = 2 → hi ≤ 9) ∧ (k = 3 → hi ≤ 30)) :
    t_OC n m a C M (s_b2 (fP_readOnceNumber_10_1 (Int32.ofNat (2 ^ k)) (Int32.ofNat lo) (Int32.ofNat hi) C) fun v8 g7 => if v8 = (-1 : Int32) then (some ((0 : Int32), (s_si g7 10 (8 + k) v8))) else some ((1 : Int32), (s_si g7 10 (8 + k) v8))) (fM_readOnce_130 (Int32.ofNat k) (Int32.ofNat (2 + k)) (Int32.ofNat lo) (Int32.ofNat hi) M) := by
  obtain ⟨hH, hCR, hN, hT, oo, ho1, ho2, ho3⟩ := id hD
  obtain ⟨q1, q2, q3, q4, -, -⟩ := t_bits4 oo ho1 k hk
  unfold fP_readOnceNumber_10_1 fM_readOnce_130
  rw [ho2, e_ix (show k < 4 by omega) (by omega), s_b1_s, ho3 k hk]
  by_cases hbit : oo.testBit k = false
  · rw [if_pos (q1.mpr hbit), if_pos ((t_bI_0 _).mpr hbit), q2]
    have hP1 : t_P n m t a p (s_si C 10 13 (Int32.ofNat (oo ||| 2 ^ k))) (s_si M 141 k (1 &&& 1)) := t_P_cg h (e_sN (by omega)) (e_sN (by omega)) rfl rfl (fun j _ => by rw [e_sN (by omega)]) (e_sN (by omega)) rfl
    have hD1 : t_D nb ne (s_si C 10 13 (Int32.ofNat (oo ||| 2 ^ k))) (s_si M 141 k (1 &&& 1)) := by
      refine ⟨?_, ?_, hN, ?_, oo ||| 2 ^ k, q3, ?_, ?_⟩
      · rw [e_sN (by omega)]; exact hH
      · simp (disch := omega) only [e_sS, e_sN]
        obtain ⟨⟨r1, r2, r3, r4, r5, r6⟩, r7⟩ := hCR
        refine ⟨⟨?_, ?_, ?_, ?_, ?_, ?_⟩, r7⟩ <;> rw [e_vn _ _ (by omega)] <;> assumption
      · obtain ⟨tt, u1, u2, u3⟩ := hT
        exact ⟨tt, u1, by rw [e_sS, e_vn _ _ (by omega)]; exact u2, fun j hj => by rw [e_sN (by omega)]; exact u3 j hj⟩
      · rw [e_sS, e_ve]
      · rw [e_sS]; exact t_flag hk ho1 ho3
    obtain ⟨C1, M1, t1, a1, p1, n1, n2, n3, n4, n5, n6⟩ := t_next hP1 ht
    rw [n1, s_b1_s, n2, s_b1_s]
    have hD2 := t_D_w hD1 n5.w n6.w
    have xC1 : t_xC C C1 := (t_xC.si (by omega) (by omega)).tr n5.w.x
    have xM1 : t_xM M M1 := (t_xM.si (by omega)).tr n6.w.x
    rcases t_num n3 hhi hlh with ⟨v, C2, M2, t2, a2, p2, v0, v1, v2, v3, v4, v5, v6, v7, v8, v9⟩ | ⟨C2, M2, v1, v2, v3, v4, v5⟩
    · have hD3 := t_D_w hD2 v8 v9
      have ea : a < a1 := n4 v0
      refine Or.inl ⟨s_si C2 10 (8 + k) (Int32.ofNat v), s_si M2 133 (2 + k) (Int32.ofNat v), nb, ne, t2, a2, p2, ?_, ?_, ?_, ?_, ?_, ?_, ?_⟩
      · rw [v3, s_b2_s, s_b2_s, if_neg (t_ne_m1 (by omega))]
      · rw [v4, s_b2_s]
        unfold fM_put_130
        rw [if_neg (by decide), e_ix (show 2 + k < 47 by omega) (by omega), s_b1_s, t_or1, s_b2_s, t_or1, v5]
      · exact t_P_cg v6 (e_sN (by omega)) (e_sN (by omega)) rfl rfl (fun j _ => by rw [e_sN (by omega)]) (e_sN (by omega)) rfl
      · obtain ⟨⟨h1, h2⟩, ⟨h3, h4⟩, ⟨h5, h6, h7, h8⟩, h9, h10, h11⟩ := hD3.1
        obtain ⟨⟨r1, r2, r3, r4, r5, r6⟩, r7, r8, r9⟩ := hD3.2.1
        have c4 : k = 0 ∨ k = 1 ∨ k = 2 ∨ k = 3 := by omega
        refine ⟨?_, ?_, hD3.2.2.1, ?_, ?_⟩
        · rw [e_sS]
          refine ⟨⟨h1, by rw [e_vn _ _ (by omega)]; exact h2⟩, ⟨h3, by rw [e_vn _ _ (by omega)]; exact h4⟩, ?_, ?_, ?_, ?_⟩
          · rcases c4 with rfl | rfl | rfl | rfl
            · exact ⟨by rw [e_ve]; exact t_c_of (by have := hb.1 rfl; omega), h6, h7, h8⟩
            · exact ⟨h5, by rw [e_ve]; exact t_c_of (by have := hb.2.1 rfl; omega), h7, h8⟩
            · exact ⟨h5, h6, by rw [e_ve]; exact t_c_of (by have := hb.2.2.1 rfl; omega), h8⟩
            · exact ⟨h5, h6, h7, by rw [e_ve]; exact t_c_of (by have := hb.2.2.2 rfl; omega)⟩
          · intro j hj; rw [e_vn _ _ (by omega)]; exact h9 j hj
          · intro j hj; rw [e_vn _ _ (by omega)]; exact h10 j hj
          · intro j hj; rw [e_vn _ _ (by omega), e_vn _ _ (by omega), e_vn _ _ (by omega)]; exact h11 j hj
        · rw [e_sS, e_sS, e_sN (by omega), e_sN (by omega), e_sN (by omega), e_sN (by omega), e_sN (by omega)]
          refine ⟨?_, ?_, ?_, ?_⟩
          · rw [e_vn _ _ (show ¬ 0 = 8 + k by omega), e_vn _ _ (show ¬ 0 = 2 + k by omega), e_vn _ _ (show ¬ 1 = 8 + k by omega), e_vn _ _ (show ¬ 1 = 2 + k by omega)]
            rcases c4 with rfl | rfl | rfl | rfl
            · exact ⟨r1, r2, by rw [e_ve, e_ve], r4, r5, r6⟩
            · exact ⟨r1, r2, r3, by rw [e_ve, e_ve], r5, r6⟩
            · exact ⟨r1, r2, r3, r4, by rw [e_ve, e_ve], r6⟩
            · exact ⟨r1, r2, r3, r4, r5, by rw [e_ve, e_ve]⟩
          · intro j hj; rw [e_vn _ _ (by omega)]; exact r7 j hj
          · intro j hj; rw [e_vn _ _ (by omega)]; exact r8 j hj
          · intro j hj; rw [e_vn _ _ (by omega), e_vn _ _ (by omega), e_vn _ _ (by omega)]; exact r9 j hj
        · obtain ⟨tt, u1, u2, u3⟩ := hD3.2.2.2.1
          exact ⟨tt, u1, by rw [e_sS, e_vn _ _ (by omega)]; exact u2, fun j hj => by rw [e_sN (by omega)]; exact u3 j hj⟩
        · obtain ⟨tt, u1, u2, u3⟩ := hD3.2.2.2.2
          exact ⟨tt, u1, by rw [e_sS, e_vn _ _ (by omega)]; exact u2, fun j hj => by rw [e_sN (by omega)]; exact u3 j hj⟩
      · intro h2
        have := v7 h2
        omega
      · exact (xC1.tr v8.x).tr (t_xC.si (by omega) (by omega))
      · exact (xM1.tr v9.x).tr (t_xM.si (by omega))
    · refine Or.inr ⟨s_si C2 10 (8 + k) (-1), M2, ?_, ?_, ?_, ?_, xM1.tr v5.x⟩
      · rw [v1, s_b2_s, s_b2_s, if_pos rfl]
      · rw [v2, s_b2_s]
        unfold fM_put_130
        rw [if_pos rfl, t_or0, s_b2_s, t_or0]
      · exact t_F_cg v3 (e_sN (by omega)) (e_sN (by omega)) (fun _ _ => rfl) rfl
      · exact (xC1.tr v4.x).tr (t_xC.si (by omega) (by omega))
  · have hbt : oo.testBit k = true := by cases hh : oo.testBit k with
      | true => rfl
      | false => exact absurd hh hbit
    rw [if_neg (fun hh => hbit (q1.mp hh)), if_neg (fun hh => hbit ((t_bI_0 _).mp hh))]
    obtain ⟨C', M', f1, f2, f3, f4, f5⟩ := t_fail h 3 (fun h1 => by omega)
    refine Or.inr ⟨s_si C' 10 (8 + k) (-1), M', ?_, ?_, ?_, ?_, f5.x⟩
    · rw [f1, s_b2_s, s_b2_s, if_pos rfl]
    · rw [f2, s_b2_s, t_or0]
    · exact t_F_cg f3 (e_sN (by omega)) (e_sN (by omega)) (fun _ _ => rfl) rfl
    · exact f4.x.tr (t_xC.si (by omega) (by omega))
