-- TEXTS: what is asked of a token, and faults
theorem t_six {t : t_Tk} (h : t_ok t) : t.1 = 0 ∨ t.1 = 1 ∨ t.1 = 2 ∨ t.1 = 3 ∨ t.1 = 4 ∨ t.1 = 5 := by have := h.1; omega
theorem t_c5 {n m : Nat} {t : t_Tk} {C : s_G} (ho : t_ok t) (h : t_tC n m t C) : (C.1 1 5 = 2 ↔ t.1 = 2) ∧ (C.1 1 5 = 3 ↔ t.1 = 3) ∧ (C.1 1 5 = 4 ↔ t.1 = 4) ∧ (C.1 1 5 = 5 ↔ t.1 = 5) := by
  rcases t_six ho with h0 | h0 | h0 | h0 | h0 | h0
  · rw [(h.1 h0).1, h0]; decide
  · rcases (h.2.1 h0).1 with h1 | h1
    · rw [h1, h0]; decide
    · rw [h1.1, h0]; decide
  · rw [(h.2.2.1 h0).1, h0]; decide
  · rw [(h.2.2.2.1 h0).1, h0]; decide
  · rw [(h.2.2.2.2.1 h0).1, h0]; decide
  · rw [(h.2.2.2.2.2 h0).1, h0]; decide
theorem t_m7 {t : t_Tk} {M : s_G} (ho : t_ok t) (h : t_tM t M) : (M.1 130 7 = 0 ↔ t.1 = 0) ∧ (M.1 130 7 = 1 ↔ t.1 = 1) ∧ (M.1 130 7 = 2 ↔ t.1 = 2 ∨ t.1 = 3) ∧ (M.1 130 7 = 3 ↔ t.1 = 4) ∧ (M.1 130 7 = 4 ↔ t.1 = 5) := by
  rcases t_six ho with h0 | h0 | h0 | h0 | h0 | h0
  · rw [h.1 h0, h0]; decide
  · rw [h.2.1 h0, h0]; decide
  · rw [(h.2.2.1 h0).1, h0]; decide
  · rw [(h.2.2.2.1 h0).1, h0]; decide
  · rw [(h.2.2.2.2.1 h0).1, h0]; decide
  · rw [(h.2.2.2.2.2 h0).1, h0]; decide
theorem t_c9 {n m : Nat} {t : t_Tk} {C : s_G} (ho : t_ok t) (h : t_tC n m t C) : C.2.2 1 9 = if t.1 = 2 then some (1000 + t.2.1) else none := by
  rcases t_six ho with h0 | h0 | h0 | h0 | h0 | h0
  · rw [(h.1 h0).2.2, h0]; rfl
  · rw [(h.2.1 h0).2, h0]; rfl
  · rw [(h.2.2.1 h0).2, h0]; rfl
  · rw [(h.2.2.2.1 h0).2.1, h0]; rfl
  · rw [(h.2.2.2.2.1 h0).2.1, h0]; rfl
  · rw [(h.2.2.2.2.2 h0).2.1, h0]; rfl
/-- it is that word -/
def t_is (t : t_Tk) (w : Nat) : Prop := t.1 = 2 ∧ t.2.1 = w
def t_sg (t : t_Tk) (c : Nat) : Prop := t.1 = 5 ∧ t.2.1 = c
theorem t_okw2 {t : t_Tk} (ho : t_ok t) (h2 : t.1 = 2) : s_okw (some (1000 + t.2.1)) = true := by
  have := ho.2.1 h2
  show (Nat.ble 1000 (1000 + t.2.1) && Nat.blt (1000 + t.2.1) 1029) = true
  rw [Nat.ble_eq_true_of_le (by omega)]
  exact Nat.ble_eq_true_of_le (show 1000 + t.2.1 + 1 ≤ 1029 by omega)
theorem t_isWC {n m : Nat} {t : t_Tk} {C : s_G} (ho : t_ok t) (h : t_tC n m t C) (w : Nat) : (if (C.1 1 5) = (2 : Int32) then (if s_okw (C.2.2 1 9) = true then (if (C.2.2 1 9) = some (1000 + w) then (some (1 : Int32)) else some (0 : Int32)) else none) else some (0 : Int32)) = some (e_bi (t_is t w)) := by
  by_cases h2 : t.1 = 2
  · rw [if_pos ((t_c5 ho h).1.mpr h2), (h.2.2.1 h2).2, if_pos (t_okw2 ho h2)]
    by_cases hv : t.2.1 = w
    · rw [if_pos (by rw [hv]), e_bi_t ⟨h2, hv⟩]
    · rw [if_neg (fun hh => hv (by have := Option.some.inj hh; omega)), e_bi_f (fun hh => hv hh.2)]
  · rw [if_neg (fun hh => h2 ((t_c5 ho h).1.mp hh)), e_bi_f (fun hh => h2 hh.1)]
theorem t_w_inj {v w : Nat} (hv : v < 29) (hw : w < 29) : (t_w v = t_w w) ↔ v = w := by
  unfold t_w
  rw [t_pk64 (by omega) (by omega) (t_wd_ok v hv) (t_wd_ok w hw)]
  exact ⟨t_wd_inj v hv w hw, fun h => by rw [h]⟩
/-- what the reference has of a word or a name -/
theorem t_m12 {t : t_Tk} {M : s_G} {w : Nat} (ho : t_ok t) (h : t_tM t M) (h23 : t.1 = 2 ∨ t.1 = 3) (hw : w < 29) : (lg_cmp (M.2.1 130 12) (t_w w) = 0) ↔ t_is t w := by
  rw [t_cmp]
  rcases h23 with h2 | h3
  · rw [(h.2.2.1 h2).2, t_w_inj (ho.2.1 h2) hw]
    exact ⟨fun hh => ⟨h2, hh⟩, fun hh => hh.2⟩
  · obtain ⟨o1, o2⟩ := ho.2.2.1 h3
    rw [(h.2.2.2.1 h3).2]
    unfold t_w
    rw [t_pk64 (by omega) (by omega) o1 (t_wd_ok w hw)]
    exact ⟨fun hh => absurd hh (o2 w hw), fun hh => by have := hh.1; omega⟩
theorem t_isWM {t : t_Tk} {M : s_G} (ho : t_ok t) (h : t_tM t M) {w : Nat} (hw : w < 29) : fM_isWord_130 (Int32.ofNat w) M = some (e_bi (t_is t w)) := by
  unfold fM_isWord_130
  by_cases h23 : t.1 = 2 ∨ t.1 = 3
  · rw [if_pos ((t_m7 ho h).2.2.1.mpr h23), t_wordOf M w hw, s_b1_s]
    by_cases hv : t_is t w
    · rw [if_pos ((t_m12 ho h h23 hw).mpr hv), e_bi_t hv]
    · rw [if_neg (fun hh => hv ((t_m12 ho h h23 hw).mp hh)), e_bi_f hv]
  · rw [if_neg (fun hh => h23 ((t_m7 ho h).2.2.1.mp hh)), e_bi_f (fun hh => h23 (Or.inl hh.1))]
theorem t_isNM {t : t_Tk} {M : s_G} (ho : t_ok t) (h : t_tM t M) : fM_isName_130 M = some (e_bi (t.1 = 3)) := by
  unfold fM_isName_130
  by_cases h23 : t.1 = 2 ∨ t.1 = 3
  · rw [if_pos ((t_m7 ho h).2.2.1.mpr h23)]
    have step : ∀ w, w < 29 → fM_isName_130_12 (Int32.ofNat w) M = if lg_cmp (M.2.1 130 12) (t_w w) = 0 then some (.inr 0) else some (.inl (Int32.ofNat (w + 1))) := by
      intro w hw
      unfold fM_isName_130_12
      rw [if_neg (show ¬ 28 < Int32.ofNat w from e_F (a := 28) (by omega) (by omega)), t_wordOf M w hw, s_b1_s, e_inc]
      rfl
    rcases h23 with h2 | h3
    · have hv := ho.2.1 h2
      rw [e_bi_f (by omega)]
      refine e_seq2 (fun k => Int32.ofNat k) t.2.1 rfl (fun k hk => ?_) ?_
      · rw [step k (by omega), if_neg (fun hh => by have := ((t_m12 ho h (Or.inl h2) (by omega)).mp hh).2; omega)]
      · rw [step _ hv, if_pos ((t_m12 ho h (Or.inl h2) hv).mpr ⟨h2, rfl⟩)]
    · rw [e_bi_t h3]
      refine e_seq2 (fun k => Int32.ofNat k) 29 rfl (fun k hk => ?_) ?_
      · rw [step k (by omega), if_neg (fun hh => by have := ((t_m12 ho h (Or.inr h3) (by omega)).mp hh).1; omega)]
      · unfold fM_isName_130_12
        rw [if_pos (by decide)]
        rfl
  · rw [if_neg (fun hh => h23 ((t_m7 ho h).2.2.1.mp hh)), e_bi_f (fun hh => h23 (Or.inr hh))]
theorem t_isSC {n m : Nat} {t : t_Tk} {C : s_G} (ho : t_ok t) (h : t_tC n m t C) {c : Nat} (hc : c < 128) : fQ_isSign_1 (Int32.ofNat c) C = some (e_bi (t_sg t c)) := by
  unfold fQ_isSign_1
  by_cases h5 : t.1 = 5
  · have := t_sb_t.mp (ho.2.2.2.2 h5)
    rw [if_pos ((t_c5 ho h).2.2.2.mpr h5), (h.2.2.2.2.2 h5).2.2, t_ife (by omega) (by omega)]
    by_cases hv : t.2.1 = c
    · rw [if_pos hv, e_bi_t ⟨h5, hv⟩]
    · rw [if_neg hv, e_bi_f (fun hh => hv hh.2)]
  · rw [if_neg (fun hh => h5 ((t_c5 ho h).2.2.2.mp hh)), e_bi_f (fun hh => h5 hh.1)]
theorem t_isSM {t : t_Tk} {M : s_G} (ho : t_ok t) (h : t_tM t M) {c : Nat} (hc : c < 128) : fM_isSign_130 (Int32.ofNat c) M = some (e_bi (t_sg t c)) := by
  unfold fM_isSign_130
  by_cases h5 : t.1 = 5
  · have := t_sb_t.mp (ho.2.2.2.2 h5)
    rw [if_pos ((t_m7 ho h).2.2.2.2.mpr h5), (h.2.2.2.2.2 h5).2, t_ife (by omega) (by omega)]
    by_cases hv : t.2.1 = c
    · rw [if_pos hv, e_bi_t ⟨h5, hv⟩]
    · rw [if_neg hv, e_bi_f (fun hh => hv hh.2)]
  · rw [if_neg (fun hh => h5 ((t_m7 ho h).2.2.2.2.mp hh)), e_bi_f (fun hh => h5 hh.1)]
theorem t_endC {n m : Nat} {t : t_Tk} {C : s_G} (ho : t_ok t) (h : t_tC n m t C) (hn : n ≤ 940) (hm : m ≤ 900) (h2 : C.1 1 2 = Int32.ofNat n) (h3 : C.1 1 3 = Int32.ofNat m) : fQ_hasEnded_1 C = some (e_bi (t.1 = 0)) := by
  unfold fQ_hasEnded_1
  rw [h2, h3, t_ifl (by omega) (by omega)]
  rcases t_six ho with h0 | h0 | h0 | h0 | h0 | h0
  · rw [if_pos (h.1 h0).1, if_neg (by have := (h.1 h0).2.1; omega), e_bi_t h0]
  · rw [e_bi_f (by omega)]
    rcases (h.2.1 h0).1 with h1 | h1
    · rw [if_neg (by rw [h1]; decide)]
    · rw [if_pos h1.1, if_pos h1.2]
  · rw [if_neg (by rw [(h.2.2.1 h0).1]; decide), e_bi_f (by omega)]
  · rw [if_neg (by rw [(h.2.2.2.1 h0).1]; decide), e_bi_f (by omega)]
  · rw [if_neg (by rw [(h.2.2.2.2.1 h0).1]; decide), e_bi_f (by omega)]
  · rw [if_neg (by rw [(h.2.2.2.2.2 h0).1]; decide), e_bi_f (by omega)]
-- frames
def t_wC (X Y : s_G) : Prop := ∀ a, ¬ a = 1 → Y.1 a = X.1 a ∧ Y.2.1 a = X.2.1 a ∧ Y.2.2 a = X.2.2 a
def t_wM (X Y : s_G) : Prop := (∀ a, ¬ a = 130 → Y.1 a = X.1 a ∧ Y.2.1 a = X.2.1 a) ∧ Y.2.2 = X.2.2 ∧ ∀ k, k < 2 ∨ 13 < k → Y.1 130 k = X.1 130 k
theorem t_fC.w {X Y : s_G} (h : t_fC X Y) : t_wC X Y := h.1
theorem t_fM.w {X Y : s_G} (h : t_fM X Y) : t_wM X Y := ⟨h.1, h.2.1, fun k hk => h.2.2.1 k (by omega)⟩
theorem t_wC.rf (X : s_G) : t_wC X X := fun _ _ => ⟨rfl, rfl, rfl⟩
theorem t_wM.rf (X : s_G) : t_wM X X := ⟨fun _ _ => ⟨rfl, rfl⟩, rfl, fun _ _ => rfl⟩
theorem t_wC.tr {X Y Z : s_G} (h1 : t_wC X Y) (h2 : t_wC Y Z) : t_wC X Z := fun a ha => ⟨(h2 a ha).1.trans (h1 a ha).1, (h2 a ha).2.1.trans (h1 a ha).2.1, (h2 a ha).2.2.trans (h1 a ha).2.2⟩
theorem t_wM.tr {X Y Z : s_G} (h1 : t_wM X Y) (h2 : t_wM Y Z) : t_wM X Z := ⟨fun a ha => ⟨(h2.1 a ha).1.trans (h1.1 a ha).1, (h2.1 a ha).2.trans (h1.1 a ha).2⟩, h2.2.1.trans h1.2.1, fun k hk => (h2.2.2 k hk).trans (h1.2.2 k hk)⟩
theorem t_P_cg {n m a p : Nat} {t : t_Tk} {C M C' M' : s_G} (h : t_P n m t a p C M) (c1 : C'.1 1 = C.1 1) (c2 : C'.1 2 = C.1 2) (c3 : C'.2.1 1 = C.2.1 1) (c4 : C'.2.2 1 = C.2.2 1) (m1 : ∀ k, k ≤ 12 → M'.1 130 k = M.1 130 k) (m2 : M'.1 131 = M.1 131) (m3 : M'.2.1 130 = M.2.1 130) : t_P n m t a p C' M' := by
  unfold t_P t_B t_tC t_tM
  rw [c1, c2, c3, c4, m2, m3, m1 2 (by omega), m1 3 (by omega), m1 4 (by omega), m1 5 (by omega), m1 6 (by omega), m1 7 (by omega), m1 8 (by omega), m1 9 (by omega), m1 10 (by omega)]
  exact h
/-- the class at least is as it was -/
theorem t_P_m {n m a p : Nat} {t : t_Tk} {C M M' : s_G} (h : t_P n m t a p C M) (m1 : ∀ k, k ≤ 12 → M'.1 130 k = M.1 130 k) (m2 : M'.1 131 = M.1 131) (m3 : M'.2.1 130 = M.2.1 130) : t_P n m t a p C M' := t_P_cg h rfl rfl rfl rfl m1 m2 m3
theorem t_P_c {n m a p : Nat} {t : t_Tk} {C M C' : s_G} (h : t_P n m t a p C M) (c1 : C'.1 1 = C.1 1) (c2 : C'.1 2 = C.1 2) (c3 : C'.2.1 1 = C.2.1 1) (c4 : C'.2.2 1 = C.2.2 1) : t_P n m t a p C' M := t_P_cg h c1 c2 c3 c4 (fun _ _ => rfl) rfl rfl
-- faults
def t_F (C M : s_G) : Prop := e_by (C.1 2) (M.1 131) ∧ (C.1 1 1 = 0 ∧ M.1 130 2 = 0) ∧ C.1 1 10 = M.1 130 10 ∧ ∃ a, a ≤ 900 ∧ C.1 1 11 = Int32.ofNat a ∧ M.1 130 11 = Int32.ofNat a
theorem t_F_cg {C M C' M' : s_G} (h : t_F C M) (c1 : C'.1 1 = C.1 1) (c2 : C'.1 2 = C.1 2) (m1 : ∀ k, k ≤ 12 → M'.1 130 k = M.1 130 k) (m2 : M'.1 131 = M.1 131) : t_F C' M' := by
  unfold t_F
  rw [c1, c2, m2, m1 2 (by omega), m1 10 (by omega), m1 11 (by omega)]
  exact h
theorem t_fail {n m a p : Nat} {t : t_Tk} {C M : s_G} (h : t_P n m t a p C M) (k : Int32) (hk : t.1 = 1 → k = 1) : ∃ C' M', fQ_fail_1 k C = some (0, C') ∧ fM_bad_130 k M = some (0, M') ∧ t_F C' M' ∧ t_wC C C' ∧ t_wM M M' := by
  obtain ⟨hB, ⟨a1, a2, a3⟩, -, ho, -, hM⟩ := h
  obtain ⟨-, b1, ⟨b2, b3⟩, -⟩ := hB
  refine ⟨s_si (s_si C 1 10 k) 1 11 (C.1 1 6), s_si (s_si M 130 10 k) 130 11 (M.1 130 6), rfl, ?_, ⟨?_, ⟨?_, ?_⟩, ?_, a, a3, ?_, ?_⟩, ?_, ?_⟩
  · unfold fM_bad_130
    by_cases h1 : t.1 = 1
    · rw [if_pos ((t_m7 ho hM).2.1.mpr h1), hk h1]
    · rw [if_neg (fun hh => h1 ((t_m7 ho hM).2.1.mp hh))]
  · rw [e_sN (by omega), e_sN (by omega), e_sN (by omega), e_sN (by omega)]; exact b1
  · rw [e_sS, e_vn _ _ (by omega), e_sS, e_vn _ _ (by omega)]; exact b2
  · rw [e_sS, e_vn _ _ (by omega), e_sS, e_vn _ _ (by omega)]; exact b3
  · rw [e_sS, e_vn _ _ (by omega), e_sS, e_ve, e_sS, e_vn _ _ (by omega), e_sS, e_ve]
  · rw [e_sS, e_ve]; exact a1
  · rw [e_sS, e_ve]; exact a2
  · intro b hb
    exact ⟨by rw [e_sN hb, e_sN hb], rfl, rfl⟩
  · refine ⟨fun b hb => ⟨by rw [e_sN hb, e_sN hb], rfl⟩, rfl, fun j hj => ?_⟩
    rw [e_sS, e_vn _ _ (by omega), e_sS, e_vn _ _ (by omega)]
theorem t_or0 {α : Type} {a b : α} : (if (0 : Int32) = 0 ∨ (0 : Int32) = 1 then a else b) = a := if_pos (Or.inl rfl)
theorem t_or1 {α : Type} {a b : α} : (if (1 : Int32) = 0 ∨ (1 : Int32) = 1 then a else b) = a := if_pos (Or.inr rfl)
/-- a number within bounds -/
theorem t_num {n m a p : Nat} {t : t_Tk} {C M : s_G} (h : t_P n m t a p C M) {x y : Nat} (hy : y ≤ 999) (hxy : x ≤ y) :
    (∃ v C' M' t' a' p', 2 ≤ t.1 ∧ x ≤ v ∧ v ≤ y ∧ fQ_passNumber_1 (Int32.ofNat x) (Int32.ofNat y) C = some (Int32.ofNat v, C') ∧ fM_readNumber_130 (Int32.ofNat x) (Int32.ofNat y) M = some (1, M') ∧ M'.1 130 13 = Int32.ofNat v ∧ t_P n m t' a' p' C' M' ∧ (2 ≤ t'.1 → a < a') ∧ t_wC C C' ∧ t_wM M M') ∨ (∃ C' M', fQ_passNumber_1 (Int32.ofNat x) (Int32.ofNat y) C = some (-1, C') ∧ fM_readNumber_130 (Int32.ofNat x) (Int32.ofNat y) M = some (0, M') ∧ t_F C' M' ∧ t_wC C C' ∧ t_wM M M') := by
  obtain ⟨hB, ha, hp, ho, hC, hM⟩ := id h
  by_cases h4 : t.1 = 4
  · have hv := ho.2.2.2.1 h4
    have ec : fQ_passNumber_1 (Int32.ofNat x) (Int32.ofNat y) C = if t.2.1 < x then (s_b2 (fQ_fail_1 (2 : Int32) C) fun v2 g1 => some ((-1 : Int32), g1)) else if y < t.2.1 then (s_b2 (fQ_fail_1 (2 : Int32) C) fun v4 g3 => some ((-1 : Int32), g3)) else s_b1 (fQ_next_1 C) fun g5 => some (Int32.ofNat t.2.1, g5) := by
      unfold fQ_passNumber_1
      rw [if_pos ((t_c5 ho hC).2.2.1.mpr h4), (hC.2.2.2.2.1 h4).2.2, t_ifl (by omega) (by omega), t_ifl (by omega) (by omega)]
    have em : fM_readNumber_130 (Int32.ofNat x) (Int32.ofNat y) M = if t.2.1 < x ∨ y < t.2.1 then (s_b2 (fM_bad_130 (2 : Int32) M) fun v3 g2 => if v3 = 0 ∨ v3 = 1 then some (v3, g2) else none) else s_b1 (fM_go_130 (s_si M 130 13 (Int32.ofNat t.2.1))) fun g4 => some ((1 : Int32), g4) := by
      unfold fM_readNumber_130 fM_isIn_s
      rw [if_pos ((t_m7 ho hM).2.2.2.1.mpr h4), (hM.2.2.2.2.1 h4).2, t_ifl (by omega) (by omega), t_ifl (by omega) (by omega)]
      by_cases h1 : t.2.1 < x
      · rw [if_pos h1, s_b1_s, if_pos rfl, if_pos (Or.inl h1)]
      · rw [if_neg h1]
        by_cases h2 : y < t.2.1
        · rw [if_pos h2, s_b1_s, if_pos rfl, if_pos (Or.inr h2)]
        · rw [if_neg h2, s_b1_s, if_neg (by decide), if_neg (by omega)]
    rw [ec, em]
    by_cases hin : t.2.1 < x ∨ y < t.2.1
    · obtain ⟨C', M', f1, f2, f3, f4, f5⟩ := t_fail h 2 (fun h1 => by omega)
      refine Or.inr ⟨C', M', ?_, ?_, f3, f4, f5⟩
      · rw [f1, s_b2_s]
        by_cases h1 : t.2.1 < x
        · rw [if_pos h1]
        · rw [if_neg h1, if_pos (by omega)]
      · rw [if_pos hin, f2, s_b2_s, t_or0]
    · have h' : t_P n m t a p C (s_si M 130 13 (Int32.ofNat t.2.1)) := t_P_m h (fun k hk => by rw [e_sS, e_vn _ _ (by omega)]) (e_sN (by omega)) rfl
      obtain ⟨C', M', t', a', p', g1, g2, g3, g4, g5, g6⟩ := t_next h' (by omega)
      refine Or.inl ⟨t.2.1, C', M', t', a', p', by omega, by omega, by omega, ?_, ?_, ?_, g3, g4, g5.w, ?_⟩
      · rw [if_neg (by omega), if_neg (by omega), g1, s_b1_s]
      · rw [if_neg hin, g2, s_b1_s]
      · rw [g6.2.2.1 13 (by omega), e_sS, e_ve]
      · refine t_wM.tr ⟨fun b hb => ⟨e_sN hb, rfl⟩, rfl, fun k hk => ?_⟩ g6.w
        rw [e_sS, e_vn _ _ (by omega)]
  · obtain ⟨C', M', f1, f2, f3, f4, f5⟩ := t_fail h 1 (fun _ => rfl)
    refine Or.inr ⟨C', M', ?_, ?_, f3, f4, f5⟩
    · unfold fQ_passNumber_1
      rw [if_neg (fun hh => h4 ((t_c5 ho hC).2.2.1.mp hh)), f1, s_b2_s]
    · unfold fM_readNumber_130
      rw [if_neg (fun hh => h4 ((t_m7 ho hM).2.2.2.1.mp hh)), f2, s_b2_s, t_or0]
/-- the sign that ends a line -/
theorem t_pass {n m a p : Nat} {t : t_Tk} {C M : s_G} (h : t_P n m t a p C M) :
    (∃ C' M' t' a' p', 2 ≤ t.1 ∧ fQ_passSign_1 59 C = some (1, C') ∧ fM_readEnd_130 M = some (1, M') ∧ t_P n m t' a' p' C' M' ∧ (2 ≤ t'.1 → a < a') ∧ t_wC C C' ∧ t_wM M M') ∨ (∃ C' M', fQ_passSign_1 59 C = some (0, C') ∧ fM_readEnd_130 M = some (0, M') ∧ t_F C' M' ∧ t_wC C C' ∧ t_wM M M') := by
  obtain ⟨hB, ha, hp, ho, hC, hM⟩ := id h
  unfold fQ_passSign_1 fM_readEnd_130
  rw [show fQ_isSign_1 59 C = _ from t_isSC ho hC (c := 59) (by omega), show fM_isSign_130 59 M = _ from t_isSM ho hM (c := 59) (by omega), s_b1_s, s_b1_s]
  by_cases h1 : t_sg t 59
  · rw [e_bi_t h1, if_neg (by decide), if_neg (by decide)]
    obtain ⟨C', M', t', a', p', g1, g2, g3, g4, g5, g6⟩ := t_next h (by have := h1.1; omega)
    exact Or.inl ⟨C', M', t', a', p', by have := h1.1; omega, by rw [g1, s_b1_s], by rw [g2, s_b1_s], g3, g4, g5.w, g6.w⟩
  · rw [e_bi_f h1, if_pos rfl, if_pos rfl]
    obtain ⟨C', M', f1, f2, f3, f4, f5⟩ := t_fail h 1 (fun _ => rfl)
    exact Or.inr ⟨C', M', by rw [f1, s_b2_s, t_or0], by rw [f2, s_b2_s, t_or0], f3, f4, f5⟩
-- names among others
noncomputable def t_fst (p : Nat → Bool) (N : Nat) : Int32 := if e_fi p N < N then Int32.ofNat (e_fi p N) else -1
theorem t_find {B : Int32 → Option (Int32 ⊕ Int32)} {p : Nat → Bool} {N : Nat} (h1 : ∀ j, j < N → B (Int32.ofNat j) = if p j = true then some (.inr (Int32.ofNat j)) else some (.inl (Int32.ofNat (j + 1)))) (h2 : B (Int32.ofNat N) = some (.inr (-1))) : s_lp B 0 = some (t_fst p N) := by
  obtain ⟨k1, k2, k3⟩ := e_fi_c (p := p) N
  refine e_seq2 (fun k => Int32.ofNat k) (e_fi p N) rfl (fun k hk => ?_) ?_
  · rw [h1 k (by omega), if_neg (by rw [k3 k hk]; decide)]
  · unfold t_fst
    by_cases hlt : e_fi p N < N
    · rw [h1 _ hlt, if_pos (k2 hlt), if_pos hlt]
    · rw [if_neg hlt, show e_fi p N = N by omega, h2]
theorem t_fst_c (p : Nat → Bool) (N : Nat) : (∃ k, k < N ∧ t_fst p N = Int32.ofNat k) ∨ t_fst p N = -1 := by
  unfold t_fst
  by_cases hlt : e_fi p N < N
  · rw [if_pos hlt]; exact Or.inl ⟨_, hlt, rfl⟩
  · rw [if_neg hlt]; exact Or.inr rfl
theorem t_ne_m1 {k : Nat} (hk : k < 1000) : ¬ Int32.ofNat k = -1 := by
  intro h
  have h1 : (Int32.ofNat k).toInt = (-1 : Int32).toInt := by rw [h]
  rw [Int32.toInt_ofNat_of_lt (by omega), show (-1 : Int32).toInt = -1 from rfl] at h1
  omega
noncomputable def t_sm (x : Nat → Int64) (b : Nat) (l : List Nat) (j : Nat) : Bool := decide (x (b + j) = Int64.ofNat (e_pk 32 l))
theorem t_sm_m {x y : Nat → Int64} {b j : Nat} {l : List Nat} (hl : e_ltr l) (h : e_nm (x (b + j)) (y (b + j))) : (y (b + j) = Int64.ofNat (e_pk 27 l)) ↔ t_sm x b l j = true := by
  obtain ⟨l', h1, h2, h3⟩ := h
  unfold t_sm
  rw [decide_eq_true_iff, h2, h3, t_pk64 (by omega) (by omega) h1 hl, t_pk64 (by omega) (by omega) h1 hl]
