-- TEXTS: the class reads a token
theorem t_run (P : Nat → Bool) : ∀ (k p N : Nat), p + k = N → ∃ q, p ≤ q ∧ q ≤ N ∧ (∀ j, p ≤ j → j < q → P j = true) ∧ (q < N → P q = false) := by
  intro k
  induction k with
  | zero => intro p N h; exact ⟨p, by omega, by omega, fun j h1 h2 => by omega, fun h1 => by omega⟩
  | succ k ih =>
    intro p N h
    cases hp : P p with
    | false => exact ⟨p, by omega, by omega, fun j h1 h2 => by omega, fun _ => hp⟩
    | true =>
      obtain ⟨q, h1, h2, h3, h4⟩ := ih (p + 1) N (by omega)
      refine ⟨q, by omega, h2, fun j hj1 hj2 => ?_, h4⟩
      by_cases hj : j = p
      · rw [hj]; exact hp
      · exact h3 j (by omega) hj2
def t_bl (u : Nat) : Bool := Nat.beq u 32 || Nat.beq u 10
theorem t_bl_t {u : Nat} : t_bl u = true ↔ u = 32 ∨ u = 10 := by
  unfold t_bl
  rw [Bool.or_eq_true, Nat.beq_eq, Nat.beq_eq]
theorem t_bl_f {u : Nat} : t_bl u = false ↔ ¬ (u = 32 ∨ u = 10) := by
  rw [← t_bl_t]; cases t_bl u <;> decide
def t_al (u : Nat) : Bool := t_lb u || t_db u
/-- cell 1's fields from 4 to 9 may have changed -/
def t_fC (X Y : s_G) : Prop := (∀ a, ¬ a = 1 → Y.1 a = X.1 a ∧ Y.2.1 a = X.2.1 a ∧ Y.2.2 a = X.2.2 a) ∧ ∀ k, k < 4 ∨ 9 < k → Y.1 1 k = X.1 1 k
theorem t_fC.rf (X : s_G) : t_fC X X := ⟨fun _ _ => ⟨rfl, rfl, rfl⟩, fun _ _ => rfl⟩
theorem t_fC.tr {X Y Z : s_G} (h1 : t_fC X Y) (h2 : t_fC Y Z) : t_fC X Z := ⟨fun a ha => ⟨(h2.1 a ha).1.trans (h1.1 a ha).1, (h2.1 a ha).2.1.trans (h1.1 a ha).2.1, (h2.1 a ha).2.2.trans (h1.1 a ha).2.2⟩, fun k hk => (h2.2 k hk).trans (h1.2 k hk)⟩
theorem t_fC.si {X : s_G} {k : Nat} {v : Int32} (hk : 4 ≤ k) (hk2 : k ≤ 9) : t_fC X (s_si X 1 k v) := ⟨fun a ha => ⟨e_sN ha, rfl, rfl⟩, fun j hj => by rw [e_sS, e_vn _ _ (by omega)]⟩
theorem t_fC.sl {X : s_G} {k : Nat} {v : Int64} : t_fC X (s_sl X 1 k v) := ⟨fun a ha => ⟨rfl, e_lN ha, rfl⟩, fun _ _ => rfl⟩
theorem t_fC.sr {X : s_G} {k : Nat} {v : Option Nat} : t_fC X (s_sr X 1 k v) := ⟨fun a ha => ⟨rfl, rfl, e_rN ha⟩, fun _ _ => rfl⟩
theorem t_skC {C : s_G} {U : Nat → Nat} {p q b : Nat} {R : s_G} (hU : ∀ k, k < 940 → U k < 256 ∧ C.1 2 k = t_s8 (U k)) (hb : b ≤ 940) (hq9 : q ≤ 940) (hp : C.1 1 4 = Int32.ofNat p) (hpq : p ≤ q) (hbl : ∀ j, p ≤ j → j < q → j < b ∧ t_bl (U j) = true) (hq : q < b → t_bl (U q) = false) (hR : fQ_next_1_61 (Int32.ofNat b) (s_si C 1 4 (Int32.ofNat q)) = some R) : s_lp (fun x => fQ_next_1_12 (Int32.ofNat b) x) C = some R := by
  refine e_seq2 (fun k => s_si C 1 4 (Int32.ofNat (p + k))) (q - p) ?_ ?_ ?_
  · try dsimp only
    exact (t_se hp).symm
  · intro k hk
    try dsimp only
    obtain ⟨h1, h2⟩ := hbl (p + k) (by omega) (by omega)
    obtain ⟨h3, h4⟩ := hU (p + k) (by omega)
    unfold fQ_next_1_12
    rw [e_sS, e_ve, e_sN (by omega), if_pos (e_T h1 (by omega)), e_ix (show p + k < 940 by omega) (by omega), s_b1_s, h4, e_inc, t_ss]
    rcases t_bl_t.mp h2 with h5 | h5
    · rw [if_pos (show t_s8 (U (p + k)) = 32 from (t_s8_e h3 (c := 32) (by omega)).mpr h5)]; rfl
    · rw [if_neg (show ¬ t_s8 (U (p + k)) = 32 from fun h => by have := (t_s8_e h3 (c := 32) (by omega)).mp h; omega), if_pos (show t_s8 (U (p + k)) = 10 from (t_s8_e h3 (c := 10) (by omega)).mpr h5)]; rfl
  · try dsimp only
    rw [show p + (q - p) = q by omega]
    unfold fQ_next_1_12
    rw [e_sS, e_ve, e_sN (by omega)]
    by_cases hqb : q < b
    · obtain ⟨h3, h4⟩ := hU q (by omega)
      have h5 := t_bl_f.mp (hq hqb)
      rw [if_pos (e_T hqb (by omega)), e_ix (show q < 940 by omega) (by omega), s_b1_s, h4, if_neg (show ¬ t_s8 (U q) = 32 from fun h => h5 (Or.inl ((t_s8_e h3 (c := 32) (by omega)).mp h))), if_neg (show ¬ t_s8 (U q) = 10 from fun h => h5 (Or.inr ((t_s8_e h3 (c := 10) (by omega)).mp h))), hR]
      rfl
    · rw [if_neg (e_F (by omega) (by omega)), hR]
      rfl
theorem t_pk_app (B : Nat) (l : List Nat) (c : Nat) : e_pk B (l ++ [c]) = B * e_pk B l + c := by
  unfold e_pk
  rw [List.foldl_append]
  rfl
def t_ll (U : Nat → Nat) (q r : Nat) : List Nat := (List.range r).map (fun j => U (q + j) - 96)
def t_dl (U : Nat → Nat) (q r : Nat) : List Nat := (List.range r).map (fun j => U (q + j) - 48)
theorem t_ll_s (U : Nat → Nat) (q r : Nat) : t_ll U q (r + 1) = t_ll U q r ++ [U (q + r) - 96] := by
  unfold t_ll; rw [List.range_succ, List.map_append]; rfl
theorem t_dl_s (U : Nat → Nat) (q r : Nat) : t_dl U q (r + 1) = t_dl U q r ++ [U (q + r) - 48] := by
  unfold t_dl; rw [List.range_succ, List.map_append]; rfl
def t_aL (U : Nat → Nat) (q r : Nat) : Prop := ∀ j, j < r → t_lb (U (q + j)) = true
def t_aD (U : Nat → Nat) (q r : Nat) : Prop := ∀ j, j < r → t_db (U (q + j)) = true
theorem t_ll_ok {U : Nat → Nat} {q r : Nat} (h : t_aL U q r) (h1 : 1 ≤ r) (h2 : r ≤ 7) : e_ltr (t_ll U q r) := by
  unfold t_ll
  refine ⟨?_, ?_, ?_⟩
  · rw [List.length_map, List.length_range]; exact h1
  · rw [List.length_map, List.length_range]; exact h2
  · intro c hc
    obtain ⟨j, hj, rfl⟩ := List.mem_map.mp hc
    have := t_lb_t.mp (h j (List.mem_range.mp hj))
    omega
theorem t_dl_ok {U : Nat → Nat} {q : Nat} : ∀ r, r ≤ 3 → t_aD U q r → e_pk 10 (t_dl U q r) < 10 ^ r := by
  intro r
  induction r with
  | zero => intro _ _; exact Nat.lt_succ_self 0
  | succ r ih =>
    intro hr h
    have h1 := ih (by omega) (fun j hj => h j (by omega))
    have h2 := t_db_t.mp (h r (by omega))
    rw [t_dl_s, t_pk_app, Nat.pow_succ]
    omega
theorem t_l32 : ∀ u, u < 123 → 97 ≤ u → ((t_s8 u - 97) + 1).toInt64 = Int64.ofNat (u - 96) := by decide +kernel
theorem t_d10 : ∀ u, u < 58 → 48 ≤ u → t_s8 u - 48 = Int32.ofNat (u - 48) := by decide +kernel
theorem t_m32 (v c : Nat) : Int64.ofNat v * 32 + Int64.ofNat c = Int64.ofNat (32 * v + c) := by
  rw [Int64.ofNat_add, Int64.ofNat_mul, Int64.mul_comm]; rfl
theorem t_m10 (v c : Nat) : Int32.ofNat v * 10 + Int32.ofNat c = Int32.ofNat (10 * v + c) := by
  rw [Int32.ofNat_add, Int32.ofNat_mul, Int32.mul_comm]; rfl
def t_dc (U : Nat → Nat) (q r : Nat) : Nat := e_cn (fun j => t_db (U (q + j))) r
theorem t_dc_0 {U : Nat → Nat} {q : Nat} : ∀ r, (∀ j, j < r → t_al (U (q + j)) = true) → (t_dc U q r = 0 ↔ t_aL U q r) := by
  intro r
  induction r with
  | zero => intro _; exact ⟨fun _ j hj => absurd hj (by omega), fun _ => rfl⟩
  | succ r ih =>
    intro h
    have h1 := ih (fun j hj => h j (by omega))
    have h2 := h r (by omega)
    unfold t_al at h2
    rw [Bool.or_eq_true] at h2
    have e0 : t_dc U q (r + 1) = t_dc U q r + (if t_db (U (q + r)) = true then 1 else 0) := rfl
    rw [e0]
    constructor
    · intro h3 j hj
      by_cases hj2 : j = r
      · subst hj2
        rcases h2 with h2 | h2
        · exact h2
        · rw [if_pos h2] at h3; omega
      · exact h1.mp (by omega) j (by omega)
    · intro h3
      have h4 : ¬ t_db (U (q + r)) = true := by
        intro h4
        have := t_lb_t.mp (h3 r (by omega))
        have := t_db_t.mp h4
        omega
      rw [if_neg h4, h1.mpr (fun j hj => h3 j (by omega))]
theorem t_dc_r {U : Nat → Nat} {q : Nat} : ∀ r, (t_dc U q r = r ↔ t_aD U q r) := by
  intro r
  induction r with
  | zero => exact ⟨fun _ j hj => absurd hj (by omega), fun _ => rfl⟩
  | succ r ih =>
    have e0 : t_dc U q (r + 1) = t_dc U q r + (if t_db (U (q + r)) = true then 1 else 0) := rfl
    have h5 : t_dc U q r ≤ r := e_cn_le _ r
    rw [e0]
    constructor
    · intro h3 j hj
      by_cases h4 : t_db (U (q + r)) = true
      · rw [if_pos h4] at h3
        by_cases hj2 : j = r
        · rw [hj2]; exact h4
        · exact ih.mp (by omega) j (by omega)
      · rw [if_neg h4] at h3; omega
    · intro h3
      rw [if_pos (h3 r (by omega)), ih.mpr (fun j hj => h3 j (by omega))]
theorem t_dc_le (U : Nat → Nat) (q r : Nat) : t_dc U q r ≤ r := e_cn_le _ r
/-- letters and digits, one after the other -/
theorem t_rrC {X : s_G} {U : Nat → Nat} {q r n : Nat} (hU : ∀ k, k < 940 → U k < 256 ∧ X.1 2 k = t_s8 (U k)) (hn : n ≤ 940) (hqr : q + r ≤ n) (h2 : X.1 1 2 = Int32.ofNat n) (h4 : X.1 1 4 = Int32.ofNat q) (h7 : X.1 1 7 = 0) (h8 : X.2.1 1 8 = 0) (hal : ∀ j, j < r → t_al (U (q + j)) = true) (hend : q + r < n → t_al (U (q + r)) = false) :
    ∃ Y, fQ_readRun_1 X = some (Int32.ofNat (t_dc U q r), Y) ∧ Y.1 1 4 = Int32.ofNat (q + r) ∧ (t_aL U q r → Y.2.1 1 8 = Int64.ofNat (e_pk 32 (t_ll U q r))) ∧ (t_aD U q r → Y.1 1 7 = Int32.ofNat (e_pk 10 (t_dl U q r))) ∧ t_fC X Y ∧ Y.1 1 6 = X.1 1 6 ∧ Y.2.2 = X.2.2 := by
  obtain ⟨⟨d, Y⟩, ⟨i1, i2, i3, i4, i5, i6, i7⟩, hlp⟩ := e_lpN (B := fun (x : Int32 × s_G) => fQ_readRun_1_2 x.1 x.2) (fun k (x : Int32 × s_G) => x.1 = Int32.ofNat (t_dc U q k) ∧ x.2.1 1 4 = Int32.ofNat (q + k) ∧ (t_aL U q k → x.2.2.1 1 8 = Int64.ofNat (e_pk 32 (t_ll U q k))) ∧ (t_aD U q k → x.2.1 1 7 = Int32.ofNat (e_pk 10 (t_dl U q k))) ∧ t_fC X x.2 ∧ x.2.1 1 6 = X.1 1 6 ∧ x.2.2.2 = X.2.2) r (x := (0, X)) (by
    intro k x hk hx
    obtain ⟨d, Y⟩ := x
    obtain ⟨i1, i2, i3, i4, i5, i6, i7⟩ := hx
    dsimp only at i1 i2 i3 i4 i5 i6 i7 ⊢
    subst i1
    obtain ⟨hu, hx2⟩ := hU (q + k) (by omega)
    have hal1 := hal k hk
    have e2 : Y.1 2 = X.1 2 := (i5.1 2 (by omega)).1
    have en : Y.1 1 2 = Int32.ofNat n := by rw [i5.2 2 (by omega), h2]
    have edc : t_dc U q (k + 1) = t_dc U q k + (if t_db (U (q + k)) = true then 1 else 0) := rfl
    unfold fQ_readRun_1_2
    rw [i2, en, if_pos (e_T (show q + k < n by omega) (by omega)), e_ix (show q + k < 940 by omega) (by omega), s_b1_s, e2, hx2, e_inc]
    by_cases hl : t_lb (U (q + k)) = true
    · have hl' := t_lb_t.mp hl
      rw [if_neg (show ¬ t_s8 (U (q + k)) < 97 from fun h => by have := (t_s8_l hu (c := 97) (by omega)).mp h; omega), if_neg (show ¬ 122 < t_s8 (U (q + k)) from fun h => by have := (t_s8_g hu (c := 122) (by omega)).mp h; omega)]
      refine ⟨_, rfl, ?_, ?_, ?_, ?_, ?_, ?_, ?_⟩
      · rw [edc, if_neg (fun h => by have := t_db_t.mp h; omega)]; rfl
      · try dsimp only; rw [e_sS, e_ve]; rfl
      · intro ha
        try dsimp only
        rw [t_l32 _ (by omega) (by omega)]
        show (s_sl Y 1 8 _).2.1 1 8 = _
        rw [e_lS, e_ve, i3 (fun j hj => ha j (by omega)), t_m32, t_ll_s, t_pk_app]
      · intro ha
        have := t_db_t.mp (ha k (by omega)); omega
      · exact (i5.tr t_fC.sl).tr (t_fC.si (by omega) (by omega))
      · try dsimp only; rw [e_sS, e_vn _ _ (by omega)]; exact i6
      · exact i7
    · have hd : t_db (U (q + k)) = true := by
        unfold t_al at hal1
        rw [Bool.or_eq_true] at hal1
        exact hal1.resolve_left hl
      have hd' := t_db_t.mp hd
      rw [if_pos (show t_s8 (U (q + k)) < 97 from (t_s8_l hu (c := 97) (by omega)).mpr (by omega))]
      unfold fQ_readRun_1_58
      rw [if_neg (show ¬ t_s8 (U (q + k)) < 48 from fun h => by have := (t_s8_l hu (c := 48) (by omega)).mp h; omega), if_neg (show ¬ 57 < t_s8 (U (q + k)) from fun h => by have := (t_s8_g hu (c := 57) (by omega)).mp h; omega), i2, e_inc, e_inc]
      refine ⟨_, rfl, ?_, ?_, ?_, ?_, ?_, ?_, ?_⟩
      · rw [edc, if_pos hd]
      · try dsimp only; rw [e_sS, e_ve]; rfl
      · intro ha
        exact absurd (ha k (by omega)) hl
      · intro ha
        try dsimp only
        rw [e_sS, e_vn _ _ (by omega), e_sS, e_ve, t_d10 _ (by omega) (by omega), i4 (fun j hj => ha j (by omega)), t_m10, t_dl_s, t_pk_app]
      · exact (i5.tr (t_fC.si (by omega) (by omega))).tr (t_fC.si (by omega) (by omega))
      · try dsimp only; rw [e_sS, e_vn _ _ (by omega), e_sS, e_vn _ _ (by omega)]; exact i6
      · exact i7) ⟨rfl, h4, fun _ => h8, fun _ => h7, t_fC.rf X, rfl, rfl⟩
  dsimp only at i1 i2 i3 i4 i5 i6 i7
  refine ⟨Y, ?_, i2, i3, i4, i5, i6, i7⟩
  unfold fQ_readRun_1
  rw [hlp]
  apply s_lp_out
  try dsimp only
  have e2 : Y.1 2 = X.1 2 := (i5.1 2 (by omega)).1
  have en : Y.1 1 2 = Int32.ofNat n := by rw [i5.2 2 (by omega), h2]
  unfold fQ_readRun_1_2
  rw [i2, en, i1]
  by_cases hq : q + r < n
  · obtain ⟨hu, hx2⟩ := hU (q + r) (by omega)
    have h0 := hend hq
    unfold t_al at h0
    rw [Bool.or_eq_false_iff] at h0
    have h1 := t_lb_f.mp h0.1
    have h3 := t_db_f.mp h0.2
    rw [if_pos (e_T hq (by omega)), e_ix (show q + r < 940 by omega) (by omega), s_b1_s, e2, hx2]
    have h58 : fQ_readRun_1_58 (Int32.ofNat (t_dc U q r)) (t_s8 (U (q + r))) Y = some (.inr (Int32.ofNat (t_dc U q r), Y)) := by
      unfold fQ_readRun_1_58
      by_cases h5 : t_s8 (U (q + r)) < 48
      · rw [if_pos h5]; rfl
      · rw [if_neg h5]
        have h6 : ¬ (U (q + r) < 48 ∨ 128 ≤ U (q + r)) := fun h => h5 ((t_s8_l hu (c := 48) (by omega)).mpr h)
        rw [if_pos (show 57 < t_s8 (U (q + r)) from (t_s8_g hu (c := 57) (by omega)).mpr (by omega))]; rfl
    by_cases h5 : t_s8 (U (q + r)) < 97
    · rw [if_pos h5, h58]
    · rw [if_neg h5]
      have h6 : ¬ (U (q + r) < 97 ∨ 128 ≤ U (q + r)) := fun h => h5 ((t_s8_l hu (c := 97) (by omega)).mpr h)
      rw [if_pos (show 122 < t_s8 (U (q + r)) from (t_s8_g hu (c := 122) (by omega)).mpr (by omega)), h58]
  · rw [if_neg (e_F (by omega) (by omega))]; rfl
