-- TAGS: numbers, texts, the call
def t_dd (n : Nat) : List Nat := (if n < 100 then [] else [48 + n / 100 % 10]) ++ (if n < 10 then [] else [48 + n / 10 % 10]) ++ [48 + n % 10]
theorem t_dd_len (n : Nat) : 1 ≤ (t_dd n).length ∧ (t_dd n).length ≤ 3 := by
  unfold t_dd
  rw [List.length_append, List.length_append]
  by_cases h1 : n < 100 <;> by_cases h2 : n < 10
  · rw [if_pos h1, if_pos h2]; simp only [List.length_cons, List.length_nil]; omega
  · rw [if_pos h1, if_neg h2]; simp only [List.length_cons, List.length_nil]; omega
  · omega
  · rw [if_neg h1, if_neg h2]; simp only [List.length_cons, List.length_nil]; omega
theorem t_e48 (c : Nat) : (48 : Int32) + Int32.ofNat c = Int32.ofNat (48 + c) := by rw [Int32.ofNat_add]; rfl
theorem t_digC {g X : s_G} {L : List Nat} {n : Nat} (h : t_TC L g X) (hn : n ≤ 999) (hl : L.length + 3 ≤ 64) : ∃ X', fC_putDigits_0 (Int32.ofNat n) X = some X' ∧ t_TC (L ++ t_dd n) g X' := by
  have m10 : ∀ y, y < 1000 → Int32.ofNat y - Int32.ofNat y / 10 * 10 = Int32.ofNat (y % 10) := fun y hy => e_mod (m := 10) (by omega) (by omega)
  have d10 : Int32.ofNat n / 10 = Int32.ofNat (n / 10) := e_divN (b := 10) (by omega) (by omega)
  have d100 : Int32.ofNat n / 100 = Int32.ofNat (n / 100) := e_divN (b := 100) (by omega) (by omega)
  have s40 : ∀ (L' : List Nat) (Y : s_G), t_TC L' g Y → L'.length < 64 → ∃ X', fC_putDigits_0_40 (Int32.ofNat n) Y = some X' ∧ t_TC (L' ++ [48 + n % 10]) g X' := by
    intro L' Y hY hl'
    obtain ⟨X', x1, x2⟩ := t_putC (c := 48 + n % 10) hY (by omega) hl'
    refine ⟨X', ?_, x2⟩
    unfold fC_putDigits_0_40
    rw [m10 n (by omega), t_e48, x1, s_b1_s]
  have s20 : ∀ (L' : List Nat) (Y : s_G), t_TC L' g Y → L'.length + 1 < 64 → ∃ X', fC_putDigits_0_20 (Int32.ofNat n) Y = some X' ∧ t_TC (L' ++ (if n < 10 then [] else [48 + n / 10 % 10]) ++ [48 + n % 10]) g X' := by
    intro L' Y hY hl'
    unfold fC_putDigits_0_20
    by_cases h2 : n < 10
    · rw [if_pos (show Int32.ofNat n < 10 from e_T (b := 10) h2 (by omega)), if_pos h2, List.append_nil]
      exact s40 L' Y hY (by omega)
    · rw [if_neg (show ¬ Int32.ofNat n < 10 from e_F (b := 10) (by omega) (by omega)), if_neg h2, d10, m10 (n / 10) (by omega), t_e48]
      obtain ⟨Z, z1, z2⟩ := t_putC (c := 48 + n / 10 % 10) hY (by omega) (by omega)
      rw [z1, s_b1_s]
      exact s40 _ Z z2 (by rw [List.length_append, List.length_singleton]; omega)
  unfold fC_putDigits_0 t_dd
  by_cases h1 : n < 100
  · rw [if_pos (show Int32.ofNat n < 100 from e_T (b := 100) h1 (by omega)), if_pos h1, List.nil_append, ← List.append_assoc]
    exact s20 L X h (by omega)
  · rw [if_neg (show ¬ Int32.ofNat n < 100 from e_F (b := 100) (by omega) (by omega)), if_neg h1, d100, m10 (n / 100) (by omega), t_e48]
    obtain ⟨Z, z1, z2⟩ := t_putC (c := 48 + n / 100 % 10) h (by omega) (by omega)
    rw [z1, s_b1_s]
    have := s20 _ Z z2 (by rw [List.length_append, List.length_singleton]; omega)
    rw [List.append_assoc, List.append_assoc] at this
    rw [List.append_assoc]
    exact this
theorem t_digM {g X : s_G} {L : List Nat} {n : Nat} (h : t_TM L g X) (hn : n ≤ 999) (hl : L.length + 3 ≤ 64) : ∃ X', fM_writeNumber_130_k 10 (Int32.ofNat n) X = some X' ∧ t_TM (L ++ t_dd n) g X' := by
  have m10 : ∀ y, y < 1000 → Int32.ofNat y - Int32.ofNat y / 10 * 10 = Int32.ofNat (y % 10) := fun y hy => e_mod (m := 10) (by omega) (by omega)
  have d10 : ∀ y, y < 1000 → Int32.ofNat y / 10 = Int32.ofNat (y / 10) := fun y hy => e_divN (b := 10) (by omega) (by omega)
  have s14 : ∀ (K : Int32 → s_G → Option s_G) (y : Nat) (L' : List Nat) (Y : s_G), y < 1000 → t_TM L' g Y → L'.length < 64 → ∃ X', fM_writeNumber_130_14 K (Int32.ofNat y) Y = some X' ∧ t_TM (L' ++ [48 + y % 10]) g X' := by
    intro K y L' Y hy hY hl'
    obtain ⟨X', x1, x2⟩ := t_putM (c := 48 + y % 10) hY hl'
    refine ⟨X', ?_, x2⟩
    unfold fM_writeNumber_130_14
    rw [m10 y hy, t_e48, x1, s_b1_s]
  -- one, two, three digits
  have w1 : ∀ (f y : Nat) (L' : List Nat) (Y : s_G), y < 10 → t_TM L' g Y → L'.length < 64 → ∃ X', fM_writeNumber_130_k (f + 1) (Int32.ofNat y) Y = some X' ∧ t_TM (L' ++ [48 + y % 10]) g X' := by
    intro f y L' Y hy hY hl'
    show ∃ X', fM_writeNumber_130 (fM_writeNumber_130_k f) (Int32.ofNat y) Y = some X' ∧ _
    unfold fM_writeNumber_130
    rw [if_neg (show ¬ 9 < Int32.ofNat y from e_F (a := 9) (by omega) (by omega))]
    exact s14 _ y L' Y (by omega) hY hl'
  have up : ∀ (f y : Nat) (L' : List Nat) (Y : s_G) (Q : List Nat), 9 < y → y < 1000 → (∃ Z, fM_writeNumber_130_k f (Int32.ofNat (y / 10)) Y = some Z ∧ t_TM Q g Z) → Q.length < 64 → ∃ X', fM_writeNumber_130_k (f + 1) (Int32.ofNat y) Y = some X' ∧ t_TM (Q ++ [48 + y % 10]) g X' := by
    intro f y L' Y Q hy hy2 hZ hl'
    obtain ⟨Z, z1, z2⟩ := hZ
    show ∃ X', fM_writeNumber_130 (fM_writeNumber_130_k f) (Int32.ofNat y) Y = some X' ∧ _
    unfold fM_writeNumber_130
    rw [if_pos (show 9 < Int32.ofNat y from e_T (a := 9) (by omega) (by omega)), d10 y hy2, z1, s_b1_s]
    exact s14 _ y Q Z hy2 z2 hl'
  unfold t_dd
  by_cases h1 : n < 100
  · rw [if_pos h1, List.nil_append]
    by_cases h2 : n < 10
    · rw [if_pos h2, List.nil_append]
      exact w1 9 n L X h2 h (by omega)
    · rw [if_neg h2, ← List.append_assoc]
      exact up 9 n L X _ (by omega) (by omega) (w1 8 (n / 10) L X (by omega) h (by omega)) (by rw [List.length_append, List.length_singleton]; omega)
  · rw [if_neg h1, if_neg (by omega), ← List.append_assoc, ← List.append_assoc]
    refine up 9 n L X _ (by omega) (by omega) ?_ (by rw [List.length_append, List.length_append, List.length_singleton, List.length_singleton]; omega)
    have := up 8 (n / 10) L X _ (by omega) (by omega) (w1 7 (n / 10 / 10) L X (by omega) h (by omega)) (by rw [List.length_append, List.length_singleton]; omega)
    rw [Nat.div_div_eq_div_mul] at this
    exact this
theorem t_text_0 {g X : s_G} {L : List Nat} (h : t_TC L g X) (hl : L.length + 7 ≤ 64) : ∃ X', fC_putText_0_1300 X = some X' ∧ t_TC (L ++ [32, 98, 101, 97, 114, 115, 32]) g X' := by
  obtain ⟨⟨i, Y⟩, ⟨i1, i2⟩, hlp⟩ := e_lpN (B := fun (y : Int32 × s_G) => fC_putText_0_1300_2 y.1 y.2) (fun k (y : Int32 × s_G) => y.1 = Int32.ofNat k ∧ t_TC (L ++ ([32, 98, 101, 97, 114, 115, 32] : List Nat).take k) g y.2) 7 (x := (0, X)) (by
    intro k y hk hy
    obtain ⟨i, Y⟩ := y
    obtain ⟨i1, i2⟩ := hy
    dsimp only at i1 i2
    subst i1
    have hc : ∀ k, k < 7 → (s_txs.getD 0 []).getD k 0 = Int32.ofNat (([32, 98, 101, 97, 114, 115, 32] : List Nat).getD k 0) ∧ ([32, 98, 101, 97, 114, 115, 32] : List Nat).getD k 0 < 128 ∧ ([32, 98, 101, 97, 114, 115, 32] : List Nat).take (k + 1) = ([32, 98, 101, 97, 114, 115, 32] : List Nat).take k ++ [([32, 98, 101, 97, 114, 115, 32] : List Nat).getD k 0] ∧ (([32, 98, 101, 97, 114, 115, 32] : List Nat).take k).length = k := by decide +kernel
    obtain ⟨q1, q2, q3, q4⟩ := hc k hk
    obtain ⟨Z, z1, z2⟩ := t_putC i2 q2 (by rw [List.length_append, q4]; omega)
    refine ⟨(Int32.ofNat (k + 1), Z), ?_, rfl, ?_⟩
    · unfold fC_putText_0_1300_2
      rw [if_pos (show Int32.ofNat k < 7 from e_T (b := 7) hk (by omega)), e_ix hk (by omega), s_b1_s, q1, z1, s_b1_s, e_inc]
    · dsimp only
      rw [q3, ← List.append_assoc]; exact z2) ⟨rfl, by rw [List.take_zero, List.append_nil]; exact h⟩
  dsimp only at i1 i2
  subst i1
  refine ⟨Y, ?_, i2⟩
  unfold fC_putText_0_1300
  rw [hlp]
  apply s_lp_out
  dsimp only
  unfold fC_putText_0_1300_2
  rw [if_neg (by decide)]
  rfl
theorem t_text_1 {g X : s_G} {L : List Nat} (h : t_TC L g X) (hl : L.length + 4 ≤ 64) : ∃ X', fC_putText_0_1301 X = some X' ∧ t_TC (L ++ [32, 111, 102, 32]) g X' := by
  obtain ⟨⟨i, Y⟩, ⟨i1, i2⟩, hlp⟩ := e_lpN (B := fun (y : Int32 × s_G) => fC_putText_0_1301_2 y.1 y.2) (fun k (y : Int32 × s_G) => y.1 = Int32.ofNat k ∧ t_TC (L ++ ([32, 111, 102, 32] : List Nat).take k) g y.2) 4 (x := (0, X)) (by
    intro k y hk hy
    obtain ⟨i, Y⟩ := y
    obtain ⟨i1, i2⟩ := hy
    dsimp only at i1 i2
    subst i1
    have hc : ∀ k, k < 4 → (s_txs.getD 1 []).getD k 0 = Int32.ofNat (([32, 111, 102, 32] : List Nat).getD k 0) ∧ ([32, 111, 102, 32] : List Nat).getD k 0 < 128 ∧ ([32, 111, 102, 32] : List Nat).take (k + 1) = ([32, 111, 102, 32] : List Nat).take k ++ [([32, 111, 102, 32] : List Nat).getD k 0] ∧ (([32, 111, 102, 32] : List Nat).take k).length = k := by decide +kernel
    obtain ⟨q1, q2, q3, q4⟩ := hc k hk
    obtain ⟨Z, z1, z2⟩ := t_putC i2 q2 (by rw [List.length_append, q4]; omega)
    refine ⟨(Int32.ofNat (k + 1), Z), ?_, rfl, ?_⟩
    · unfold fC_putText_0_1301_2
      rw [if_pos (show Int32.ofNat k < 4 from e_T (b := 4) hk (by omega)), e_ix hk (by omega), s_b1_s, q1, z1, s_b1_s, e_inc]
    · dsimp only
      rw [q3, ← List.append_assoc]; exact z2) ⟨rfl, by rw [List.take_zero, List.append_nil]; exact h⟩
  dsimp only at i1 i2
  subst i1
  refine ⟨Y, ?_, i2⟩
  unfold fC_putText_0_1301
  rw [hlp]
  apply s_lp_out
  dsimp only
  unfold fC_putText_0_1301_2
  rw [if_neg (by decide)]
  rfl
theorem t_text_2 {g X : s_G} {L : List Nat} (h : t_TC L g X) (hl : L.length + 6 ≤ 64) : ∃ X', fC_putText_0_1302 X = some X' ∧ t_TC (L ++ [32, 119, 101, 101, 112, 115]) g X' := by
  obtain ⟨⟨i, Y⟩, ⟨i1, i2⟩, hlp⟩ := e_lpN (B := fun (y : Int32 × s_G) => fC_putText_0_1302_2 y.1 y.2) (fun k (y : Int32 × s_G) => y.1 = Int32.ofNat k ∧ t_TC (L ++ ([32, 119, 101, 101, 112, 115] : List Nat).take k) g y.2) 6 (x := (0, X)) (by
    intro k y hk hy
    obtain ⟨i, Y⟩ := y
    obtain ⟨i1, i2⟩ := hy
    dsimp only at i1 i2
    subst i1
    have hc : ∀ k, k < 6 → (s_txs.getD 2 []).getD k 0 = Int32.ofNat (([32, 119, 101, 101, 112, 115] : List Nat).getD k 0) ∧ ([32, 119, 101, 101, 112, 115] : List Nat).getD k 0 < 128 ∧ ([32, 119, 101, 101, 112, 115] : List Nat).take (k + 1) = ([32, 119, 101, 101, 112, 115] : List Nat).take k ++ [([32, 119, 101, 101, 112, 115] : List Nat).getD k 0] ∧ (([32, 119, 101, 101, 112, 115] : List Nat).take k).length = k := by decide +kernel
    obtain ⟨q1, q2, q3, q4⟩ := hc k hk
    obtain ⟨Z, z1, z2⟩ := t_putC i2 q2 (by rw [List.length_append, q4]; omega)
    refine ⟨(Int32.ofNat (k + 1), Z), ?_, rfl, ?_⟩
    · unfold fC_putText_0_1302_2
      rw [if_pos (show Int32.ofNat k < 6 from e_T (b := 6) hk (by omega)), e_ix hk (by omega), s_b1_s, q1, z1, s_b1_s, e_inc]
    · dsimp only
      rw [q3, ← List.append_assoc]; exact z2) ⟨rfl, by rw [List.take_zero, List.append_nil]; exact h⟩
  dsimp only at i1 i2
  subst i1
  refine ⟨Y, ?_, i2⟩
  unfold fC_putText_0_1302
  rw [hlp]
  apply s_lp_out
  dsimp only
  unfold fC_putText_0_1302_2
  rw [if_neg (by decide)]
  rfl
/-- a blank, a word -/
theorem t_nextM {g X : s_G} {L : List Nat} {r : List Nat} (h : t_TM L g X) (h1 : 1 ≤ r.length) (h7 : r.length ≤ 7) (hr : ∀ c, c ∈ r → 1 ≤ c ∧ c ≤ 26) (hl : L.length + r.length + 1 ≤ 64) : ∃ X', fM_writeNext_130 (Int64.ofNat (t_q 27 r)) X = some X' ∧ t_TM (L ++ [32] ++ t_wl r) g X' := by
  obtain ⟨Y, y1, y2⟩ := t_putM (c := 32) h (by omega)
  obtain ⟨Z, z1, z2⟩ := t_wordM r 14 _ Y h1 (by omega) h7 hr y2 (by rw [List.length_append, List.length_singleton]; omega)
  refine ⟨Z, ?_, z2⟩
  unfold fM_writeNext_130
  rw [show fM_write_130 32 X = _ from y1, s_b1_s, z1, s_b1_s]
theorem k_tag {g : s_G} (h : e_I g) (x : Int32) : e_k1 (fC_tag_0 x g) (fM_tag_130 x) := by
  obtain ⟨hR, nb, ne, n, p, hs, hJ⟩ := id h
  obtain ⟨hH, hC, hT, hS⟩ := e_I.jc hJ
  have h7 := hH.1.1
  unfold fC_tag_0
  rw [e_hB hC hH, s_b1_s]
  by_cases hq : e_hs nb x
  · obtain ⟨b, hb, rfl⟩ := e_hs_k (by omega) hq
    obtain ⟨l, hl, n32, n27⟩ := hJ.1.2.2.1.1 b hb
    obtain ⟨ld, ld1, ld2, -⟩ := e_ld_c hS (show b < 7 by omega)
    obtain ⟨be, be1, be2⟩ := hH.2.2.2.2.1 b hb
    have hr7 : l.reverse.length ≤ 7 := by rw [List.length_reverse]; exact hl.2.1
    have hr1 : 1 ≤ l.reverse.length := by rw [List.length_reverse]; exact hl.1
    have hrc : ∀ c, c ∈ l.reverse → 1 ≤ c ∧ c ≤ 26 := fun c hc => hl.2.2 c (List.mem_reverse.mp hc)
    rw [t_pk_q] at n32 n27
    have hwl : (t_wl l.reverse).length ≤ 7 := by rw [t_wl_len]; exact hr7
    have hdl := t_dd_len ld
    have hdb := t_dd_len be
    -- the class
    have c0 : t_TC [] g (s_si g 0 15 0) := ⟨by decide, by rw [e_sS, e_ve]; rfl, fun k hk => absurd hk (by rw [List.length_nil]; omega), fun a ha => e_sN ha.1, fun k hk => by rw [e_sS, e_vn _ _ hk], rfl⟩
    obtain ⟨X1, a1, a2⟩ := t_nameC hr7 hrc c0
    obtain ⟨X2, b1, b2⟩ := t_text_0 a2 (by omega)
    obtain ⟨X3, d1, d2⟩ := t_digC b2 (n := ld) (by omega) (by rw [List.length_append]; simp only [List.length_cons, List.length_nil]; omega)
    obtain ⟨X4, f1, f2⟩ := t_text_1 d2 (by simp only [List.length_append, List.length_cons, List.length_nil]; omega)
    obtain ⟨X5, i1, i2⟩ := t_digC f2 (n := be) (by omega) (by simp only [List.length_append, List.length_cons, List.length_nil]; omega)
    obtain ⟨X6, j1, j2⟩ := t_text_2 i2 (by simp only [List.length_append, List.length_cons, List.length_nil]; omega)
    have c19 : X2.1 19 b = Int32.ofNat ld := by rw [b2.2.2.2.1 19 (by omega), hT.2.2.1 b (by omega), ld2]
    have c5 : X4.1 5 b = Int32.ofNat be := by rw [f2.2.2.2.1 5 (by omega), hC.2.2.1 b hb, be2]
    have cOv : fT_isOver_17 (Int32.ofNat b) X5 = some (e_bi (e_ov (g.1 132) b)) := by
      have q := i2.2.2.2.1
      refine e_isOver_17 (nb := nb) (ne := ne) ?_ hH ?_ hb
      · unfold e_C3
        rw [q 3 (by omega), q 5 (by omega), q 6 (by omega), q 7 (by omega), q 8 (by omega), q 9 (by omega)]
        exact hC
      · unfold e_T17
        rw [q 17 (by omega), q 18 (by omega), q 19 (by omega), q 20 (by omega), q 21 (by omega)]
        exact hT
    rw [e_bi_t hq, if_neg (by decide), e_ix (show b < 17 by omega) (by omega), s_b1_s, show g.2.1 4 b = _ from n32, a1, s_b1_s, b1, s_b1_s, e_ix (show b < 7 by omega) (by omega), s_b1_s, c19, d1, s_b1_s, f1, s_b1_s, c5, i1, s_b1_s, cOv, s_b1_s]
    -- the reference, behind a class that wrote L
    have ref : ∀ (Q : List Nat) (X : s_G), t_TC Q g X → Q = (t_wl l.reverse ++ [32, 98, 101, 97, 114, 115, 32] ++ t_dd ld ++ [32, 111, 102, 32] ++ t_dd be) ++ (if e_bi (e_ov (g.1 132) b) = 0 then [] else [32, 119, 101, 101, 112, 115]) → e_k1 (some (X.1 0 15, X)) (fM_tag_130 (Int32.ofNat b)) := by
      intro Q X hX hQ
      have q := hX.2.2.2.1
      have q132 : X.1 132 = g.1 132 := q 132 (by omega)
      generalize hG0 : s_si (s_si X 130 0 0) 130 37 0 = G0
      have g0 : t_TM [] (s_si X 130 0 0) G0 := by
        rw [← hG0]
        exact ⟨by decide, by rw [e_sS, e_ve]; rfl, fun k hk => absurd hk (by rw [List.length_nil]; omega), fun a ha => e_sN ha.1, fun k hk => by rw [e_sS, e_vn _ _ hk], rfl⟩
      obtain ⟨G1, r1, r2⟩ := t_wordM l.reverse 14 [] G0 hr1 (by omega) hr7 hrc g0 (by rw [List.length_nil]; omega)
      obtain ⟨G2, s1, s2⟩ := t_nextM (r := [19, 18, 1, 5, 2]) r2 (by decide) (by decide) (by decide) (by simp only [List.length_append, List.length_cons, List.length_nil]; omega)
      obtain ⟨G3, t1, t2⟩ := t_putM (c := 32) s2 (by simp only [List.length_append, List.length_cons, List.length_nil, t_wl_len]; omega)
      obtain ⟨G4, u1, u2⟩ := t_digM t2 (n := ld) (by omega) (by simp only [List.length_append, List.length_cons, List.length_nil, t_wl_len]; omega)
      obtain ⟨G5, v1, v2⟩ := t_nextM (r := [6, 15]) u2 (by decide) (by decide) (by decide) (by simp only [List.length_append, List.length_cons, List.length_nil, t_wl_len]; omega)
      obtain ⟨G6, w1, w2⟩ := t_putM (c := 32) v2 (by simp only [List.length_append, List.length_cons, List.length_nil, t_wl_len]; omega)
      obtain ⟨G7, y1, y2⟩ := t_digM w2 (n := be) (by omega) (by simp only [List.length_append, List.length_cons, List.length_nil, t_wl_len]; omega)
      obtain ⟨G8, z1, z2⟩ := t_nextM (r := [19, 16, 5, 5, 23]) y2 (by decide) (by decide) (by decide) (by simp only [List.length_append, List.length_cons, List.length_nil, t_wl_len]; omega)
      have m132 : ∀ Z Lz, t_TM Lz (s_si X 130 0 0) Z → Z.1 132 = g.1 132 := fun Z Lz hz => by rw [hz.2.2.2.1 132 (by omega), e_sN (by omega), q132]
      have eLd : fM_loadOf_130 (Int32.ofNat b) G3 = some (Int32.ofNat ld) := by rw [e_loadOf (by omega), m132 _ _ t2, ld2]
      have eBe : G6.1 132 (10 + b) = Int32.ofNat be := by rw [m132 _ _ w2]; exact be2
      have eOv : fM_isOver_130 (Int32.ofNat b) G7 = some (e_bi (e_ov (g.1 132) b)) := by rw [e_isOver (by omega), m132 _ _ y2]
      have fin : ∀ (Lz : List Nat) (Z : s_G), t_TM Lz (s_si X 130 0 0) Z → Lz = Q → fM_tag_130 (Int32.ofNat b) X = some (Z.1 130 37, Z) → e_k1 (some (X.1 0 15, X)) (fM_tag_130 (Int32.ofNat b)) := by
        intro Lz Z hZ hLz hr
        subst hLz
        refine ⟨Int32.ofNat Lz.length, X, Z, by rw [hX.2.1], by rw [hr, hZ.2.1], ?_, nb, ne, n, p, hs, ?_⟩
        · have qa : ∀ a, ¬ a = 0 ∧ ¬ a = 129 ∧ ¬ a = 130 ∧ ¬ a = 148 → Z.1 a = g.1 a := fun a ha => by rw [hZ.2.2.2.1 a (by omega), e_sN ha.2.2.1, q a (by omega)]
          have k0 : ∀ j, ¬ j = 15 → Z.1 0 j = g.1 0 j := fun j hj => by rw [hZ.2.2.2.1 0 (by omega), e_sN (by omega)]; exact hX.2.2.2.2.1 j hj
          have k130 : ∀ j, ¬ j = 37 → ¬ j = 0 → Z.1 130 j = g.1 130 j := fun j hj hj0 => by rw [hZ.2.2.2.2.1 j hj, e_sS, e_vn _ _ hj0, q 130 (by omega)]
          have e2 : Z.2 = g.2 := by rw [hZ.2.2.2.2.2]; exact hX.2.2.2.2.2
          obtain ⟨⟨A1, A2⟩, ⟨B1, B2, B3⟩, ⟨C1, C2, C3⟩, ⟨D1, D2⟩, E1⟩ := hR
          refine ⟨⟨?_, ?_⟩, ⟨?_, ?_, ?_⟩, ⟨?_, ?_, ?_⟩, ⟨?_, ?_⟩, ?_⟩
          · rw [qa 1 (by omega), qa 2 (by omega), qa 131 (by omega), k130 2 (by omega) (by omega)]; exact A1
          · rw [k0 1 (by omega), k130 10 (by omega) (by omega)]; exact A2
          · rw [qa 122 (by omega), qa 123 (by omega), qa 144 (by omega), k130 28 (by omega) (by omega)]; exact B1
          · rw [qa 122 (by omega), qa 124 (by omega), qa 145 (by omega), k130 30 (by omega) (by omega), k130 31 (by omega) (by omega)]; exact B2
          · rw [qa 122 (by omega), k130 32 (by omega) (by omega)]; exact B3
          · rw [qa 127 (by omega), k130 34 (by omega) (by omega)]; exact C1
          · refine ⟨Lz.length, hX.1, ?_, hZ.2.1, fun k hk => ?_⟩
            · rw [hZ.2.2.2.1 0 (by omega), e_sN (by omega)]; exact hX.2.1
            · rw [hZ.2.2.2.1 129 (by omega), e_sN (by omega), hX.2.2.1 k hk, hZ.2.2.1 k hk]
          · rw [qa 37 (by omega), k130 42 (by omega) (by omega), qa 150 (by omega)]; exact C3
          · exact e_im_cg D1 (by omega) (fun a _ _ => qa a (by omega)) (qa _ (by omega)) (qa _ (by omega)) (by rw [e2]) (by rw [e2]) (by rw [e2])
          · exact e_im_cg D2 (by omega) (fun a _ _ => qa a (by omega)) (qa _ (by omega)) (qa _ (by omega)) (by rw [e2]) (by rw [e2]) (by rw [e2])
          · rw [e2]; exact E1
        · refine e_J_cg hJ (fun a ha => ?_) ?_ ?_
          · rw [hZ.2.2.2.1 a (by omega), e_sN (by omega), q a (by omega)]
          · rw [hZ.2.2.2.2.1 25 (by omega), e_sS, e_vn _ _ (by omega), q 130 (by omega)]
          · rw [hZ.2.2.2.2.2]; exact hX.2.2.2.2.2
      have etag : fM_tag_130 (Int32.ofNat b) X = if e_bi (e_ov (g.1 132) b) = 0 then (some (G7.1 130 37, G7)) else some (G8.1 130 37, G8) := by
        unfold fM_tag_130
        rw [e_isBoy (n := nb) (by omega) (by rw [e_sN (by omega), q132]; exact hH.1.2), s_b1_s, e_bi_t hq, if_neg (by decide), e_ix (show b < 17 by omega) (by omega), s_b1_s, show X.2.1 137 b = Int64.ofNat (t_q 27 l.reverse) from by rw [hX.2.2.2.2.2]; exact n27, hG0, r1, s_b1_s, show fM_wordOf_s 26 G1 = some (Int64.ofNat (t_q 27 [19, 18, 1, 5, 2])) from t_wordOf G1 26 (by omega), s_b1_s, s1, s_b1_s, show fM_write_130 32 G2 = _ from t1, s_b1_s, eLd, s_b1_s, u1, s_b1_s, show fM_spelt_s 111 102 0 0 0 0 G4 = some (Int64.ofNat (t_q 27 [6, 15])) from rfl, s_b1_s, v1, s_b1_s, show fM_write_130 32 G5 = _ from w1, s_b1_s, show (10 : Int32) + Int32.ofNat b = Int32.ofNat (10 + b) from by rw [Int32.ofNat_add]; rfl, e_ix (show 10 + b < 375 by omega) (by omega), s_b1_s, eBe, y1, s_b1_s, eOv, s_b1_s, show fM_spelt_s 119 101 101 112 115 0 G7 = some (Int64.ofNat (t_q 27 [19, 16, 5, 5, 23])) from rfl, s_b1_s, z1, s_b1_s]
      by_cases hov : e_bi (e_ov (g.1 132) b) = 0
      · rw [if_pos hov] at etag hQ
        refine fin _ G7 y2 ?_ etag
        rw [hQ]
        simp only [List.append_assoc, List.append_nil, List.nil_append]
        rfl
      · rw [if_neg hov] at etag hQ
        refine fin _ G8 z2 ?_ etag
        rw [hQ]
        simp only [List.append_assoc, List.append_nil, List.nil_append]
        rfl
    by_cases hov : e_bi (e_ov (g.1 132) b) = 0
    · rw [if_pos hov]
      exact ref _ X5 i2 (by rw [if_pos hov, List.append_nil])
    · rw [if_neg hov, j1, s_b1_s]
      exact ref _ X6 j2 (by rw [if_neg hov])
  · rw [e_bi_f hq, if_pos rfl]
    refine e_no h (-1) rfl ?_
    unfold fM_tag_130
    rw [e_iB rfl hH, s_b1_s, e_bi_f hq, if_pos rfl]
