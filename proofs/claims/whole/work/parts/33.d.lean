-- TEXTS: the reference's next token
def t_fM (X Y : s_G) : Prop := (∀ a, ¬ a = 130 → Y.1 a = X.1 a ∧ Y.2.1 a = X.2.1 a) ∧ Y.2.2 = X.2.2 ∧ (∀ k, k < 5 ∨ 9 < k → Y.1 130 k = X.1 130 k) ∧ ∀ k, ¬ k = 12 → Y.2.1 130 k = X.2.1 130 k
theorem t_fM.rf (X : s_G) : t_fM X X := ⟨fun _ _ => ⟨rfl, rfl⟩, rfl, fun _ _ => rfl, fun _ _ => rfl⟩
theorem t_fM.tr {X Y Z : s_G} (h1 : t_fM X Y) (h2 : t_fM Y Z) : t_fM X Z := ⟨fun a ha => ⟨(h2.1 a ha).1.trans (h1.1 a ha).1, (h2.1 a ha).2.trans (h1.1 a ha).2⟩, h2.2.1.trans h1.2.1, fun k hk => (h2.2.2.1 k hk).trans (h1.2.2.1 k hk), fun k hk => (h2.2.2.2 k hk).trans (h1.2.2.2 k hk)⟩
theorem t_fM.si {X : s_G} {k : Nat} {v : Int32} (hk : 5 ≤ k) (hk2 : k ≤ 9) : t_fM X (s_si X 130 k v) := ⟨fun a ha => ⟨e_sN ha, rfl⟩, rfl, fun j hj => by rw [e_sS, e_vn _ _ (by omega)], fun _ _ => rfl⟩
theorem t_fM.sl {X : s_G} {v : Int64} : t_fM X (s_sl X 130 12 v) := ⟨fun a ha => ⟨rfl, e_lN ha⟩, rfl, fun _ _ => rfl, fun k hk => by rw [e_lS, e_vn _ _ hk]⟩
def t_bI (b : Bool) : Int32 := if b = true then 1 else 0
theorem t_bI_0 (b : Bool) : (t_bI b = 0) ↔ b = false := by cases b <;> decide
theorem t_bI_e (b c : Bool) : (t_bI b = t_bI c) ↔ b = c := by cases b <;> cases c <;> decide
theorem t_isL {g : s_G} {u : Nat} (hu : u < 256) : fM_isLetter_s (Int32.ofNat u) g = some (t_bI (t_lb u)) := by
  unfold fM_isLetter_s
  rw [show (97 : Int32) = Int32.ofNat 97 from rfl, show (122 : Int32) = Int32.ofNat 122 from rfl, t_ifl (by omega) (by omega), t_ifl (by omega) (by omega)]
  by_cases h : t_lb u = true
  · have := t_lb_t.mp h
    rw [if_neg (by omega), if_neg (by omega), h]; rfl
  · have h1 : t_lb u = false := by cases hb : t_lb u with
      | true => exact absurd hb h
      | false => rfl
    have := t_lb_f.mp h1
    rw [h1]
    by_cases h2 : u < 97
    · rw [if_pos h2]; rfl
    · rw [if_neg h2, if_pos (by omega)]; rfl
theorem t_isD {g : s_G} {u : Nat} (hu : u < 256) : fM_isDigit_s (Int32.ofNat u) g = some (t_bI (t_db u)) := by
  unfold fM_isDigit_s
  rw [show (48 : Int32) = Int32.ofNat 48 from rfl, show (57 : Int32) = Int32.ofNat 57 from rfl, t_ifl (by omega) (by omega), t_ifl (by omega) (by omega)]
  by_cases h : t_db u = true
  · have := t_db_t.mp h
    rw [if_neg (by omega), if_neg (by omega), h]; rfl
  · have h1 : t_db u = false := by cases hb : t_db u with
      | true => exact absurd hb h
      | false => rfl
    have := t_db_f.mp h1
    rw [h1]
    by_cases h2 : u < 48
    · rw [if_pos h2]; rfl
    · rw [if_neg h2, if_pos (by omega)]; rfl
section SNU
variable {M : s_G} {U : Nat → Nat} {p q n m : Nat}
theorem t_skM {R : s_G} (hV : ∀ k, k < 940 → U k < 256 ∧ M.1 131 k = Int32.ofNat (U k)) (hn : n ≤ 940) (h3 : M.1 130 3 = Int32.ofNat n) (hp : M.1 130 5 = Int32.ofNat p) (hpq : p ≤ q) (hqn : q ≤ n) (hbl : ∀ j, p ≤ j → j < q → t_bl (U j) = true) (hq : q < n → t_bl (U q) = false) (hR : fM_go_130_52 (s_si M 130 5 (Int32.ofNat q)) = some R) : fM_go_130 M = some R := by
  unfold fM_go_130
  refine e_seq2 (fun k => s_si M 130 5 (Int32.ofNat (p + k))) (q - p) ?_ ?_ ?_
  · try dsimp only
    exact (t_se hp).symm
  · intro k hk
    try dsimp only
    have h2 := hbl (p + k) (by omega) (by omega)
    obtain ⟨hu, h4⟩ := hV (p + k) (by omega)
    unfold fM_go_130_0
    rw [e_sS, e_ve, e_vn _ _ (by omega), h3, e_sN (by omega), if_pos (e_T (show p + k < n by omega) (by omega)), e_ix (show p + k < 940 by omega) (by omega), s_b1_s, h4, e_inc, t_ss, show (32 : Int32) = Int32.ofNat 32 from rfl, show (10 : Int32) = Int32.ofNat 10 from rfl, t_ife (by omega) (by omega), t_ife (by omega) (by omega)]
    rcases t_bl_t.mp h2 with h5 | h5
    · rw [if_pos h5]; rfl
    · rw [if_neg (by omega), if_pos h5]; rfl
  · try dsimp only
    rw [show p + (q - p) = q by omega]
    unfold fM_go_130_0
    rw [e_sS, e_ve, e_vn _ _ (by omega), h3, e_sN (by omega)]
    by_cases hqb : q < n
    · obtain ⟨hu, h4⟩ := hV q (by omega)
      have h5 := t_bl_f.mp (hq hqb)
      rw [if_pos (e_T hqb (by omega)), e_ix (show q < 940 by omega) (by omega), s_b1_s, h4, show (32 : Int32) = Int32.ofNat 32 from rfl, show (10 : Int32) = Int32.ofNat 10 from rfl, t_ife (by omega) (by omega), t_ife (by omega) (by omega), if_neg (by omega), if_neg (by omega), hR]
      rfl
    · rw [if_neg (e_F (by omega) (by omega)), hR]
      rfl
theorem t_nM_lim (hV : ∀ k, k < 940 → U k < 256 ∧ M.1 131 k = Int32.ofNat (U k)) (hn : n ≤ 940) (hm : m ≤ 940) (h3 : M.1 130 3 = Int32.ofNat n) (h4 : M.1 130 4 = Int32.ofNat m) (hp : M.1 130 5 = Int32.ofNat p) (hpq : p ≤ q) (hqn : q ≤ n) (hbl : ∀ j, p ≤ j → j < q → t_bl (U j) = true) (hq : q < n → t_bl (U q) = false) (hmn : m < n) (hqm : m ≤ q) : ∃ M', fM_go_130 M = some M' ∧ M'.1 130 7 = 1 ∧ M'.1 130 6 = Int32.ofNat m ∧ t_fM M M' := by
  refine ⟨s_si (s_si (s_si (s_si M 130 5 (Int32.ofNat q)) 130 6 (Int32.ofNat q)) 130 6 (Int32.ofNat m)) 130 7 1, t_skM hV hn h3 hp hpq hqn hbl hq ?_, ?_, ?_, ?_⟩
  · unfold fM_go_130_52
    rw [e_sS, e_ve, e_vn _ _ (by omega), e_vn _ _ (by omega), h3, h4, if_pos (e_T hmn (by omega)), if_neg (e_F hqm (by omega))]
  · rw [e_sS, e_ve]
  · rw [e_sS, e_vn _ _ (by omega), e_sS, e_ve]
  · exact (((t_fM.si (by omega) (by omega)).tr (t_fM.si (by omega) (by omega))).tr (t_fM.si (by omega) (by omega))).tr (t_fM.si (by omega) (by omega))
theorem t_nM_96 {R : s_G} (hm : m ≤ 940) (hn : n ≤ 940) (h3 : M.1 130 3 = Int32.ofNat n) (h4 : M.1 130 4 = Int32.ofNat m) (hq9 : q ≤ 940) (hqm : m < n → q < m) (hR : fM_go_130_96 (s_si (s_si M 130 5 (Int32.ofNat q)) 130 6 (Int32.ofNat q)) = some R) : fM_go_130_52 (s_si M 130 5 (Int32.ofNat q)) = some R := by
  unfold fM_go_130_52
  rw [e_sS, e_ve, e_vn _ _ (by omega), e_vn _ _ (by omega), h3, h4]
  by_cases hmn : m < n
  · rw [if_pos (e_T hmn (by omega)), if_pos (e_T (hqm hmn) (by omega)), hR]
  · rw [if_neg (e_F (by omega) (by omega)), hR]
theorem t_nM_stop (hV : ∀ k, k < 940 → U k < 256 ∧ M.1 131 k = Int32.ofNat (U k)) (hn : n ≤ 940) (hm : m ≤ 940) (h3 : M.1 130 3 = Int32.ofNat n) (h4 : M.1 130 4 = Int32.ofNat m) (hp : M.1 130 5 = Int32.ofNat p) (hpn : p ≤ n) (hbl : ∀ j, p ≤ j → j < n → t_bl (U j) = true) (hmn : ¬ m < n) : ∃ M', fM_go_130 M = some M' ∧ M'.1 130 7 = 0 ∧ M'.1 130 6 = Int32.ofNat n ∧ t_fM M M' := by
  refine ⟨s_si (s_si (s_si M 130 5 (Int32.ofNat n)) 130 6 (Int32.ofNat n)) 130 7 0, t_skM hV hn h3 hp hpn (Nat.le_refl n) hbl (fun h => absurd h (by omega)) (t_nM_96 hm hn h3 h4 hn (fun h => absurd h hmn) ?_), ?_, ?_, ?_⟩
  · unfold fM_go_130_96
    rw [e_sS, e_vn _ _ (by omega), e_vn _ _ (by omega), e_sS, e_ve, e_vn _ _ (by omega), h3, if_neg (e_F (by omega) (by omega))]
  · rw [e_sS, e_ve]
  · rw [e_sS, e_vn _ _ (by omega), e_sS, e_ve]
  · exact ((t_fM.si (by omega) (by omega)).tr (t_fM.si (by omega) (by omega))).tr (t_fM.si (by omega) (by omega))
def t_M0 (q : Nat) (M : s_G) : s_G := s_si (s_si M 130 5 (Int32.ofNat q)) 130 6 (Int32.ofNat q)
theorem t_M0_f (q : Nat) (M : s_G) : t_fM M (t_M0 q M) := (t_fM.si (by omega) (by omega)).tr (t_fM.si (by omega) (by omega))
theorem t_M0_5 (q : Nat) (M : s_G) : (t_M0 q M).1 130 5 = Int32.ofNat q := by unfold t_M0; rw [e_sS, e_vn _ _ (by omega), e_sS, e_ve]
theorem t_M0_6 (q : Nat) (M : s_G) : (t_M0 q M).1 130 6 = Int32.ofNat q := by unfold t_M0; rw [e_sS, e_ve]
theorem t_nM_sg (hV : ∀ k, k < 940 → U k < 256 ∧ M.1 131 k = Int32.ofNat (U k)) (hn : n ≤ 940) (hm : m ≤ 940) (h3 : M.1 130 3 = Int32.ofNat n) (h4 : M.1 130 4 = Int32.ofNat m) (hp : M.1 130 5 = Int32.ofNat p) (hpq : p ≤ q) (hqn : q < n) (hbl : ∀ j, p ≤ j → j < q → t_bl (U j) = true) (hq : t_bl (U q) = false) (hqm : m < n → q < m) (hal : t_al (U q) = false) : ∃ M', fM_go_130 M = some M' ∧ M'.1 130 7 = (if t_sb (U q) = true then 4 else 1) ∧ M'.1 130 9 = Int32.ofNat (U q) ∧ M'.1 130 6 = Int32.ofNat q ∧ M'.1 130 5 = Int32.ofNat (q + 1) ∧ t_fM M M' := by
  obtain ⟨hu, hx⟩ := hV q (by omega)
  unfold t_al at hal
  rw [Bool.or_eq_false_iff] at hal
  refine ⟨s_si (s_si (s_si (t_M0 q M) 130 7 (if t_sb (U q) = true then 4 else 1)) 130 9 (Int32.ofNat (U q))) 130 5 (Int32.ofNat (q + 1)), t_skM hV hn h3 hp hpq (by omega) hbl (fun _ => hq) (t_nM_96 hm hn h3 h4 (by omega) hqm (show fM_go_130_96 (t_M0 q M) = _ from ?_)), ?_, ?_, ?_, ?_, ?_⟩
  · unfold fM_go_130_96
    rw [t_M0_5, (t_M0_f q M).2.2.1 3 (by omega), h3, if_pos (e_T hqn (by omega)), e_ix (show q < 940 by omega) (by omega), s_b1_s, ((t_M0_f q M).1 131 (by omega)).1, hx, t_isL hu, s_b1_s, hal.1, if_pos (show t_bI false = 0 from rfl), t_isD hu, s_b1_s, hal.2, if_pos (show t_bI false = 0 from rfl)]
    unfold fM_go_130_174 fM_go_130_179
    rw [t_M0_5, e_inc, show (59 : Int32) = Int32.ofNat 59 from rfl, show (60 : Int32) = Int32.ofNat 60 from rfl, show (61 : Int32) = Int32.ofNat 61 from rfl, show (62 : Int32) = Int32.ofNat 62 from rfl, show (40 : Int32) = Int32.ofNat 40 from rfl, show (41 : Int32) = Int32.ofNat 41 from rfl, t_ife (by omega) (by omega), t_ife (by omega) (by omega), t_ife (by omega) (by omega), t_ife (by omega) (by omega), t_ife (by omega) (by omega), t_ife (by omega) (by omega)]
    by_cases hs : t_sb (U q) = true
    · rw [if_pos hs]
      have := t_sb_t.mp hs
      repeat' split
      all_goals first | rfl | omega
    · rw [if_neg hs]
      have : ¬ (U q = 59 ∨ U q = 60 ∨ U q = 61 ∨ U q = 62 ∨ U q = 40 ∨ U q = 41) := fun h => hs (t_sb_t.mpr h)
      repeat' split
      all_goals first | omega | rfl
  · rw [e_sS, e_vn _ _ (by omega), e_sS, e_vn _ _ (by omega), e_sS, e_ve]
  · rw [e_sS, e_vn _ _ (by omega), e_sS, e_ve]
  · rw [e_sS, e_vn _ _ (by omega), e_sS, e_vn _ _ (by omega), e_sS, e_vn _ _ (by omega), t_M0_6]
  · rw [e_sS, e_ve]
  · exact (((t_M0_f q M).tr (t_fM.si (by omega) (by omega))).tr (t_fM.si (by omega) (by omega))).tr (t_fM.si (by omega) (by omega))
def t_gd (U : Nat → Nat) (q : Nat) : Nat → Bool
  | 0 => true
  | k + 1 => t_gd U q k && (t_lb (U (q + k)) == t_lb (U q))
theorem t_gd_t {U : Nat → Nat} {q : Nat} : ∀ k, t_gd U q k = true ↔ ∀ j, j < k → t_lb (U (q + j)) = t_lb (U q) := by
  intro k
  induction k with
  | zero => exact ⟨fun _ j hj => absurd hj (by omega), fun _ => rfl⟩
  | succ k ih =>
    rw [t_gd, Bool.and_eq_true, ih, beq_iff_eq]
    constructor
    · intro h j hj
      by_cases h1 : j = k
      · rw [h1]; exact h.2
      · exact h.1 j (by omega)
    · intro h
      exact ⟨fun j hj => h j (by omega), h k (by omega)⟩
theorem t_l27 : ∀ u, u < 123 → 97 ≤ u → (Int32.ofNat u).toInt64 = Int64.ofNat u := by decide +kernel
theorem t_m27 {v u : Nat} (hu : 96 ≤ u) : ((27 : Int64) * Int64.ofNat v + Int64.ofNat u) - 96 = Int64.ofNat (27 * v + (u - 96)) := by
  have h1 : (27 : Int64) * Int64.ofNat v + Int64.ofNat u = Int64.ofNat (27 * v + u) := by
    rw [Int64.ofNat_add, Int64.ofNat_mul]; rfl
  rw [h1, show 27 * v + (u - 96) = (27 * v + u) - 96 by omega, Int64.ofNat_sub _ _ (by omega)]
  rfl
theorem t_n10 {v u : Nat} (hu : 48 ≤ u) : ((10 : Int32) * Int32.ofNat v + Int32.ofNat u) - 48 = Int32.ofNat (10 * v + (u - 48)) := by
  have h1 : (10 : Int32) * Int32.ofNat v + Int32.ofNat u = Int32.ofNat (10 * v + u) := by
    rw [Int32.ofNat_add, Int32.ofNat_mul]; rfl
  rw [h1, show 10 * v + (u - 48) = (10 * v + u) - 48 by omega, Int32.ofNat_sub _ _ (by omega)]
  rfl
theorem t_tapeAt {X : s_G} {k : Nat} (hV : ∀ k, k < 940 → U k < 256 ∧ X.1 131 k = Int32.ofNat (U k)) (hn : n ≤ 940) (hk : k ≤ 940) (h3 : X.1 130 3 = Int32.ofNat n) : fM_tapeAt_130 (Int32.ofNat k) X = some (Int32.ofNat (if k < n then U k else 0)) := by
  unfold fM_tapeAt_130
  rw [h3]
  by_cases h : k < n
  · rw [if_pos (e_T h (by omega)), e_ix (show k < 940 by omega) (by omega), s_b1_s, (hV k (by omega)).2, if_pos h]
  · rw [if_neg (e_F (by omega) (by omega)), if_neg h]; rfl
/-- one more letter or digit -/
theorem t_rM1 {X : s_G} {r k : Nat} (hV : ∀ k, k < 940 → U k < 256 ∧ X.1 131 k = Int32.ofNat (U k)) (hn : n ≤ 940) (hqr : q + r ≤ n) (hk : k < r) (h3 : X.1 130 3 = Int32.ofNat n) (h5 : X.1 130 5 = Int32.ofNat (q + k)) (h6 : X.1 130 6 = Int32.ofNat q) (hal : t_al (U (q + k)) = true) (hw : t_aL U q k → k ≤ 7 → X.2.1 130 12 = Int64.ofNat (e_pk 27 (t_ll U q k))) (hu8 : t_aD U q k → k ≤ 3 → X.1 130 8 = Int32.ofNat (e_pk 10 (t_dl U q k))) : ∃ Y, fM_go_130_215 (t_bI (t_lb (U q))) (t_bI (t_gd U q k)) X = some (.inl (t_bI (t_gd U q (k + 1)), Y)) ∧ Y.1 130 5 = Int32.ofNat (q + (k + 1)) ∧ Y.1 130 6 = Int32.ofNat q ∧ (t_aL U q (k + 1) → k + 1 ≤ 7 → Y.2.1 130 12 = Int64.ofNat (e_pk 27 (t_ll U q (k + 1)))) ∧ (t_aD U q (k + 1) → k + 1 ≤ 3 → Y.1 130 8 = Int32.ofNat (e_pk 10 (t_dl U q (k + 1)))) ∧ t_fM X Y := by
  obtain ⟨hu, hx⟩ := hV (q + k) (by omega)
  have ed : Int32.ofNat (q + k) - Int32.ofNat q = Int32.ofNat k := by rw [← Int32.ofNat_sub _ _ (by omega), Nat.add_sub_cancel_left]
  -- the number
  have hB : ∀ (c : Int32) (Z : s_G), Z.1 130 5 = Int32.ofNat (q + k) → Z.1 130 6 = Int32.ofNat q → Z.1 130 8 = X.1 130 8 → ∃ Y, fM_go_130_307 (t_bI (t_lb (U q))) c (Int32.ofNat (U (q + k))) Z = some (.inl (c, Y)) ∧ Y.1 130 5 = Int32.ofNat (q + (k + 1)) ∧ Y.1 130 6 = Int32.ofNat q ∧ Y.2 = Z.2 ∧ (t_aD U q (k + 1) → k + 1 ≤ 3 → Y.1 130 8 = Int32.ofNat (e_pk 10 (t_dl U q (k + 1)))) ∧ t_fM Z Y := by
    intro c Z z5 z6 z8
    unfold fM_go_130_307
    rw [z5, z6, ed, e_inc, z8, show (3 : Int32) = Int32.ofNat 3 from rfl, t_ifl (by omega) (by omega)]
    by_cases h : k < 3
    · rw [if_pos h]
      refine ⟨_, rfl, ?_, ?_, rfl, ?_, ?_⟩
      · rw [e_sS, e_ve]; rfl
      · rw [e_sS, e_vn _ _ (by omega), e_sS, e_vn _ _ (by omega), z6]
      · intro ha h2
        have hd := t_db_t.mp (ha k (by omega))
        rw [e_sS, e_vn _ _ (by omega), e_sS, e_ve, hu8 (fun j hj => ha j (by omega)) (by omega), t_n10 (by omega), t_dl_s, t_pk_app]
      · exact (t_fM.si (by omega) (by omega)).tr (t_fM.si (by omega) (by omega))
    · rw [if_neg h]
      refine ⟨_, rfl, ?_, ?_, rfl, ?_, ?_⟩
      · rw [e_sS, e_ve]; rfl
      · rw [e_sS, e_vn _ _ (by omega), z6]
      · intro ha h2; omega
      · exact t_fM.si (by omega) (by omega)
  have hA : ∀ (c : Int32), ∃ Y, fM_go_130_272 (t_bI (t_lb (U q))) (Int32.ofNat (U (q + k))) c X = some (.inl (c, Y)) ∧ Y.1 130 5 = Int32.ofNat (q + (k + 1)) ∧ Y.1 130 6 = Int32.ofNat q ∧ (t_aL U q (k + 1) → k + 1 ≤ 7 → Y.2.1 130 12 = Int64.ofNat (e_pk 27 (t_ll U q (k + 1)))) ∧ (t_aD U q (k + 1) → k + 1 ≤ 3 → Y.1 130 8 = Int32.ofNat (e_pk 10 (t_dl U q (k + 1)))) ∧ t_fM X Y := by
    intro c
    unfold fM_go_130_272
    rw [h5, h6, ed, show (7 : Int32) = Int32.ofNat 7 from rfl, t_ifl (by omega) (by omega)]
    by_cases h : k < 7
    · rw [if_pos h]
      obtain ⟨Y, y1, y2, y3, y4, y5, y6⟩ := hB c (s_sl X 130 12 ((((27 : Int64) * (X.2.1 130 12)) + (Int32.ofNat (U (q + k))).toInt64) - (96 : Int64))) h5 h6 rfl
      refine ⟨Y, y1, y2, y3, ?_, y5, t_fM.sl.tr y6⟩
      intro ha h2
      have hl := t_lb_t.mp (ha k (by omega))
      rw [y4, e_lS, e_ve, hw (fun j hj => ha j (by omega)) (by omega), t_l27 _ (by omega) (by omega), t_m27 (by omega), t_ll_s, t_pk_app]
    · rw [if_neg h]
      obtain ⟨Y, y1, y2, y3, y4, y5, y6⟩ := hB c X h5 h6 rfl
      exact ⟨Y, y1, y2, y3, fun ha h2 => by omega, y5, y6⟩
  have h243 : ∃ Y, fM_go_130_243 (t_bI (t_lb (U q))) (t_bI (t_gd U q k)) X = some (.inl (t_bI (t_gd U q (k + 1)), Y)) ∧ Y.1 130 5 = Int32.ofNat (q + (k + 1)) ∧ Y.1 130 6 = Int32.ofNat q ∧ (t_aL U q (k + 1) → k + 1 ≤ 7 → Y.2.1 130 12 = Int64.ofNat (e_pk 27 (t_ll U q (k + 1)))) ∧ (t_aD U q (k + 1) → k + 1 ≤ 3 → Y.1 130 8 = Int32.ofNat (e_pk 10 (t_dl U q (k + 1)))) ∧ t_fM X Y := by
    have eg : t_gd U q (k + 1) = (t_gd U q k && (t_lb (U (q + k)) == t_lb (U q))) := rfl
    unfold fM_go_130_243
    rw [h5, e_ix (show q + k < 940 by omega) (by omega), s_b1_s, hx, t_isL hu, s_b1_s, eg]
    unfold fM_go_130_271
    cases hg : t_gd U q k with
    | false =>
      rw [if_pos (show t_bI false = 0 from rfl), Bool.false_and]
      exact hA 0
    | true =>
      rw [if_neg (show ¬ t_bI true = 0 by decide), Bool.true_and]
      by_cases hb : t_lb (U (q + k)) = t_lb (U q)
      · rw [if_pos (by rw [hb]), hb, beq_self_eq_true]
        exact hA 1
      · rw [if_neg (fun h => hb ((t_bI_e _ _).mp h)), beq_eq_false_iff_ne.mpr hb]
        exact hA 0
  have e215 : fM_go_130_215 (t_bI (t_lb (U q))) (t_bI (t_gd U q k)) X = fM_go_130_243 (t_bI (t_lb (U q))) (t_bI (t_gd U q k)) X := by
    unfold fM_go_130_215
    rw [h5, t_tapeAt hV hn (by omega) h3, if_pos (show q + k < n by omega), s_b1_s, s_b1_s, t_isL hu, s_b1_s, t_isD hu, s_b1_s]
    unfold t_al at hal
    cases hl : t_lb (U (q + k)) with
    | true => rw [if_neg (show ¬ t_bI true = 0 by decide)]
    | false =>
      rw [hl, Bool.false_or] at hal
      rw [if_pos (show t_bI false = 0 from rfl), hal, if_neg (show ¬ t_bI true = 0 by decide)]
  rw [e215]
  exact h243
theorem t_nM_run {r : Nat} (hV : ∀ k, k < 940 → U k < 256 ∧ M.1 131 k = Int32.ofNat (U k)) (hn : n ≤ 940) (hm : m ≤ 940) (h3 : M.1 130 3 = Int32.ofNat n) (h4 : M.1 130 4 = Int32.ofNat m) (hp : M.1 130 5 = Int32.ofNat p) (hpq : p ≤ q) (hqn : q < n) (hbl : ∀ j, p ≤ j → j < q → t_bl (U j) = true) (hq : t_bl (U q) = false) (hqm : m < n → q < m) (hr : 1 ≤ r) (hqr : q + r ≤ n) (hal : ∀ j, j < r → t_al (U (q + j)) = true) (hend : q + r < n → t_al (U (q + r)) = false) : ∃ M', fM_go_130 M = some M' ∧ M'.1 130 6 = Int32.ofNat q ∧ M'.1 130 5 = Int32.ofNat (q + r) ∧ t_fM M M' ∧ (t_aL U q r → r ≤ 7 → M'.1 130 7 = 2 ∧ M'.2.1 130 12 = Int64.ofNat (e_pk 27 (t_ll U q r))) ∧ (t_aD U q r → r ≤ 3 → M'.1 130 7 = 3 ∧ M'.1 130 8 = Int32.ofNat (e_pk 10 (t_dl U q r))) ∧ (¬ (t_aL U q r ∧ r ≤ 7) → ¬ (t_aD U q r ∧ r ≤ 3) → M'.1 130 7 = 1) := by
  obtain ⟨hu, hx⟩ := hV q (by omega)
  generalize hX : s_si (s_sl (t_M0 q M) 130 12 0) 130 8 0 = X
  have fX : t_fM M X := by rw [← hX]; exact ((t_M0_f q M).tr t_fM.sl).tr (t_fM.si (by omega) (by omega))
  have x5 : X.1 130 5 = Int32.ofNat q := by
    rw [← hX, e_sS, e_vn _ _ (by omega)]; exact t_M0_5 q M
  have x6 : X.1 130 6 = Int32.ofNat q := by
    rw [← hX, e_sS, e_vn _ _ (by omega)]; exact t_M0_6 q M
  have x8 : X.1 130 8 = 0 := by rw [← hX, e_sS, e_ve]
  have x12 : X.2.1 130 12 = 0 := by
    rw [← hX]
    show (s_sl (t_M0 q M) 130 12 0).2.1 130 12 = 0
    rw [e_lS, e_ve]
  obtain ⟨⟨c, Y⟩, ⟨i1, i2, i3, i4, i5, i6⟩, hlp⟩ := e_lpN (B := fun (x : Int32 × s_G) => fM_go_130_215 (t_bI (t_lb (U q))) x.1 x.2) (fun k (x : Int32 × s_G) => x.1 = t_bI (t_gd U q k) ∧ x.2.1 130 5 = Int32.ofNat (q + k) ∧ x.2.1 130 6 = Int32.ofNat q ∧ (t_aL U q k → k ≤ 7 → x.2.2.1 130 12 = Int64.ofNat (e_pk 27 (t_ll U q k))) ∧ (t_aD U q k → k ≤ 3 → x.2.1 130 8 = Int32.ofNat (e_pk 10 (t_dl U q k))) ∧ t_fM M x.2) r (x := (1, X)) (by
    intro k x hk hx
    obtain ⟨c, Y⟩ := x
    obtain ⟨i1, i2, i3, i4, i5, i6⟩ := hx
    dsimp only at i1 i2 i3 i4 i5 i6 ⊢
    subst i1
    obtain ⟨Z, z1, z2, z3, z4, z5, z6⟩ := t_rM1 (X := Y) (U := U) (q := q) (n := n) (r := r) (k := k) (fun k hk => by rw [(i6.1 131 (by omega)).1]; exact hV k hk) hn hqr hk (by rw [i6.2.2.1 3 (by omega), h3]) i2 i3 (hal k hk) i4 i5
    exact ⟨_, z1, rfl, z2, z3, z4, z5, i6.tr z6⟩) ⟨rfl, x5, x6, fun _ _ => x12, fun _ _ => x8, fX⟩
  dsimp only at i1 i2 i3 i4 i5 i6
  subst i1
  have ed : Int32.ofNat (q + r) - Int32.ofNat q = Int32.ofNat r := by rw [← Int32.ofNat_sub _ _ (by omega), Nat.add_sub_cancel_left]
  have hV' : ∀ k, k < 940 → U k < 256 ∧ Y.1 131 k = Int32.ofNat (U k) := fun k hk => by rw [(i6.1 131 (by omega)).1]; exact hV k hk
  have y3 : Y.1 130 3 = Int32.ofNat n := by rw [i6.2.2.1 3 (by omega), h3]
  -- the end of the loop
  have hout : ∀ R, (if t_bI (t_gd U q r) = 0 then (some (s_si Y 130 7 (1 : Int32)))
  else if t_bI (t_lb (U q)) = 0 then (fM_go_130_374 (t_bI (t_lb (U q))) (3 : Int32) (Int32.ofNat r) Y)
  else fM_go_130_374 (t_bI (t_lb (U q))) (7 : Int32) (Int32.ofNat r) Y) = some R → fM_go_130 M = some R := by
    intro R hR
    refine t_skM hV hn h3 hp hpq (by omega) hbl (fun _ => hq) (t_nM_96 hm hn h3 h4 (by omega) hqm (show fM_go_130_96 (t_M0 q M) = _ from ?_))
    have h198 : fM_go_130_198 (Int32.ofNat (U q)) (t_M0 q M) = some R := by
      unfold fM_go_130_198
      rw [t_isL hu, s_b1_s, hX, hlp]
      apply s_lp_out
      try dsimp only
      unfold fM_go_130_215
      have hz : t_lb (if q + r < n then U (q + r) else 0) = false ∧ t_db (if q + r < n then U (q + r) else 0) = false := by
        by_cases hqn2 : q + r < n
        · rw [if_pos hqn2]
          have := hend hqn2
          unfold t_al at this
          rw [Bool.or_eq_false_iff] at this
          exact this
        · rw [if_neg hqn2]; exact ⟨rfl, rfl⟩
      have hz2 : (if q + r < n then U (q + r) else 0) < 256 := by
        by_cases hqn2 : q + r < n
        · rw [if_pos hqn2]; exact (hV (q + r) (by omega)).1
        · rw [if_neg hqn2]; omega
      rw [i2, t_tapeAt hV' hn (by omega) y3, s_b1_s, s_b1_s, t_isL hz2, s_b1_s, t_isD hz2, s_b1_s, hz.1, hz.2, if_pos (show t_bI false = 0 from rfl), if_pos (show t_bI false = 0 from rfl), i3, ed, hR]
      rfl
    unfold fM_go_130_96
    rw [t_M0_5, (t_M0_f q M).2.2.1 3 (by omega), h3, if_pos (e_T hqn (by omega)), e_ix (show q < 940 by omega) (by omega), s_b1_s, ((t_M0_f q M).1 131 (by omega)).1, hx, t_isL hu, s_b1_s, t_isD hu, s_b1_s, h198]
    have h0 := hal 0 (by omega)
    rw [Nat.add_zero] at h0
    unfold t_al at h0
    cases hl : t_lb (U q) with
    | true => rw [if_neg (show ¬ t_bI true = 0 by decide)]
    | false =>
      rw [hl, Bool.false_or] at h0
      rw [if_pos (show t_bI false = 0 from rfl), h0, if_neg (show ¬ t_bI true = 0 by decide)]
  have k6 : ∀ v, (s_si Y 130 7 v).1 130 6 = Int32.ofNat q := fun v => by rw [e_sS, e_vn _ _ (by omega), i3]
  have k5 : ∀ v, (s_si Y 130 7 v).1 130 5 = Int32.ofNat (q + r) := fun v => by rw [e_sS, e_vn _ _ (by omega), i2]
  have k8 : ∀ v, (s_si Y 130 7 v).1 130 8 = Y.1 130 8 := fun v => by rw [e_sS, e_vn _ _ (by omega)]
  have k7 : ∀ v, (s_si Y 130 7 v).1 130 7 = v := fun v => by rw [e_sS, e_ve]
  have fy : ∀ v, t_fM M (s_si Y 130 7 v) := fun v => i6.tr (t_fM.si (by omega) (by omega))
  have aL1 : t_aL U q r → t_lb (U q) = true := fun h => by have := h 0 (by omega); rw [Nat.add_zero] at this; exact this
  have aD1 : t_aD U q r → t_lb (U q) = false := fun h => by have := t_db_t.mp (h 0 (by omega)); rw [Nat.add_zero] at this; exact t_lb_f.mpr (by omega)
  cases hg : t_gd U q r with
  | false =>
    rw [hg] at hout
    have hn1 : ¬ t_gd U q r = true := by rw [hg]; decide
    refine ⟨_, hout _ (if_pos rfl), k6 _, k5 _, fy _, ?_, ?_, fun _ _ => k7 _⟩
    · intro ha
      exact absurd ((t_gd_t r).mpr (fun j hj => by rw [ha j hj, aL1 ha])) hn1
    · intro ha
      refine absurd ((t_gd_t r).mpr (fun j hj => ?_)) hn1
      have := t_db_t.mp (ha j hj)
      rw [aD1 ha]
      exact t_lb_f.mpr (by omega)
  | true =>
    rw [hg, if_neg (show ¬ t_bI true = 0 by decide)] at hout
    have hgd := (t_gd_t r).mp hg
    cases hl : t_lb (U q) with
    | true =>
      rw [hl, if_neg (show ¬ t_bI true = 0 by decide)] at hout
      have ha : t_aL U q r := fun j hj => by rw [hgd j hj, hl]
      by_cases h7 : r ≤ 7
      · refine ⟨s_si Y 130 7 2, hout _ ?_, k6 _, k5 _, fy _, fun _ _ => ⟨k7 _, i4 ha h7⟩, ?_, fun h => absurd ⟨ha, h7⟩ h⟩
        · unfold fM_go_130_374
          rw [if_neg (show ¬ 7 < Int32.ofNat r from e_F (a := 7) (b := r) h7 (by omega)), if_neg (show ¬ t_bI true = 0 by decide)]
        · intro hd; rw [aD1 hd] at hl; cases hl
      · refine ⟨s_si Y 130 7 1, hout _ ?_, k6 _, k5 _, fy _, fun _ h => absurd h h7, ?_, fun _ _ => k7 _⟩
        · unfold fM_go_130_374
          rw [if_pos (show 7 < Int32.ofNat r from e_T (a := 7) (b := r) (by omega) (by omega))]
        · intro hd; rw [aD1 hd] at hl; cases hl
    | false =>
      rw [hl, if_pos (show t_bI false = 0 from rfl)] at hout
      have ha : t_aD U q r := fun j hj => by
        have h1 := hgd j hj
        rw [hl] at h1
        have h2 := hal j hj
        unfold t_al at h2
        rw [h1, Bool.false_or] at h2
        exact h2
      by_cases h7 : r ≤ 3
      · refine ⟨s_si Y 130 7 3, hout _ ?_, k6 _, k5 _, fy _, ?_, fun _ _ => ⟨k7 _, (k8 _).trans (i5 ha h7)⟩, fun _ h => absurd ⟨ha, h7⟩ h⟩
        · unfold fM_go_130_374
          rw [if_neg (show ¬ 3 < Int32.ofNat r from e_F (a := 3) (b := r) h7 (by omega)), if_pos (show t_bI false = 0 from rfl)]
        · intro hd; rw [aL1 hd] at hl; cases hl
      · refine ⟨s_si Y 130 7 1, hout _ ?_, k6 _, k5 _, fy _, ?_, fun _ h => absurd h h7, fun _ _ => k7 _⟩
        · unfold fM_go_130_374
          rw [if_pos (show 3 < Int32.ofNat r from e_T (a := 3) (b := r) (by omega) (by omega))]
        · intro hd; rw [aL1 hd] at hl; cases hl
end SNU
