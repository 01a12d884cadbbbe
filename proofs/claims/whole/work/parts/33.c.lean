-- TEXTS: the class's next token, by cases
theorem t_ifl {α : Type} {a b : Nat} {x y : α} (ha : a < 2147483648) (hb : b < 2147483648) : (if Int32.ofNat a < Int32.ofNat b then x else y) = if a < b then x else y := by
  by_cases h : a < b
  · rw [if_pos h, if_pos (e_T h hb)]
  · rw [if_neg h, if_neg (e_F (by omega) ha)]
theorem t_ife {α : Type} {a b : Nat} {x y : α} (ha : a < 2147483648) (hb : b < 2147483648) : (if Int32.ofNat a = Int32.ofNat b then x else y) = if a = b then x else y := by
  by_cases h : a = b
  · rw [if_pos h, if_pos (by rw [h])]
  · rw [if_neg h, if_neg (fun hh => h (e_in ha hb hh))]
def t_C0 (q : Nat) (X : s_G) : s_G := s_si (s_sl (s_si (s_sr X 1 9 none) 1 7 0) 1 8 0) 1 6 (Int32.ofNat q)
theorem t_C0_f (q : Nat) (X : s_G) : t_fC X (t_C0 q X) := ((t_fC.sr.tr (t_fC.si (by omega) (by omega))).tr t_fC.sl).tr (t_fC.si (by omega) (by omega))
theorem t_C0_6 (q : Nat) (X : s_G) : (t_C0 q X).1 1 6 = Int32.ofNat q := by unfold t_C0; rw [e_sS, e_ve]
theorem t_C0_7 (q : Nat) (X : s_G) : (t_C0 q X).1 1 7 = 0 := by
  unfold t_C0
  rw [e_sS, e_vn _ _ (by omega)]
  show (s_si (s_sr X 1 9 none) 1 7 0).1 1 7 = 0
  rw [e_sS, e_ve]
theorem t_C0_4 (q : Nat) (X : s_G) : (t_C0 q X).1 1 4 = X.1 1 4 := by
  unfold t_C0
  rw [e_sS, e_vn _ _ (by omega)]
  show (s_si (s_sr X 1 9 none) 1 7 0).1 1 4 = _
  rw [e_sS, e_vn _ _ (by omega)]
  rfl
theorem t_C0_8 (q : Nat) (X : s_G) : (t_C0 q X).2.1 1 8 = 0 := by
  show (s_sl (s_si (s_sr X 1 9 none) 1 7 0) 1 8 0).2.1 1 8 = 0
  rw [e_lS, e_ve]
theorem t_C0_9 (q : Nat) (X : s_G) : (t_C0 q X).2.2 1 9 = none := by
  show (s_sr X 1 9 none).2.2 1 9 = none
  rw [e_rS, e_ve]
def t_cb (n m : Nat) : Nat := if m < n then m else n
theorem t_nb {C : s_G} {n m : Nat} {R : s_G} (hn : n ≤ 940) (hm : m ≤ 940) (h2 : C.1 1 2 = Int32.ofNat n) (h3 : C.1 1 3 = Int32.ofNat m) (hR : s_lp (fun x => fQ_next_1_12 (Int32.ofNat (t_cb n m)) x) C = some R) : fQ_next_1 C = some R := by
  unfold fQ_next_1
  rw [h2, h3, t_ifl (by omega) (by omega), s_b1_s]
  unfold t_cb at hR
  by_cases h : m < n
  · rw [if_pos h] at hR ⊢; exact hR
  · rw [if_neg h] at hR ⊢; exact hR
section SNT
variable {C : s_G} {U : Nat → Nat} {p q n m : Nat}
theorem t_nC_end (hU : ∀ k, k < 940 → U k < 256 ∧ C.1 2 k = t_s8 (U k)) (hn : n ≤ 940) (hm : m ≤ 940) (h2 : C.1 1 2 = Int32.ofNat n) (h3 : C.1 1 3 = Int32.ofNat m) (hp : C.1 1 4 = Int32.ofNat p) (hpq : p ≤ q) (hq9 : q ≤ 940) (hbl : ∀ j, p ≤ j → j < q → j < t_cb n m ∧ t_bl (U j) = true) (hq : ¬ q < t_cb n m) : ∃ C', fQ_next_1 C = some C' ∧ C'.1 1 5 = 0 ∧ C'.1 1 6 = Int32.ofNat (t_cb n m) ∧ C'.2.2 1 9 = none ∧ t_fC C C' := by
  have hb : t_cb n m ≤ 940 := by unfold t_cb; split <;> omega
  refine ⟨s_si (t_C0 (t_cb n m) (s_si C 1 4 (Int32.ofNat q))) 1 5 0, t_nb hn hm h2 h3 (t_skC hU hb hq9 hp hpq hbl (fun h => absurd h hq) ?_), ?_, ?_, ?_, ?_⟩
  · unfold fQ_next_1_61
    rw [e_sS, e_ve, if_neg (e_F (by omega) (by omega))]
    rfl
  · rw [e_sS, e_ve]
  · rw [e_sS, e_vn _ _ (by omega), t_C0_6]
  · exact t_C0_9 (t_cb n m) (s_si C 1 4 (Int32.ofNat q))
  · exact ((t_fC.si (by omega) (by omega)).tr (t_C0_f _ _)).tr (t_fC.si (by omega) (by omega))
/-- where a token begins -/
theorem t_nC_go {R : s_G} (hU : ∀ k, k < 940 → U k < 256 ∧ C.1 2 k = t_s8 (U k)) (hn : n ≤ 940) (hm : m ≤ 940) (h2 : C.1 1 2 = Int32.ofNat n) (h3 : C.1 1 3 = Int32.ofNat m) (hp : C.1 1 4 = Int32.ofNat p) (hpq : p ≤ q) (hbl : ∀ j, p ≤ j → j < q → t_bl (U j) = true) (hq : q < t_cb n m) (hqb : t_bl (U q) = false) (hR : (s_b2 (fQ_readRun_1 (t_C0 q (s_si C 1 4 (Int32.ofNat q)))) fun v6 g5 => if ((g5.1 1 4) - (g5.1 1 6)) = 0 then (s_b1 (fQ_readSign_1 g5) fun g7 => some g7)
  else if v6 = 0 then (if (7 : Int32) < ((g5.1 1 4) - (g5.1 1 6)) then (fQ_next_1_169 v6 ((g5.1 1 4) - (g5.1 1 6)) g5)
  else s_b1 (fW_spelt_s (g5.2.1 1 8) g5) fun v8 => if v8 = none then (some (s_si (s_sr g5 1 9 v8) 1 5 (3 : Int32)))
  else some (s_si (s_sr g5 1 9 v8) 1 5 (2 : Int32)))
  else fQ_next_1_169 v6 ((g5.1 1 4) - (g5.1 1 6)) g5) = some R) : fQ_next_1 C = some R := by
  have hb : t_cb n m ≤ 940 := by unfold t_cb; split <;> omega
  refine t_nb hn hm h2 h3 (t_skC hU hb (by omega) hp hpq (fun j h1 h2 => ⟨by omega, hbl j h1 h2⟩) (fun _ => hqb) ?_)
  unfold fQ_next_1_61
  rw [e_sS, e_ve, if_pos (e_T hq (by omega))]
  exact hR
def t_sb (u : Nat) : Bool := Nat.beq u 59 || Nat.beq u 60 || Nat.beq u 61 || Nat.beq u 62 || Nat.beq u 40 || Nat.beq u 41
theorem t_sb_t {u : Nat} : t_sb u = true ↔ u = 59 ∨ u = 60 ∨ u = 61 ∨ u = 62 ∨ u = 40 ∨ u = 41 := by
  unfold t_sb
  rw [Bool.or_eq_true, Bool.or_eq_true, Bool.or_eq_true, Bool.or_eq_true, Bool.or_eq_true, Nat.beq_eq, Nat.beq_eq, Nat.beq_eq, Nat.beq_eq, Nat.beq_eq, Nat.beq_eq]
  omega
theorem t_signC {X : s_G} {u q : Nat} (hu : u < 256) (hq : q < 940) (h4 : X.1 1 4 = Int32.ofNat q) (hx : X.1 2 q = t_s8 u) : fQ_readSign_1 X = some (s_si (s_si (s_si X 1 7 (t_s8 u)) 1 5 (if t_sb u = true then 5 else 1)) 1 4 (Int32.ofNat (q + 1))) := by
  have h4' : ∀ v, (s_si X 1 7 v).1 1 4 = Int32.ofNat q := fun v => by rw [e_sS, e_vn _ _ (by omega), h4]
  have yes : fQ_readSign_1_72 1 (s_si X 1 7 (t_s8 u)) = some (s_si (s_si (s_si X 1 7 (t_s8 u)) 1 5 5) 1 4 (Int32.ofNat (q + 1))) := by
    unfold fQ_readSign_1_72 fQ_readSign_1_83
    rw [if_neg (by decide), h4', e_inc]
  unfold fQ_readSign_1
  rw [h4, e_ix hq (by omega), s_b1_s, hx]
  unfold fQ_readSign_1_67
  rw [yes]
  simp only [show (59 : Int32) = Int32.ofNat 59 from rfl, show (60 : Int32) = Int32.ofNat 60 from rfl, show (61 : Int32) = Int32.ofNat 61 from rfl, show (62 : Int32) = Int32.ofNat 62 from rfl, show (40 : Int32) = Int32.ofNat 40 from rfl, show (41 : Int32) = Int32.ofNat 41 from rfl, propext (t_s8_e hu (show 59 < 128 by omega)), propext (t_s8_e hu (show 60 < 128 by omega)), propext (t_s8_e hu (show 61 < 128 by omega)), propext (t_s8_e hu (show 62 < 128 by omega)), propext (t_s8_e hu (show 40 < 128 by omega)), propext (t_s8_e hu (show 41 < 128 by omega))]
  by_cases hs : t_sb u = true
  · rw [if_pos hs]
    have := t_sb_t.mp hs
    repeat' split
    all_goals first | rfl | omega
  · rw [if_neg hs]
    have : ¬ (u = 59 ∨ u = 60 ∨ u = 61 ∨ u = 62 ∨ u = 40 ∨ u = 41) := fun h => hs (t_sb_t.mpr h)
    repeat' split
    all_goals first | omega | skip
    unfold fQ_readSign_1_72 fQ_readSign_1_83
    rw [if_pos rfl, h4', e_inc]
theorem t_nC_sg (hU : ∀ k, k < 940 → U k < 256 ∧ C.1 2 k = t_s8 (U k)) (hn : n ≤ 940) (hm : m ≤ 940) (h2 : C.1 1 2 = Int32.ofNat n) (h3 : C.1 1 3 = Int32.ofNat m) (hp : C.1 1 4 = Int32.ofNat p) (hpq : p ≤ q) (hbl : ∀ j, p ≤ j → j < q → t_bl (U j) = true) (hq : q < t_cb n m) (hqb : t_bl (U q) = false) (hal : t_al (U q) = false) : ∃ C', fQ_next_1 C = some C' ∧ C'.1 1 5 = (if t_sb (U q) = true then 5 else 1) ∧ C'.1 1 7 = t_s8 (U q) ∧ C'.1 1 6 = Int32.ofNat q ∧ C'.1 1 4 = Int32.ofNat (q + 1) ∧ C'.2.2 1 9 = none ∧ t_fC C C' := by
  have hb : t_cb n m ≤ n := by unfold t_cb; split <;> omega
  have f0 : t_fC C (t_C0 q (s_si C 1 4 (Int32.ofNat q))) := (t_fC.si (by omega) (by omega)).tr (t_C0_f _ _)
  have c4 : (t_C0 q (s_si C 1 4 (Int32.ofNat q))).1 1 4 = Int32.ofNat q := by rw [t_C0_4, e_sS, e_ve]
  obtain ⟨Y, y1, y2, -, -, y5, y6, y7⟩ := t_rrC (X := t_C0 q (s_si C 1 4 (Int32.ofNat q))) (U := U) (q := q) (r := 0) (n := n) (fun k hk => by rw [(f0.1 2 (by omega)).1]; exact hU k hk) hn (by omega) (by rw [f0.2 2 (by omega), h2]) c4 (t_C0_7 _ _) (t_C0_8 _ _) (fun j hj => absurd hj (by omega)) (fun _ => hal)
  have y6' : Y.1 1 6 = Int32.ofNat q := by rw [y6, t_C0_6]
  have fy := f0.tr y5
  obtain ⟨hu, hx⟩ := hU q (by omega)
  have hsg := t_signC (X := Y) (u := U q) (q := q) hu (by omega) y2 (by rw [(fy.1 2 (by omega)).1]; exact hx)
  refine ⟨_, t_nC_go hU hn hm h2 h3 hp hpq hbl hq hqb (by
    rw [y1, s_b2_s, y2, y6', Nat.add_zero, Int32.sub_self, if_pos rfl, hsg, s_b1_s]), ?_, ?_, ?_, ?_, ?_, ?_⟩
  · rw [e_sS, e_vn _ _ (by omega), e_sS, e_ve]
  · rw [e_sS, e_vn _ _ (by omega), e_sS, e_vn _ _ (by omega), e_sS, e_ve]
  · rw [e_sS, e_vn _ _ (by omega), e_sS, e_vn _ _ (by omega), e_sS, e_vn _ _ (by omega), y6']
  · rw [e_sS, e_ve]
  · show Y.2.2 1 9 = none
    rw [y7]; exact t_C0_9 _ _
  · exact ((fy.tr (t_fC.si (by omega) (by omega))).tr (t_fC.si (by omega) (by omega))).tr (t_fC.si (by omega) (by omega))
theorem t_nC_run {r : Nat} (hU : ∀ k, k < 940 → U k < 256 ∧ C.1 2 k = t_s8 (U k)) (hn : n ≤ 940) (hm : m ≤ 940) (h2 : C.1 1 2 = Int32.ofNat n) (h3 : C.1 1 3 = Int32.ofNat m) (hp : C.1 1 4 = Int32.ofNat p) (hpq : p ≤ q) (hbl : ∀ j, p ≤ j → j < q → t_bl (U j) = true) (hq : q < t_cb n m) (hqb : t_bl (U q) = false) (hr : 1 ≤ r) (hqr : q + r ≤ n) (hal : ∀ j, j < r → t_al (U (q + j)) = true) (hend : q + r < n → t_al (U (q + r)) = false) : ∃ C', fQ_next_1 C = some C' ∧ C'.1 1 6 = Int32.ofNat q ∧ C'.1 1 4 = Int32.ofNat (q + r) ∧ t_fC C C' ∧
    ((t_aL U q r ∧ r ≤ 7 ∧ ((∃ w, w < 29 ∧ t_ll U q r = t_wd w ∧ C'.1 1 5 = 2 ∧ C'.2.2 1 9 = some (1000 + w)) ∨ ((∀ w, w < 29 → ¬ t_ll U q r = t_wd w) ∧ C'.1 1 5 = 3 ∧ C'.2.2 1 9 = none ∧ C'.2.1 1 8 = Int64.ofNat (e_pk 32 (t_ll U q r))))) ∨ (t_aD U q r ∧ r ≤ 3 ∧ C'.1 1 5 = 4 ∧ C'.2.2 1 9 = none ∧ C'.1 1 7 = Int32.ofNat (e_pk 10 (t_dl U q r))) ∨ (¬ (t_aL U q r ∧ r ≤ 7) ∧ ¬ (t_aD U q r ∧ r ≤ 3) ∧ C'.1 1 5 = 1 ∧ C'.2.2 1 9 = none)) := by
  have hb : t_cb n m ≤ n := by unfold t_cb; split <;> omega
  have f0 : t_fC C (t_C0 q (s_si C 1 4 (Int32.ofNat q))) := (t_fC.si (by omega) (by omega)).tr (t_C0_f _ _)
  have c4 : (t_C0 q (s_si C 1 4 (Int32.ofNat q))).1 1 4 = Int32.ofNat q := by rw [t_C0_4, e_sS, e_ve]
  obtain ⟨Y, y1, y2, y3, y4, y5, y6, y7⟩ := t_rrC (X := t_C0 q (s_si C 1 4 (Int32.ofNat q))) (U := U) (q := q) (r := r) (n := n) (fun k hk => by rw [(f0.1 2 (by omega)).1]; exact hU k hk) hn hqr (by rw [f0.2 2 (by omega), h2]) c4 (t_C0_7 _ _) (t_C0_8 _ _) hal hend
  have y6' : Y.1 1 6 = Int32.ofNat q := by rw [y6, t_C0_6]
  have fy := f0.tr y5
  have y9 : Y.2.2 1 9 = none := by rw [y7]; exact t_C0_9 _ _
  have ed : Int32.ofNat (q + r) - Int32.ofNat q = Int32.ofNat r := by
    rw [← Int32.ofNat_sub _ _ (by omega), Nat.add_sub_cancel_left]
  have hdle := t_dc_le U q r
  have go : ∀ R, (if Int32.ofNat (t_dc U q r) = 0 then (if (7 : Int32) < Int32.ofNat r then (fQ_next_1_169 (Int32.ofNat (t_dc U q r)) (Int32.ofNat r) Y)
  else s_b1 (fW_spelt_s (Y.2.1 1 8) Y) fun v8 => if v8 = none then (some (s_si (s_sr Y 1 9 v8) 1 5 (3 : Int32)))
  else some (s_si (s_sr Y 1 9 v8) 1 5 (2 : Int32)))
  else fQ_next_1_169 (Int32.ofNat (t_dc U q r)) (Int32.ofNat r) Y) = some R → fQ_next_1 C = some R := by
    intro R hR
    refine t_nC_go hU hn hm h2 h3 hp hpq hbl hq hqb ?_
    rw [y1, s_b2_s, y2, y6', ed, if_neg (show ¬ Int32.ofNat r = 0 from fun h => by have := e_in (b := 0) (by omega) (by omega) h; omega)]
    exact hR
  have bad : ¬ (t_aL U q r ∧ r ≤ 7) → ¬ (t_aD U q r ∧ r ≤ 3) → fQ_next_1 C = some (s_si Y 1 5 1) := by
    intro b1 b2
    have b3 : fQ_next_1_169 (Int32.ofNat (t_dc U q r)) (Int32.ofNat r) Y = some (s_si Y 1 5 1) := by
      unfold fQ_next_1_169
      rw [t_ife (by omega) (by omega)]
      by_cases hd : t_dc U q r = r
      · rw [if_pos hd, if_pos (show 3 < Int32.ofNat r from e_T (a := 3) (by have := (t_dc_r r).mp hd; exact Nat.lt_of_not_le (fun h => b2 ⟨this, h⟩)) (by omega))]
      · rw [if_neg hd]
    apply go
    by_cases hd : t_dc U q r = 0
    · rw [if_pos (show Int32.ofNat (t_dc U q r) = 0 by rw [hd]; rfl), if_pos (show 7 < Int32.ofNat r from e_T (a := 7) (by have := (t_dc_0 r hal).mp hd; exact Nat.lt_of_not_le (fun h => b1 ⟨this, h⟩)) (by omega))]
      exact b3
    · rw [if_neg (show ¬ Int32.ofNat (t_dc U q r) = 0 from fun h => hd (e_in (b := 0) (by omega) (by omega) h))]
      exact b3
  by_cases hA : t_aL U q r ∧ r ≤ 7
  · obtain ⟨hA, hr7⟩ := hA
    have hl := t_ll_ok hA hr hr7
    have hd : t_dc U q r = 0 := (t_dc_0 r hal).mpr hA
    have go2 : ∀ R v8, fW_spelt_s (Int64.ofNat (e_pk 32 (t_ll U q r))) Y = some v8 → (if v8 = none then (some (s_si (s_sr Y 1 9 v8) 1 5 (3 : Int32))) else some (s_si (s_sr Y 1 9 v8) 1 5 (2 : Int32))) = some R → fQ_next_1 C = some R := by
      intro R v8 hv hR
      apply go
      rw [if_pos (show Int32.ofNat (t_dc U q r) = 0 by rw [hd]; rfl), if_neg (show ¬ 7 < Int32.ofNat r from e_F (b := r) (a := 7) (by omega) (by omega)), y3 hA, hv, s_b1_s]
      exact hR
    have fin : ∀ v v8, t_fC C (s_si (s_sr Y 1 9 v8) 1 5 v) := fun v v8 => (fy.tr t_fC.sr).tr (t_fC.si (by omega) (by omega))
    have k6 : ∀ v v8, (s_si (s_sr Y 1 9 v8) 1 5 v).1 1 6 = Int32.ofNat q := fun v v8 => by rw [e_sS, e_vn _ _ (by omega)]; exact y6'
    have k4 : ∀ v v8, (s_si (s_sr Y 1 9 v8) 1 5 v).1 1 4 = Int32.ofNat (q + r) := fun v v8 => by rw [e_sS, e_vn _ _ (by omega)]; exact y2
    have k5 : ∀ v v8, (s_si (s_sr Y 1 9 v8) 1 5 v).1 1 5 = v := fun v v8 => by rw [e_sS, e_ve]
    have k9 : ∀ v v8, (s_si (s_sr Y 1 9 v8) 1 5 v).2.2 1 9 = v8 := fun v v8 => by
      show (s_sr Y 1 9 v8).2.2 1 9 = v8
      rw [e_rS, e_ve]
    rcases t_spelt (g := Y) hl with ⟨w, hw, hlw, hsp⟩ | ⟨hno, hsp⟩
    · exact ⟨_, go2 _ _ hsp (if_neg (show ¬ (some (1000 + w) : Option Nat) = none from fun h => by cases h)), k6 _ _, k4 _ _, fin _ _, Or.inl ⟨hA, hr7, Or.inl ⟨w, hw, hlw, k5 _ _, k9 _ _⟩⟩⟩
    · exact ⟨_, go2 _ _ hsp (if_pos rfl), k6 _ _, k4 _ _, fin _ _, Or.inl ⟨hA, hr7, Or.inr ⟨hno, k5 _ _, k9 _ _, y3 hA⟩⟩⟩
  · by_cases hD : t_aD U q r ∧ r ≤ 3
    · have hd : t_dc U q r = r := (t_dc_r r).mpr hD.1
      refine ⟨s_si Y 1 5 4, go _ ?_, ?_, ?_, fy.tr (t_fC.si (by omega) (by omega)), Or.inr (Or.inl ⟨hD.1, hD.2, ?_, y9, ?_⟩)⟩
      · rw [hd, if_neg (show ¬ Int32.ofNat r = 0 from fun h => by have := e_in (b := 0) (by omega) (by omega) h; omega)]
        unfold fQ_next_1_169
        rw [if_pos rfl, if_neg (show ¬ 3 < Int32.ofNat r from e_F (b := r) (a := 3) (by omega) (by omega))]
      · rw [e_sS, e_vn _ _ (by omega)]; exact y6'
      · rw [e_sS, e_vn _ _ (by omega)]; exact y2
      · rw [e_sS, e_ve]
      · rw [e_sS, e_vn _ _ (by omega)]; exact y4 hD.1
    · refine ⟨_, bad hA hD, ?_, ?_, fy.tr (t_fC.si (by omega) (by omega)), Or.inr (Or.inr ⟨hA, hD, ?_, y9⟩)⟩
      · rw [e_sS, e_vn _ _ (by omega)]; exact y6'
      · rw [e_sS, e_vn _ _ (by omega)]; exact y2
      · rw [e_sS, e_ve]
end SNT
