-- SAID: trees
noncomputable def t_dB (P : Prop) : Bool := @decide P (Classical.propDecidable P)
theorem t_dB_bi (P : Prop) : e_bi P = t_bI (t_dB P) := by
  by_cases h : P
  · rw [e_bi_t h]
    unfold t_dB
    rw [@decide_eq_true _ (Classical.propDecidable P) h]; rfl
  · rw [e_bi_f h]
    unfold t_dB
    rw [@decide_eq_false _ (Classical.propDecidable P) h]; rfl
theorem t_stepB {X : s_G} {W : Nat → Bool} {nb i : Nat} (h0 : X.1 3 0 = Int32.ofNat nb) (hn : nb ≤ 7) (hW : ∀ b, b < nb → fS_holds_27_17 (Int32.ofNat i) (Int32.ofNat b) X = some (t_bI (W b))) : fS_boysOfStep_27_17 (Int32.ofNat i) X = some (Int32.ofNat (e_ts W nb)) := by
  unfold fS_boysOfStep_27_17
  refine e_seq2 (fun k => (Int32.ofNat (e_ts W k), Int32.ofNat k)) nb rfl (fun k hk => ?_) ?_
  · try dsimp only
    unfold fS_boysOfStep_27_17_5
    rw [h0, if_pos (e_T hk (by omega)), hW k hk, s_b1_s, e_inc]
    have e1 : e_ts W (k + 1) = if W k then e_ts W k ||| 2 ^ k else e_ts W k := rfl
    cases hw : W k with
    | false => rw [if_pos (show t_bI false = 0 from rfl), e1, hw]; rfl
    | true => rw [if_neg (show ¬ t_bI true = 0 by decide), e_or1 (by omega), e1, hw]; rfl
  · try dsimp only
    unfold fS_boysOfStep_27_17_5
    rw [h0, if_neg (e_F (Nat.le_refl nb) (by omega))]; rfl
theorem t_notb {W : Nat → Bool} {nb : Nat} : Int32.ofNat (2 ^ nb - 1) &&& (Int32.ofNat (e_ts W nb) ^^^ -1) = Int32.ofNat (e_ts (fun b => !W b) nb) := by
  apply e_g_ext
  intro j hj
  rw [e_g_and, e_g_of _ hj, e_g_xm _ hj, e_g_of _ hj, e_g_of _ hj, Nat.testBit_two_pow_sub_one, e_ts_t, e_ts_t]
  cases decide (j < nb) <;> cases W j <;> rfl
theorem t_andb {W V : Nat → Bool} {nb : Nat} : Int32.ofNat (e_ts W nb) &&& Int32.ofNat (e_ts V nb) = Int32.ofNat (e_ts (fun b => W b && V b) nb) := by
  apply e_g_ext
  intro j hj
  rw [e_g_and, e_g_of _ hj, e_g_of _ hj, e_g_of _ hj, e_ts_t, e_ts_t, e_ts_t]
  cases decide (j < nb) <;> cases W j <;> cases V j <;> rfl
theorem t_orb {W V : Nat → Bool} {nb : Nat} : Int32.ofNat (e_ts W nb) ||| Int32.ofNat (e_ts V nb) = Int32.ofNat (e_ts (fun b => W b || V b) nb) := by
  apply e_g_ext
  intro j hj
  rw [e_g_or, e_g_of _ hj, e_g_of _ hj, e_g_of _ hj, e_ts_t, e_ts_t, e_ts_t]
  cases decide (j < nb) <;> cases W j <;> cases V j <;> rfl
theorem t_m1n (h : Nat) : Int32.ofNat (h + 1) + (-1 : Int32) = Int32.ofNat h := by
  rw [← e_inc, Int32.add_assoc, show (1 : Int32) + -1 = 0 from rfl, Int32.add_zero]
section SNX
variable {g : s_G} {f : Nat → Int32} {nb ne n : Nat}
set_option maxHeartbeats 1000000 in
theorem t_ev (hC : e_C3 nb ne g f) (hH : e_HW nb ne f) (hT : e_T17 g f) (h4 : g.1 27 4 = Int32.ofNat n) (hn : n ≤ 40) (hok : ∀ k, k < 40 → s_okw (g.2.2 28 k) = true) : ∀ m k i j, e_tr ne (g.2.2 28) (g.1 29) (g.1 30) f m k i j → j ≤ n →
    ∃ W : Nat → Bool, (∀ G : s_G, G.1 132 = f → ∀ q, m ≤ q → ∀ b, b < nb → fM_holds_130_k q (Int32.ofNat k) (Int32.ofNat b) G = some (t_bI (W b))) ∧ ∀ h X, h ≤ i → e_fx 31 31 g X → ∃ X', s_lp (fun (x : Int32 × Int32 × s_G) => fS_boysOf_27_17_17 (Int32.ofNat (2 ^ nb - 1)) x.1 x.2.1 x.2.2) (Int32.ofNat h, Int32.ofNat i, X) = s_lp (fun (x : Int32 × Int32 × s_G) => fS_boysOf_27_17_17 (Int32.ofNat (2 ^ nb - 1)) x.1 x.2.1 x.2.2) (Int32.ofNat (h + 1), Int32.ofNat j, X') ∧ X'.1 31 h = Int32.ofNat (e_ts W nb) ∧ (∀ k, k < h → X'.1 31 k = X.1 31 k) ∧ e_fx 31 31 g X' := by
  have h7 := hH.1.1
  intro m
  induction m with
  | zero => intro k i j h; exact absurd h id
  | succ m ih =>
    intro k i j htr hjn
    obtain ⟨hk60, hij, htr⟩ := htr
    have y0 : (135 : Int32) + 4 * Int32.ofNat k = Int32.ofNat (135 + 4 * k) := by rw [Int32.ofNat_add, Int32.ofNat_mul]; rfl
    have y1 : Int32.ofNat (135 + 4 * k) + 1 = Int32.ofNat (136 + 4 * k) := by rw [e_inc]; congr 1; omega
    have y2 : Int32.ofNat (135 + 4 * k) + 2 = Int32.ofNat (137 + 4 * k) := by rw [show (2 : Int32) = Int32.ofNat 2 from rfl, ← Int32.ofNat_add]; congr 1; omega
    have okb : ∀ X, e_fx 31 31 g X → ∀ (x : Int32) (h i : Nat), i < 40 → i < n → fS_boysOf_27_17_17 (Int32.ofNat (2 ^ nb - 1)) x (Int32.ofNat i) X = (if (g.2.2 28 i) = some 1019 then (if x < (1 : Int32) then (fS_boysOf_27_17_71 (Int32.ofNat (2 ^ nb - 1)) x (Int32.ofNat i) (g.2.2 28 i) X) else s_b1 (s_ix 40 (x - (1 : Int32))) fun k17 => some (.inl (x, Int32.ofNat (i + 1), (s_si X 31 k17 (Int32.ofNat (2 ^ nb - 1) &&& ((X.1 31 k17) ^^^ (-1 : Int32))))))) else fS_boysOf_27_17_71 (Int32.ofNat (2 ^ nb - 1)) x (Int32.ofNat i) (g.2.2 28 i) X) := by
      intro X hX x h i hi hin
      unfold fS_boysOf_27_17_17
      rw [hX.1 27 (by omega), h4, if_pos (e_T hin (by omega)), e_ix hi (by omega), s_b1_s, hX.2, if_pos (hok i hi), e_inc]
    rcases htr with ⟨rfl, hlf⟩ | ⟨x, f0, f1, st, hx⟩ | ⟨x, y, l, hc, f1, f2, hx, hy⟩
    · -- a leaf
      obtain ⟨P, p1, p2⟩ := t_leafV (G := (fun _ => f, g.2)) hC hH hT rfl hk60 (by omega) hlf
      refine ⟨fun b => t_dB (P b), ?_, ?_⟩
      · intro G hG q hq b hb
        cases q with
        | zero => omega
        | succ q =>
          obtain ⟨P', -, p3⟩ := t_leafV (G := G) hC hH hT hG hk60 (by omega) hlf
          obtain ⟨P2, p4, p5⟩ := t_leafV (X := g) (G := G) hC hH hT hG hk60 (by omega) hlf
          show fM_holds_130 (fM_holds_130_k q) (Int32.ofNat k) (Int32.ofNat b) G = _
          rw [p5 _ b hb, ← t_dB_bi]
          have h1 := p4 b hb
          rw [p1 b hb] at h1
          rw [Option.some.inj h1]
      · intro h X hh hX
        have hCX : e_C3 nb ne X f := by
          unfold e_C3
          rw [hX.1 3 (by omega), hX.1 5 (by omega), hX.1 6 (by omega), hX.1 7 (by omega), hX.1 8 (by omega), hX.1 9 (by omega)]
          exact hC
        have hTX : e_T17 X f := by
          unfold e_T17
          rw [hX.1 17 (by omega), hX.1 18 (by omega), hX.1 19 (by omega), hX.1 20 (by omega), hX.1 21 (by omega)]
          exact hT
        obtain ⟨P', p3, p4⟩ := t_leafV (X := X) (G := (fun _ => f, g.2)) (k := k) (i := i) hCX hH hTX rfl hk60 (by omega) (by rw [hX.2, hX.1 29 (by omega), hX.1 30 (by omega)]; exact hlf)
        have hB := t_stepB (X := X) (W := fun b => t_dB (P b)) (nb := nb) (i := i) (by rw [hX.1 3 (by omega), hC.1.1, hH.1.2]) h7 (fun b hb => by
          rw [p3 b hb]
          have h1 := p4 (fun _ _ _ => none) b hb
          rw [p2 (fun _ _ _ => none) b hb] at h1
          rw [← Option.some.inj h1, t_dB_bi])
        refine ⟨s_si X 31 h (Int32.ofNat (e_ts (fun b => t_dB (P b)) nb)), s_lp_in ?_, by rw [e_sS, e_ve], fun k hk => by rw [e_sS, e_vn _ _ (by omega)], hX.tr (e_fx.si (by omega) (by omega))⟩
        dsimp only
        rw [okb X hX _ h i (by omega) (by omega)]
        obtain ⟨w, hw, -, hst, -⟩ := hlf
        have n1 : ∀ c, 1000 ≤ c → c < 1020 → ¬ (g.2.2 28 i) = some c := fun c c1 c2 hh => by
          rw [hst] at hh
          have := Option.some.inj hh; omega
        rw [if_neg (n1 1019 (by omega) (by omega))]
        unfold fS_boysOf_27_17_71
        rw [if_pos (hok i (by omega)), if_neg (n1 1018 (by omega) (by omega)), if_pos (hok i (by omega)), if_neg (n1 1017 (by omega) (by omega))]
        unfold fS_boysOf_27_17_147
        rw [if_pos (show Int32.ofNat h < 40 from e_T (b := 40) (by omega) (by omega)), hB, s_b1_s, e_ix (show h < 40 by omega) (by omega), s_b1_s, e_inc, e_inc]
    · -- not
      have hxl : i < j - 1 := by
        cases m with
        | zero => exact absurd hx id
        | succ m => exact hx.2.1
      obtain ⟨W, w1, w2⟩ := ih x i (j - 1) hx (by omega)
      refine ⟨fun b => !W b, ?_, ?_⟩
      · intro G hG q hq b hb
        cases q with
        | zero => omega
        | succ q =>
          show fM_holds_130 (fM_holds_130_k q) (Int32.ofNat k) (Int32.ofNat b) G = _
          unfold fM_holds_130
          rw [y0, y1, y2, e_ix (show 136 + 4 * k < 375 by omega) (by omega), s_b1_s, e_ix (show 137 + 4 * k < 375 by omega) (by omega), s_b1_s, e_ix (show 135 + 4 * k < 375 by omega) (by omega), s_b1_s, hG, f0, if_pos rfl, f1, w1 G hG q (by omega) b hb, s_b1_s]
          dsimp only
          cases W b <;> rfl
      · intro h X hh hX
        obtain ⟨X1, a1, a2, a3, a4⟩ := w2 h X hh hX
        refine ⟨s_si X1 31 h (Int32.ofNat (e_ts (fun b => !W b) nb)), ?_, by rw [e_sS, e_ve], fun k hk => by rw [e_sS, e_vn _ _ (by omega)]; exact a3 k hk, a4.tr (e_fx.si (by omega) (by omega))⟩
        rw [a1]
        apply s_lp_in
        dsimp only
        rw [okb X1 a4 _ h (j - 1) (by omega) (by omega), if_pos st, if_neg (show ¬ Int32.ofNat (h + 1) < 1 from e_F (b := 1) (by omega) (by omega)), e_dec (by omega), Nat.add_sub_cancel, e_ix (show h < 40 by omega) (by omega), s_b1_s, a2, t_notb, show j - 1 + 1 = j by omega]
    · -- and, or
      have hxl : i < l := by
        cases m with
        | zero => exact absurd hx id
        | succ m => exact hx.2.1
      have hyl : l < j - 1 := by
        cases m with
        | zero => exact absurd hy id
        | succ m => exact hy.2.1
      obtain ⟨W, w1, w2⟩ := ih x i l hx (by omega)
      obtain ⟨V, v1, v2⟩ := ih y l (j - 1) hy (by omega)
      have walk : ∀ h X, h ≤ i → e_fx 31 31 g X → ∃ X2, s_lp (fun (x : Int32 × Int32 × s_G) => fS_boysOf_27_17_17 (Int32.ofNat (2 ^ nb - 1)) x.1 x.2.1 x.2.2) (Int32.ofNat h, Int32.ofNat i, X) = s_lp (fun (x : Int32 × Int32 × s_G) => fS_boysOf_27_17_17 (Int32.ofNat (2 ^ nb - 1)) x.1 x.2.1 x.2.2) (Int32.ofNat (h + 1 + 1), Int32.ofNat (j - 1), X2) ∧ X2.1 31 h = Int32.ofNat (e_ts W nb) ∧ X2.1 31 (h + 1) = Int32.ofNat (e_ts V nb) ∧ (∀ k, k < h → X2.1 31 k = X.1 31 k) ∧ e_fx 31 31 g X2 := by
        intro h X hh hX
        obtain ⟨X1, a1, a2, a3, a4⟩ := w2 h X hh hX
        obtain ⟨X2, b1, b2, b3, b4⟩ := v2 (h + 1) X1 (by omega) a4
        exact ⟨X2, a1.trans b1, by rw [b3 h (by omega), a2], b2, fun k hk => by rw [b3 k (by omega), a3 k hk], b4⟩
      have body : ∀ h X, h + 1 < 40 → e_fx 31 31 g X → (g.2.2 28 (j - 1) = some 1018 ∨ g.2.2 28 (j - 1) = some 1017) → fS_boysOf_27_17_17 (Int32.ofNat (2 ^ nb - 1)) (Int32.ofNat (h + 1 + 1)) (Int32.ofNat (j - 1)) X = if g.2.2 28 (j - 1) = some 1018 then some (.inl (Int32.ofNat (h + 1), Int32.ofNat j, s_si X 31 h (X.1 31 h &&& X.1 31 (h + 1)))) else some (.inl (Int32.ofNat (h + 1), Int32.ofNat j, s_si X 31 h (X.1 31 h ||| X.1 31 (h + 1)))) := by
        intro h X hh hX hw
        have n19 : ¬ g.2.2 28 (j - 1) = some 1019 := by
          intro hq
          rcases hw with h1 | h1 <;> rw [h1] at hq <;> exact absurd hq (by decide)
        have e87 : fS_boysOf_27_17_87 (Int32.ofNat (2 ^ nb - 1)) (Int32.ofNat (h + 1 + 1)) (Int32.ofNat (j - 1)) (g.2.2 28 (j - 1)) X = if g.2.2 28 (j - 1) = some 1018 then some (.inl (Int32.ofNat (h + 1), Int32.ofNat j, s_si X 31 h (X.1 31 h &&& X.1 31 (h + 1)))) else some (.inl (Int32.ofNat (h + 1), Int32.ofNat j, s_si X 31 h (X.1 31 h ||| X.1 31 (h + 1)))) := by
          unfold fS_boysOf_27_17_87
          rw [if_neg (show ¬ Int32.ofNat (h + 1 + 1) < 2 from e_F (b := 2) (by omega) (by omega)), t_m1n, s_b1_s, e_ix (show h + 1 < 40 by omega) (by omega), s_b1_s, if_pos (hok (j - 1) (by omega)), e_dec (by omega), Nat.add_sub_cancel, e_ix (show h < 40 by omega) (by omega), s_b1_s, s_b1_s, e_inc, show j - 1 + 1 = j by omega]
        rw [okb X hX _ h (j - 1) (by omega) (by omega), if_neg n19]
        unfold fS_boysOf_27_17_71
        rw [if_pos (hok (j - 1) (by omega)), if_pos (hok (j - 1) (by omega)), e87]
        rcases hw with h1 | h1
        · rw [if_pos h1]
        · rw [if_neg (show ¬ g.2.2 28 (j - 1) = some 1018 by rw [h1]; decide), if_pos h1]
      rcases hc with ⟨f0, st⟩ | ⟨f0, st⟩
      · refine ⟨fun b => W b && V b, ?_, ?_⟩
        · intro G hG q hq b hb
          cases q with
          | zero => omega
          | succ q =>
            show fM_holds_130 (fM_holds_130_k q) (Int32.ofNat k) (Int32.ofNat b) G = _
            unfold fM_holds_130
            rw [y0, y1, y2, e_ix (show 136 + 4 * k < 375 by omega) (by omega), s_b1_s, e_ix (show 137 + 4 * k < 375 by omega) (by omega), s_b1_s, e_ix (show 135 + 4 * k < 375 by omega) (by omega), s_b1_s, hG, f0, if_neg (by decide), if_pos rfl, f1, f2, w1 G hG q (by omega) b hb, s_b1_s, v1 G hG q (by omega) b hb, s_b1_s]
            dsimp only
            cases W b <;> cases V b <;> rfl
        · intro h X hh hX
          obtain ⟨X2, a1, a2, a3, a4, a5⟩ := walk h X hh hX
          refine ⟨s_si X2 31 h (Int32.ofNat (e_ts (fun b => W b && V b) nb)), ?_, by rw [e_sS, e_ve], fun k hk => by rw [e_sS, e_vn _ _ (by omega)]; exact a4 k hk, a5.tr (e_fx.si (by omega) (by omega))⟩
          rw [a1]
          apply s_lp_in
          dsimp only
          rw [body h X2 (by omega) a5 (Or.inl st), if_pos st, a2, a3, t_andb]
      · refine ⟨fun b => W b || V b, ?_, ?_⟩
        · intro G hG q hq b hb
          cases q with
          | zero => omega
          | succ q =>
            show fM_holds_130 (fM_holds_130_k q) (Int32.ofNat k) (Int32.ofNat b) G = _
            unfold fM_holds_130
            rw [y0, y1, y2, e_ix (show 136 + 4 * k < 375 by omega) (by omega), s_b1_s, e_ix (show 137 + 4 * k < 375 by omega) (by omega), s_b1_s, e_ix (show 135 + 4 * k < 375 by omega) (by omega), s_b1_s, hG, f0, if_neg (by decide), if_neg (by decide), if_pos rfl, f1, f2, w1 G hG q (by omega) b hb, s_b1_s, v1 G hG q (by omega) b hb, s_b1_s]
            dsimp only
            cases W b <;> cases V b <;> rfl
        · intro h X hh hX
          obtain ⟨X2, a1, a2, a3, a4, a5⟩ := walk h X hh hX
          refine ⟨s_si X2 31 h (Int32.ofNat (e_ts (fun b => W b || V b) nb)), ?_, by rw [e_sS, e_ve], fun k hk => by rw [e_sS, e_vn _ _ (by omega)]; exact a4 k hk, a5.tr (e_fx.si (by omega) (by omega))⟩
          rw [a1]
          apply s_lp_in
          dsimp only
          rw [body h X2 (by omega) a5 (Or.inr st), if_neg (show ¬ g.2.2 28 (j - 1) = some 1018 by rw [st]; decide), a2, a3, t_orb]
end SNX
