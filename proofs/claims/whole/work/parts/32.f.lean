-- BEST, the calls
theorem e_findTellers {g : s_G} {nb ne : Nat} {f : Nat → Int32} (hC : e_C3 nb ne g f) (hH : e_HW nb ne f) (hT : e_T17 g f) : ∃ g', fA_findTellers_122_3_17 g = some (Int32.ofNat (e_A f nb ne), g') ∧ (∀ b, b < nb → g'.1 125 b = (e_hv f b ne).1) ∧ e_fx 125 125 g g' := by
  have hn := hH.1.1
  have hm := hH.2.1.1
  unfold fA_findTellers_122_3_17
  obtain ⟨w, ⟨h1, h2, h3, h4⟩, h5⟩ := e_lpN (B := fun (x : Int32 × Int32 × s_G) => fA_findTellers_122_3_17_5 x.1 x.2.1 x.2.2) (fun k (x : Int32 × Int32 × s_G) => x.1 = Int32.ofNat (e_ts (e_tp0 f ne) k) ∧ x.2.1 = Int32.ofNat k ∧ (∀ b, b < k → x.2.2.1 125 b = (e_hv f b ne).1) ∧ e_fx 125 125 g x.2.2) nb (x := (0, 0, g)) (by
    intro k x hk hI
    obtain ⟨x1, x2, x3⟩ := x
    obtain ⟨h1, h2, h3, h4⟩ := hI
    dsimp only at h1 h2 h3 h4
    subst h1 h2
    have C2 : e_C3 nb ne x3 f := e_C3_cg hn hm hC (fun a ha => h4.1 a (by omega)) (fun _ _ => rfl)
    have T2 : e_T17 x3 f := e_TA_cg (a := 17) hT (fun a _ _ => h4.1 a (by omega)) (fun _ _ _ => rfl)
    have hnew : ∀ b, b < k + 1 → (s_si x3 125 k (e_hv f k ne).1).1 125 b = (e_hv f b ne).1 := by
      intro b hb
      rw [e_sS]
      by_cases hq : b = k
      · subst hq; rw [e_ve]
      · rw [e_vn _ _ hq]; exact h3 b (by omega)
    have fnew : e_fx 125 125 g (s_si x3 125 k (e_hv f k ne).1) := h4.tr (e_fx.si (by omega) (by omega))
    have C3 : e_C3 nb ne (s_si x3 125 k (e_hv f k ne).1) f := e_C3_cg hn hm hC (fun a ha => fnew.1 a (by omega)) (fun _ _ => rfl)
    have T3 : e_T17 (s_si x3 125 k (e_hv f k ne).1) f := e_TA_cg (a := 17) hT (fun a _ _ => fnew.1 a (by omega)) (fun _ _ _ => rfl)
    unfold fA_findTellers_122_3_17_5
    dsimp only
    rw [C2.1.1, hH.1.2, if_pos (e_T hk (by omega)), e_heaviest_17 C2 hH T2 (by omega), s_b1_s, e_ix (by omega) (by omega), s_b1_s, e_inc]
    show ∃ y : Int32 × Int32 × s_G, _ = some (Sum.inl y) ∧ y.1 = Int32.ofNat (if e_tp0 f ne k = true then e_ts (e_tp0 f ne) k ||| 2 ^ k else e_ts (e_tp0 f ne) k) ∧ _
    rcases e_hv_c (f := f) (b := k) ne hm with ⟨a1, _⟩ | ⟨j, hj, a1, _⟩
    · rw [if_pos a1, if_neg (by unfold e_tp0; rw [decide_eq_true a1, Bool.not_true, Bool.false_and]; decide)]
      exact ⟨_, rfl, rfl, rfl, hnew, fnew⟩
    · have hne : ¬ (e_hv f k ne).1 = -1 := by rw [a1]; exact e_on1 (by omega)
      rw [if_neg hne, show fT_whyNotSpeak_17 (Int32.ofNat k) (e_hv f k ne).1 (s_si x3 125 k (e_hv f k ne).1) = some (e_why f k j) by rw [a1] at C3 T3 ⊢; exact e_whyNotSpeak_17 C3 T3 (by omega) (by omega), s_b1_s]
      have htp : e_tp0 f ne k = decide (e_why f k j = 0) := by
        unfold e_tp0
        rw [decide_eq_false hne, a1, e_nt (by omega)]
        rfl
      rw [htp]
      by_cases hw : e_why f k j = 0
      · rw [if_pos hw, if_pos (decide_eq_true hw), e_or1 (by omega)]
        exact ⟨_, rfl, rfl, rfl, hnew, fnew⟩
      · rw [if_neg hw, if_neg (fun h => hw (of_decide_eq_true h))]
        exact ⟨_, rfl, rfl, rfl, hnew, fnew⟩) ⟨rfl, rfl, fun b hb => absurd hb (by omega), e_fx.rf _ _ _⟩
  obtain ⟨x1, x2, x3⟩ := w
  dsimp only at h1 h2 h3 h4
  subst h1 h2
  refine ⟨x3, ?_, h3, h4⟩
  rw [h5]
  apply s_lp_out
  dsimp only
  unfold fA_findTellers_122_3_17_5
  rw [h4.1 3 (by omega), hC.1.1, hH.1.2, if_neg (e_F (Nat.le_refl nb) (by omega))]
  rfl
theorem e_mTellers {G : s_G} {nb ne : Nat} {f : Nat → Int32} (hH : e_HW nb ne f) (hS : e_SW nb ne f) (hf : G.1 132 = f) : fM_tellers_130 G = some (Int32.ofNat (e_A f nb ne)) := by
  have hn := hH.1.1
  have hm := hH.2.1.1
  unfold fM_tellers_130
  refine e_seq2 (fun k => (Int32.ofNat (e_ts (e_tp1 f ne) k), Int32.ofNat k)) nb rfl ?_ ?_
  · intro k hk
    dsimp only
    unfold fM_tellers_130_4
    rw [hf, hH.1.2, if_pos (e_T hk (by omega)), e_mostOf hm (by rw [hf]; exact hH.2.1.2) (by omega), s_b1_s, hf, e_isHushed, s_b1_s, hf, e_inc, e_or1 (by omega)]
    show _ = some (Sum.inl (Int32.ofNat (if e_tp1 f ne k = true then e_ts (e_tp1 f ne) k ||| 2 ^ k else e_ts (e_tp1 f ne) k), _))
    unfold e_tp1
    by_cases h1 : (e_hv f k ne).1 = -1
    · rw [if_pos h1, decide_eq_true h1]
      rfl
    · rw [if_neg h1, decide_eq_false h1, Bool.not_false, Bool.true_and]
      by_cases h2 : e_bi (e_hu f k) = 0
      · rw [if_pos h2, if_pos (decide_eq_true h2)]
      · rw [if_neg h2, if_neg (fun h => h2 (of_decide_eq_true h))]
  · dsimp only
    unfold fM_tellers_130_4
    rw [hf, hH.1.2, if_neg (e_F (Nat.le_refl nb) (by omega)), e_isWet, s_b1_s, hf, e_A_eq hS hn hm]
    by_cases hw : e_bi (e_wt f) = 0
    · rw [if_pos hw, if_pos hw]
      by_cases h48 : f 48 = 0
      · rw [if_pos h48, if_pos h48]
        rfl
      · rw [if_neg h48, if_neg h48]
        rfl
    · rw [if_neg hw, if_neg hw]
      rfl
theorem e_A_128 {nb ne : Nat} {f : Nat → Int32} (hn : nb ≤ 7) : e_A f nb ne < 128 := Nat.lt_of_lt_of_le (e_ts_lt _ nb) (show 2 ^ nb ≤ 2 ^ 7 from Nat.pow_le_pow_right (by omega) hn)
theorem e_tableC {g : s_G} {nb ne : Nat} {f : Nat → Int32} (hC : e_C3 nb ne g f) (hH : e_HW nb ne f) (hT : e_T17 g f) (hS : e_SW nb ne f) (h125 : ∀ b, b < nb → g.1 125 b = (e_hv f b ne).1) : ∃ g', s_lp (fun (x : Int32 × s_G) => fA_findBest_122_3_17_11 (Int32.ofNat (e_A f nb ne)) x.1 x.2) (127, g) = s_lp (fun (x : Int32 × s_G) => fA_findBest_122_3_17_11 (Int32.ofNat (e_A f nb ne)) x.1 x.2) (-1, g') ∧ (∀ r, r < 128 → e_sub (e_A f nb ne) r → g'.1 126 r = Int32.ofNat (e_Vs (e_T2 f ne) (e_A f nb ne) r)) ∧ e_fx 126 126 g g' := by
  have hn := hH.1.1
  have hm := hH.2.1.1
  obtain ⟨w, ⟨h1, h2, h3⟩, h4⟩ := e_lpN (B := fun (x : Int32 × s_G) => fA_findBest_122_3_17_11 (Int32.ofNat (e_A f nb ne)) x.1 x.2) (fun k (x : Int32 × s_G) => x.1 = Int32.ofNat (128 - k) + -1 ∧ (∀ r, 128 - k ≤ r → r < 128 → e_sub (e_A f nb ne) r → x.2.1 126 r = Int32.ofNat (e_Vs (e_T2 f ne) (e_A f nb ne) r)) ∧ e_fx 126 126 g x.2) 128 (x := (127, g)) (by
    intro k x hk hI
    obtain ⟨x1, x2⟩ := x
    obtain ⟨h1, h2, h3⟩ := hI
    dsimp only at h1 h2 h3
    have e1 : x1 = Int32.ofNat (127 - k) := by
      rw [h1, show 128 - k = (127 - k) + 1 by omega, ← Int32.sub_eq_add_neg, e_dec (by omega)]
      rfl
    subst e1
    obtain ⟨g', a1, a2, a3⟩ := e_bestC1 (g := x2) (s := 127 - k) (e_C3_cg hn hm hC (fun a ha => h3.1 a (by omega)) (fun _ _ => rfl)) hH (e_TA_cg (a := 17) hT (fun a _ _ => h3.1 a (by omega)) (fun _ _ _ => rfl)) hS (by omega) (fun b hb => by rw [h3.1 125 (by omega)]; exact h125 b hb) (fun r hr1 hr2 hr3 => h2 r (by omega) hr2 hr3)
    refine ⟨(Int32.ofNat (127 - k) + -1, g'), ?_, ?_, ?_, h3.tr a3⟩
    · dsimp only
      unfold fA_findBest_122_3_17_11
      rw [if_neg (e_nn (by omega)), e_ix (by omega) (by omega), s_b1_s, a1]
    · dsimp only
      rw [show 128 - (k + 1) = 127 - k by omega]
    · intro r hr1 hr2 hr3
      exact a2 r (by omega) hr2 hr3) ⟨rfl, fun r h1 h2 => absurd h2 (by omega), e_fx.rf _ _ _⟩
  obtain ⟨x1, x2⟩ := w
  dsimp only at h1 h2 h3
  refine ⟨x2, ?_, fun r hr hs => h2 r (by omega) hr hs, h3⟩
  rw [h4, h1]
  rfl
theorem e_tableM {G : s_G} {nb ne : Nat} {f : Nat → Int32} (hH : e_HW nb ne f) (hS : e_SW nb ne f) (hf : G.1 132 = f) : ∃ G', fM_layMore_130 (Int32.ofNat (e_A f nb ne)) G = some G' ∧ (∀ r, r < 128 → e_sub (e_A f nb ne) r → G'.1 143 r = Int32.ofNat (e_Vs (e_T2 f ne) (e_A f nb ne) r)) ∧ e_fx 143 143 G G' := by
  have hn := hH.1.1
  have hA := e_A_128 (f := f) (ne := ne) hn
  have hle : ∀ r, e_sub (e_A f nb ne) r → r ≤ e_A f nb ne := by
    intro r hr
    have h1 : r ||| e_A f nb ne = e_A f nb ne := by
      apply Nat.eq_of_testBit_eq
      intro i
      rw [Nat.testBit_or]
      cases hq : r.testBit i with
      | false => rw [Bool.false_or]
      | true => rw [hr i hq]; rfl
    have h2 : r ≤ r ||| e_A f nb ne := Nat.left_le_or
    omega
  unfold fM_layMore_130
  obtain ⟨w, ⟨h1, h2, h3⟩, h4⟩ := e_lpN (B := fun (x : Int32 × s_G) => fM_layMore_130_2 (Int32.ofNat (e_A f nb ne)) x.1 x.2) (fun k (x : Int32 × s_G) => x.1 = Int32.ofNat (e_A f nb ne + 1 - k) + -1 ∧ (∀ r, e_A f nb ne + 1 - k ≤ r → r < 128 → e_sub (e_A f nb ne) r → x.2.1 143 r = Int32.ofNat (e_Vs (e_T2 f ne) (e_A f nb ne) r)) ∧ e_fx 143 143 G x.2) (e_A f nb ne + 1) (x := (Int32.ofNat (e_A f nb ne), G)) (by
    intro k x hk hI
    obtain ⟨x1, x2⟩ := x
    obtain ⟨h1, h2, h3⟩ := hI
    dsimp only at h1 h2 h3
    have e1 : x1 = Int32.ofNat (e_A f nb ne - k) := by
      rw [h1, show e_A f nb ne + 1 - k = (e_A f nb ne - k) + 1 by omega, ← Int32.sub_eq_add_neg, e_dec (by omega)]
      rfl
    subst e1
    unfold fM_layMore_130_2
    dsimp only
    rw [if_neg (e_nn (by omega))]
    by_cases hsub : e_sub (e_A f nb ne) (e_A f nb ne - k)
    · rw [if_pos ((e_subn2 (by omega)).mpr hsub), e_ix (by omega) (by omega), s_b1_s]
      obtain ⟨g', a1, a2, a3⟩ := e_bestM1 (G := x2) (s := e_A f nb ne - k) hH hS (by rw [h3.1 132 (by omega), hf]) (by omega) hsub (fun r hr1 hr2 hr3 => h2 r (by omega) hr2 hr3)
      rw [a1]
      refine ⟨_, rfl, ?_, ?_, h3.tr a3⟩
      · dsimp only
        rw [show e_A f nb ne + 1 - (k + 1) = e_A f nb ne - k by omega]
      · intro r hr1 hr2 hr3
        exact a2 r (by omega) hr2 hr3
    · rw [if_neg (fun h => hsub ((e_subn2 (by omega)).mp h))]
      refine ⟨_, rfl, ?_, ?_, h3⟩
      · dsimp only
        rw [show e_A f nb ne + 1 - (k + 1) = e_A f nb ne - k by omega]
      · intro r hr1 hr2 hr3
        by_cases hq : r = e_A f nb ne - k
        · subst hq; exact absurd hr3 hsub
        · exact h2 r (by omega) hr2 hr3) ⟨by
        dsimp only
        rw [Nat.sub_zero, ← Int32.sub_eq_add_neg, e_dec (by omega)]
        rfl, fun r h1 h2 h3 => absurd (hle r h3) (by omega), e_fx.rf _ _ _⟩
  obtain ⟨x1, x2⟩ := w
  dsimp only at h1 h2 h3
  rw [Nat.sub_self] at h1
  refine ⟨x2, ?_, fun r hr hs => h2 r (by omega) hr hs, h3⟩
  rw [h4, h1]
  apply s_lp_out
  rfl
-- who tells next
def e_fi (p : Nat → Bool) : Nat → Nat
  | 0 => 0
  | n + 1 => if e_fi p n < n then e_fi p n else if p n then n else n + 1
theorem e_fi_c {p : Nat → Bool} : ∀ n, e_fi p n ≤ n ∧ (e_fi p n < n → p (e_fi p n) = true) ∧ ∀ j, j < e_fi p n → p j = false := by
  intro n
  induction n with
  | zero => exact ⟨Nat.le_refl _, fun h => absurd h (by unfold e_fi; omega), fun j h => absurd h (by unfold e_fi; omega)⟩
  | succ n ih =>
    obtain ⟨h1, h2, h3⟩ := ih
    unfold e_fi
    by_cases hq : e_fi p n < n
    · rw [if_pos hq]
      exact ⟨by omega, fun _ => h2 hq, h3⟩
    · rw [if_neg hq]
      have he : e_fi p n = n := by omega
      rw [he] at h3
      by_cases hp : p n = true
      · rw [if_pos hp]
        exact ⟨by omega, fun _ => hp, h3⟩
      · rw [if_neg hp]
        refine ⟨Nat.le_refl _, fun h => absurd h (by omega), fun j hj => ?_⟩
        by_cases hjn : j = n
        · subst hjn; exact Bool.eq_false_iff.mpr hp
        · exact h3 j (by omega)
theorem e_fi_ex {p : Nat → Bool} {n b : Nat} (hb : b < n) (hp : p b = true) : e_fi p n < n := by
  obtain ⟨h1, h2, h3⟩ := e_fi_c (p := p) n
  refine Classical.byContradiction (fun hc => ?_)
  have := h3 b (by omega)
  rw [hp] at this
  exact absurd this (by decide)
def e_nb (T : Nat → Nat → Nat) (A s b : Nat) : Bool := e_fr1 A s b && decide (e_Fs T A s b = e_Vs T A s)
def e_rs2 (T : Nat → Nat → Nat) (A : Nat) : Nat → Nat
  | 0 => 0
  | k + 1 => e_rs2 T A k ||| 2 ^ e_fi (e_nb T A (e_rs2 T A k)) 7
theorem e_cn_mono {p q : Nat → Bool} (h : ∀ j, p j = true → q j = true) : ∀ n, e_cn p n ≤ e_cn q n := by
  intro n
  induction n with
  | zero => exact Nat.le_refl _
  | succ n ih =>
    unfold e_cn
    by_cases hp : p n = true
    · rw [if_pos hp, if_pos (h n hp)]; omega
    · rw [if_neg hp]; omega
theorem e_nb_ex {T : Nat → Nat → Nat} {A s : Nat} (hA : A < 128) (hs : e_sub A s) (hne : ¬ s = A) : ∃ b, b < 7 ∧ e_nb T A s b = true := by
  have h1 : ∃ b, b < 7 ∧ e_fr1 A s b = true := by
    refine Classical.byContradiction (fun hc => hne ?_)
    apply Nat.eq_of_testBit_eq
    intro i
    cases hq : A.testBit i with
    | false =>
      cases hs2 : s.testBit i with
      | false => rfl
      | true => rw [hs i hs2] at hq; exact absurd hq (by decide)
    | true =>
      cases hs2 : s.testBit i with
      | true => rfl
      | false =>
        exfalso
        apply hc
        refine ⟨i, ?_, by unfold e_fr1; rw [hq, hs2]; rfl⟩
        refine Classical.byContradiction (fun h7 => ?_)
        rw [e_tbz (show A < 2 ^ 7 from hA) (by omega)] at hq
        exact absurd hq (by decide)
  obtain ⟨b, hb, hf⟩ := h1
  rcases e_mxn_ex (F := e_Fs T A s) 7 with h | ⟨v, hv, h⟩
  · refine ⟨b, hb, ?_⟩
    unfold e_nb
    rw [hf, Bool.true_and]
    apply decide_eq_true
    have := e_mxn_ge (F := e_Fs T A s) 7 b hb
    rw [e_Vs_eq]
    omega
  · by_cases hfv : e_fr1 A s v = true
    · refine ⟨v, hv, ?_⟩
      unfold e_nb
      rw [hfv, Bool.true_and]
      apply decide_eq_true
      rw [e_Vs_eq]; exact h
    · have h0 : e_Fs T A s v = 0 := by unfold e_Fs; rw [if_neg hfv]
      refine ⟨b, hb, ?_⟩
      unfold e_nb
      rw [hf, Bool.true_and]
      apply decide_eq_true
      have := e_mxn_ge (F := e_Fs T A s) 7 b hb
      rw [e_Vs_eq]
      omega
theorem e_bc_sub {A s : Nat} (hA : A < 128) (hs : e_sub A s) (hne : ¬ s = A) : e_bc s < e_bc A := by
  obtain ⟨b, hb, hnb⟩ := e_nb_ex (T := fun _ _ => 0) hA hs hne
  obtain ⟨q1, q2⟩ := e_fr1_s (Bool.and_eq_true_iff.mp hnb).1
  have h1 := e_bc_or hb q2
  have h2 : e_bc (s ||| 2 ^ b) ≤ e_bc A := e_cn_mono (e_sub_or hs q1) 7
  omega
theorem e_rs2_c {T : Nat → Nat → Nat} {A : Nat} (hA : A < 128) : ∀ k, k ≤ e_bc A → e_sub A (e_rs2 T A k) ∧ e_bc (e_rs2 T A k) = k ∧ e_rs2 T A k < 128 := by
  intro k
  induction k with
  | zero =>
    intro _
    refine ⟨fun j hj => ?_, ?_, by show 0 < 128; omega⟩
    · rw [show e_rs2 T A 0 = 0 from rfl, Nat.zero_testBit] at hj
      exact absurd hj (by decide)
    · show e_bc 0 = 0
      decide
  | succ k ih =>
    intro hk
    obtain ⟨h1, h2, h3⟩ := ih (by omega)
    have hne : ¬ e_rs2 T A k = A := fun h => by rw [h] at h2; omega
    obtain ⟨b, hb, hp⟩ := e_nb_ex (T := T) hA h1 hne
    have hlt := e_fi_ex hb hp
    have hpf := (e_fi_c (p := e_nb T A (e_rs2 T A k)) 7).2.1 hlt
    obtain ⟨q1, q2⟩ := e_fr1_s (Bool.and_eq_true_iff.mp hpf).1
    refine ⟨e_sub_or h1 q1, ?_, e_or128 h3 hlt⟩
    show e_bc (e_rs2 T A k ||| 2 ^ _) = _
    rw [e_bc_or hlt q2, h2]
theorem e_rs2_end {T : Nat → Nat → Nat} {A : Nat} (hA : A < 128) : e_rs2 T A (e_bc A) = A := by
  obtain ⟨h1, h2, h3⟩ := e_rs2_c (T := T) hA (e_bc A) (Nat.le_refl _)
  refine Classical.byContradiction (fun hne => ?_)
  have := e_bc_sub hA h1 hne
  omega
theorem e_rs2_k {T : Nat → Nat → Nat} {A k : Nat} (hA : A < 128) (hk : k < e_bc A) : ¬ e_rs2 T A k = A ∧ ∃ b, b < 7 ∧ b = e_fi (e_nb T A (e_rs2 T A k)) 7 ∧ e_nb T A (e_rs2 T A k) b = true ∧ (∀ j, j < b → e_nb T A (e_rs2 T A k) j = false) ∧ e_rs2 T A (k + 1) = e_rs2 T A k ||| 2 ^ b := by
  obtain ⟨h1, h2, h3⟩ := e_rs2_c (T := T) hA k (by omega)
  have hne : ¬ e_rs2 T A k = A := fun h => by rw [h] at h2; omega
  obtain ⟨b, hb, hp⟩ := e_nb_ex (T := T) hA h1 hne
  have hlt := e_fi_ex hb hp
  obtain ⟨c1, c2, c3⟩ := e_fi_c (p := e_nb T A (e_rs2 T A k)) 7
  exact ⟨hne, _, hlt, rfl, c2 hlt, c3, rfl⟩
theorem e_layRow {g : s_G} {nb ne : Nat} {f : Nat → Int32} (hC : e_C3 nb ne g f) (hH : e_HW nb ne f) (hT : e_T17 g f) (hS : e_SW nb ne f) (h125 : ∀ b, b < nb → g.1 125 b = (e_hv f b ne).1) (hV : ∀ r, r < 128 → e_sub (e_A f nb ne) r → g.1 126 r = Int32.ofNat (e_Vs (e_T2 f ne) (e_A f nb ne) r)) : ∃ g', fA_layRow_122_3_17 (Int32.ofNat (e_A f nb ne)) g = some g' ∧ (∀ k, k < e_bc (e_A f nb ne) → g'.1 123 k = Int32.ofNat (e_fi (e_nb (e_T2 f ne) (e_A f nb ne) (e_rs2 (e_T2 f ne) (e_A f nb ne) k)) 7)) ∧ g'.1 122 = va_up (g.1 122) 1 (Int32.ofNat (e_bc (e_A f nb ne))) ∧ e_fr (fun a => ¬ a = 122 ∧ ¬ a = 123) g g' := by
  have hn := hH.1.1
  have hm := hH.2.1.1
  have hA := e_A_128 (f := f) (ne := ne) hn
  have hT99 : ∀ b s, e_T2 f ne b s ≤ 99 := fun b s => Nat.min_le_left _ _
  have hAt := fun b (h : (e_A f nb ne).testBit b = true) => (e_A_t hm h).1
  unfold fA_layRow_122_3_17
  rw [e_bitCount (by omega), s_b1_s, e_pc7 hA]
  generalize hAA : e_A f nb ne = A at *
  generalize hTT : e_T2 f ne = T at *
  have hbc : e_bc A ≤ 7 := e_cn_le _ _
  obtain ⟨w, ⟨h1, h2, h3, h4, h5⟩, h6⟩ := e_lpN (B := fun (x : Int32 × Int32 × s_G) => fA_layRow_122_3_17_14 (Int32.ofNat A) x.1 x.2.1 x.2.2) (fun k (x : Int32 × Int32 × s_G) => x.1 = Int32.ofNat (e_rs2 T A k) ∧ x.2.1 = Int32.ofNat k ∧ (∀ j, j < k → x.2.2.1 123 j = Int32.ofNat (e_fi (e_nb T A (e_rs2 T A j)) 7)) ∧ x.2.2.1 122 = va_up (g.1 122) 1 (Int32.ofNat (e_bc A)) ∧ e_fr (fun a => ¬ a = 122 ∧ ¬ a = 123) g x.2.2) (e_bc A) (x := (0, 0, s_si g 122 1 (Int32.ofNat (e_bc A)))) (by
    intro k x hk hI
    obtain ⟨x1, x2, x3⟩ := x
    obtain ⟨h1, h2, h3, h4, h5⟩ := hI
    dsimp only at h1 h2 h3 h4 h5
    subst h1 h2
    obtain ⟨hsub, hbk, hs128⟩ := e_rs2_c (T := T) hA k (by omega)
    obtain ⟨hne, b, hb7, hbe, hpb, hpj, hnx⟩ := e_rs2_k (T := T) hA hk
    obtain ⟨q1, q2⟩ := e_fr1_s (Bool.and_eq_true_iff.mp hpb).1
    have hbn : b < nb := hAt b q1
    generalize hss : e_rs2 T A k = s at *
    have C2 : e_C3 nb ne x3 f := e_C3_cg hn hm hC (fun a ha => h5.1 a (by omega)) (fun _ _ => rfl)
    have T2 : e_T17 x3 f := e_TA_cg (a := 17) hT (fun a _ _ => h5.1 a (by omega)) (fun _ _ _ => rfl)
    have step : ∀ j, j < nb → fA_layRow_122_3_17_26 (Int32.ofNat A) (Int32.ofNat s) (Int32.ofNat k) (Int32.ofNat j) x3 = if e_nb T A s j = true then some (.inr (.inl (Int32.ofNat (s ||| 2 ^ j), Int32.ofNat (k + 1), s_si x3 123 k (Int32.ofNat j)))) else some (.inl (Int32.ofNat (j + 1))) := by
      intro j hj
      unfold fA_layRow_122_3_17_26 fA_layRow_122_3_17_54
      rw [C2.1.1, hH.1.2, if_pos (e_T hj (by omega)), e_inc, e_inc]
      by_cases hfr : e_fr1 A s j = true
      · obtain ⟨p1, p2⟩ := e_fr1_s hfr
        have hlt := e_or128 hs128 (show j < 7 by omega)
        have c1 := hT99 j s
        have c2 := e_Vs_le (A := A) hT99 (s ||| 2 ^ j)
        have c3 := e_Vs_le (A := A) hT99 s
        have hF : e_Fs T A s j = T j s + e_Vs T A (s ||| 2 ^ j) := by unfold e_Fs; rw [if_pos hfr]
        rw [if_neg (fun h => by rw [(e_free (by omega)).mp h] at hfr; exact absurd hfr (by decide)), if_neg (show ¬ (1 : Int32) = 0 by decide), e_takenC C2 hH T2 hS (by rw [hAA]; exact p1) hs128 (by rw [h5.1 125 (by omega)]; exact h125 j hj), s_b1_s, hTT, e_or1 (by omega), e_ix (by omega) (by omega), s_b1_s, e_ix (by omega) (by omega), s_b1_s, h5.1 126 (by omega), hV _ hlt (e_sub_or hsub p1), hV _ hs128 hsub, ← Int32.ofNat_add, e_ix (by omega) (by omega), s_b1_s]
        unfold e_nb
        rw [hfr, Bool.true_and, hF]
        by_cases hq : T j s + e_Vs T A (s ||| 2 ^ j) = e_Vs T A s
        · rw [if_pos (by rw [hq]), if_pos (decide_eq_true hq)]
          rfl
        · rw [if_neg (fun h => hq (e_in (by omega) (by omega) h)), if_neg (fun h => hq (of_decide_eq_true h))]
      · rw [if_pos ((e_free (by omega)).mpr (Bool.eq_false_iff.mpr hfr)), if_pos (show (0 : Int32) = 0 from rfl), if_neg (show ¬ e_nb T A s j = true from fun h => hfr (Bool.and_eq_true_iff.mp h).1)]
    have hin : s_lp (fun (x : Int32) => fA_layRow_122_3_17_26 (Int32.ofNat A) (Int32.ofNat s) (Int32.ofNat k) x x3) 0 = some (.inl (Int32.ofNat (s ||| 2 ^ b), Int32.ofNat (k + 1), s_si x3 123 k (Int32.ofNat b))) := by
      refine e_seq2 (fun j => Int32.ofNat j) b rfl (fun j hj => ?_) ?_
      · rw [step j (by omega), hpj j hj, if_neg (by decide)]
      · rw [step b hbn, if_pos hpb]
    refine ⟨(Int32.ofNat (s ||| 2 ^ b), Int32.ofNat (k + 1), s_si x3 123 k (Int32.ofNat b)), ?_, ?_, rfl, ?_, ?_, ?_⟩
    · dsimp only
      unfold fA_layRow_122_3_17_14
      rw [h4, e_ve, if_pos (e_T hk (by omega)), hin]
    · dsimp only
      rw [hnx]
    · intro j hj
      dsimp only
      rw [e_sS]
      by_cases hq : j = k
      · subst hq; rw [e_ve, hss, ← hbe]
      · rw [e_vn _ _ hq]; exact h3 j (by omega)
    · dsimp only
      rw [e_sN (by omega)]; exact h4
    · exact ⟨fun a ha => by dsimp only; rw [e_sN ha.2]; exact h5.1 a ha, h5.2⟩) ⟨rfl, rfl, fun j hj => absurd hj (by omega), e_sS, ⟨fun a ha => e_sN ha.1, rfl⟩⟩
  obtain ⟨x1, x2, x3⟩ := w
  dsimp only at h1 h2 h3 h4 h5
  subst h1 h2
  refine ⟨x3, ?_, h3, h4, h5⟩
  rw [h6]
  apply s_lp_out
  dsimp only
  unfold fA_layRow_122_3_17_14
  rw [h4, e_ve, if_neg (e_F (Nat.le_refl _) (by omega))]
  rfl
theorem e_mRow {G : s_G} {nb ne : Nat} {f : Nat → Int32} (hH : e_HW nb ne f) (hS : e_SW nb ne f) (hf : G.1 132 = f) (hV : ∀ r, r < 128 → e_sub (e_A f nb ne) r → G.1 143 r = Int32.ofNat (e_Vs (e_T2 f ne) (e_A f nb ne) r)) : ∃ G', s_lp (fun (x : Int32 × s_G) => fM_best_130_22 (Int32.ofNat (e_A f nb ne)) x.1 x.2) (0, s_si G 130 28 0) = some (Int32.ofNat (e_Vs (e_T2 f ne) (e_A f nb ne) 0), G') ∧ (∀ k, k < e_bc (e_A f nb ne) → G'.1 144 k = Int32.ofNat (e_fi (e_nb (e_T2 f ne) (e_A f nb ne) (e_rs2 (e_T2 f ne) (e_A f nb ne) k)) 7)) ∧ G'.1 130 = va_up (G.1 130) 28 (Int32.ofNat (e_bc (e_A f nb ne))) ∧ e_fr (fun a => ¬ a = 130 ∧ ¬ a = 144) G G' := by
  have hn := hH.1.1
  have hm := hH.2.1.1
  have hA := e_A_128 (f := f) (ne := ne) hn
  have hT99 : ∀ b s, e_T2 f ne b s ≤ 99 := fun b s => Nat.min_le_left _ _
  generalize hAA : e_A f nb ne = A at *
  generalize hTT : e_T2 f ne = T at *
  have hbc : e_bc A ≤ 7 := e_cn_le _ _
  obtain ⟨w, ⟨h1, h3, h4, h5⟩, h6⟩ := e_lpN (B := fun (x : Int32 × s_G) => fM_best_130_22 (Int32.ofNat A) x.1 x.2) (fun k (x : Int32 × s_G) => x.1 = Int32.ofNat (e_rs2 T A k) ∧ (∀ j, j < k → x.2.1 144 j = Int32.ofNat (e_fi (e_nb T A (e_rs2 T A j)) 7)) ∧ x.2.1 130 = va_up (G.1 130) 28 (Int32.ofNat k) ∧ e_fr (fun a => ¬ a = 130 ∧ ¬ a = 144) G x.2) (e_bc A) (x := (0, s_si G 130 28 0)) (by
    intro k x hk hI
    obtain ⟨x1, x3⟩ := x
    obtain ⟨h1, h3, h4, h5⟩ := hI
    dsimp only at h1 h3 h4 h5
    subst h1
    obtain ⟨hsub, hbk, hs128⟩ := e_rs2_c (T := T) hA k (by omega)
    obtain ⟨hne, b, hb7, hbe, hpb, hpj, hnx⟩ := e_rs2_k (T := T) hA hk
    obtain ⟨q1, q2⟩ := e_fr1_s (Bool.and_eq_true_iff.mp hpb).1
    generalize hss : e_rs2 T A k = s at *
    have e1 : x3.1 132 = f := by rw [h5.1 132 (by omega), hf]
    have step : ∀ j, j < 7 → fM_best_130_29 (Int32.ofNat A) (Int32.ofNat s) (Int32.ofNat j) x3 = if e_nb T A s j = true then some (.inr (.inl (Int32.ofNat (s ||| 2 ^ j), s_si (s_si x3 144 k (Int32.ofNat j)) 130 28 (Int32.ofNat (k + 1))))) else some (.inl (Int32.ofNat (j + 1))) := by
      intro j hj
      unfold fM_best_130_29
      rw [e_hasS (by omega), s_b1_s, e_fr1_g (by omega), e_inc]
      by_cases hfr : e_fr1 A s j = true
      · obtain ⟨p1, p2⟩ := e_fr1_s hfr
        have hlt := e_or128 hs128 (show j < 7 by omega)
        have c1 := hT99 j s
        have c2 := e_Vs_le (A := A) hT99 (s ||| 2 ^ j)
        have c3 := e_Vs_le (A := A) hT99 s
        have hF : e_Fs T A s j = T j s + e_Vs T A (s ||| 2 ^ j) := by unfold e_Fs; rw [if_pos hfr]
        rw [if_neg (by rw [e_bi_t hfr]; decide), e_moreBy hH hS e1 (by rw [hAA]; exact p1) hs128 (by rw [h5.1 143 (by omega)]; exact hV _ hlt (e_sub_or hsub p1)), s_b1_s, hTT, e_ix (by omega) (by omega), s_b1_s, h5.1 143 (by omega), hV _ hs128 hsub, h4, e_ve, e_ix (by omega) (by omega), s_b1_s, e_or1 (by omega), e_inc]
        unfold e_nb
        rw [hfr, Bool.true_and, hF]
        by_cases hq : T j s + e_Vs T A (s ||| 2 ^ j) = e_Vs T A s
        · rw [if_pos (by rw [hq]), if_pos (decide_eq_true hq)]
          rfl
        · rw [if_neg (fun h => hq (e_in (by omega) (by omega) h)), if_neg (fun h => hq (of_decide_eq_true h))]
      · rw [if_pos (e_bi_f hfr), if_neg (show ¬ e_nb T A s j = true from fun h => hfr (Bool.and_eq_true_iff.mp h).1)]
    have hin : s_lp (fun (x : Int32) => fM_best_130_29 (Int32.ofNat A) (Int32.ofNat s) x x3) 0 = some (.inl (Int32.ofNat (s ||| 2 ^ b), s_si (s_si x3 144 k (Int32.ofNat b)) 130 28 (Int32.ofNat (k + 1)))) := by
      refine e_seq2 (fun j => Int32.ofNat j) b rfl (fun j hj => ?_) ?_
      · rw [step j (by omega), hpj j hj, if_neg (by decide)]
      · rw [step b hb7, if_pos hpb]
    refine ⟨(Int32.ofNat (s ||| 2 ^ b), s_si (s_si x3 144 k (Int32.ofNat b)) 130 28 (Int32.ofNat (k + 1))), ?_, ?_, ?_, ?_, ?_⟩
    · dsimp only
      unfold fM_best_130_22
      rw [if_neg (fun h => hne (e_in (by omega) (by omega) h)), hin]
    · dsimp only
      rw [hnx]
    · intro j hj
      dsimp only
      rw [e_sN (by omega), e_sS]
      by_cases hq : j = k
      · subst hq; rw [e_ve, hss, ← hbe]
      · rw [e_vn _ _ hq]; exact h3 j (by omega)
    · dsimp only
      rw [e_sS, e_sN (by omega), h4]
      funext i
      by_cases hi : i = 28
      · subst hi; rw [e_ve, e_ve]
      · rw [e_vn _ _ hi, e_vn _ _ hi, e_vn _ _ hi]
    · exact ⟨fun a ha => by dsimp only; rw [e_sN ha.1, e_sN ha.2]; exact h5.1 a ha, h5.2⟩) ⟨rfl, fun j hj => absurd hj (by omega), e_sS, ⟨fun a ha => e_sN ha.1, rfl⟩⟩
  obtain ⟨x1, x3⟩ := w
  dsimp only at h1 h3 h4 h5
  subst h1
  refine ⟨x3, ?_, h3, h4, h5⟩
  rw [h6, e_rs2_end hA]
  apply s_lp_out
  dsimp only
  unfold fM_best_130_22
  rw [if_pos rfl, h5.1 143 (by omega), hV 0 (by omega) (fun j hj => by rw [Nat.zero_testBit] at hj; exact absurd hj (by decide))]
  rfl
theorem k_best {g : s_G} (h : e_I g) : e_k1 (fC_best_0 g) fM_best_130 := by
  obtain ⟨hR, nb, ne, n, p, hs, hJ⟩ := id h
  obtain ⟨hH, hC, hT, hS⟩ := e_I.jc hJ
  have hn := hH.1.1
  have hm := hH.2.1.1
  obtain ⟨ga, a1, a2, a3⟩ := e_findTellers hC hH hT
  have Ca : e_C3 nb ne ga (g.1 132) := e_C3_cg hn hm hC (fun a ha => a3.1 a (by omega)) (fun _ _ => rfl)
  have Ta : e_T17 ga (g.1 132) := e_TA_cg (a := 17) hT (fun a _ _ => a3.1 a (by omega)) (fun _ _ _ => rfl)
  obtain ⟨gb, b1, b2, b3⟩ := e_tableC Ca hH Ta hS a2
  have Cb : e_C3 nb ne gb (g.1 132) := e_C3_cg hn hm Ca (fun a ha => b3.1 a (by omega)) (fun _ _ => rfl)
  have Tb : e_T17 gb (g.1 132) := e_TA_cg (a := 17) Ta (fun a _ _ => b3.1 a (by omega)) (fun _ _ _ => rfl)
  obtain ⟨gc, c1, c2, c3, c4⟩ := e_layRow Cb hH Tb hS (fun b hb => by rw [b3.1 125 (by omega)]; exact a2 b hb) b2
  have hz : e_sub (e_A (g.1 132) nb ne) 0 := fun j hj => by rw [Nat.zero_testBit] at hj; exact absurd hj (by decide)
  have q : ∀ a, ¬ a = 122 ∧ ¬ a = 123 ∧ ¬ a = 125 ∧ ¬ a = 126 → gc.1 a = g.1 a := fun a ha => by rw [c4.1 a ⟨ha.1, ha.2.1⟩, b3.1 a (by omega), a3.1 a (by omega)]
  obtain ⟨Ga, d1, d2, d3⟩ := e_tableM (G := s_si gc 130 0 0) hH hS (by rw [e_sN (by omega), q 132 (by omega)])
  have e132 : (s_si gc 130 0 0).1 132 = g.1 132 := by rw [e_sN (by omega), q 132 (by omega)]
  obtain ⟨g2, f1, f2, f3, f4⟩ := e_mRow (G := Ga) hH hS (by rw [d3.1 132 (by omega), e132]) d2
  have hbc : e_bc (e_A (g.1 132) nb ne) ≤ 7 := e_cn_le _ _
  refine ⟨Int32.ofNat (e_Vs (e_T2 (g.1 132) ne) (e_A (g.1 132) nb ne) 0), gc, g2, ?_, ?_, ?_⟩
  · unfold fC_best_0 fA_findBest_122_3_17
    rw [a1, s_b2_s, b1, s_lp_out (r := (Int32.ofNat (e_Vs (e_T2 (g.1 132) ne) (e_A (g.1 132) nb ne) 0), gc)) ?_, s_b2_s]
    dsimp only
    unfold fA_findBest_122_3_17_11
    rw [if_pos (by decide), c1, s_b1_s, c4.1 126 (by omega), b2 0 (by omega) hz]
    rfl
  · unfold fM_best_130
    rw [e_mTellers hH hS e132, s_b1_s, d1, s_b1_s, f1]
  · have q2 : ∀ a, ¬ a = 122 ∧ ¬ a = 123 ∧ ¬ a = 125 ∧ ¬ a = 126 ∧ ¬ a = 130 ∧ ¬ a = 143 ∧ ¬ a = 144 → g2.1 a = g.1 a := fun a ha => by rw [f4.1 a ⟨ha.2.2.2.2.1, ha.2.2.2.2.2.2⟩, d3.1 a (by omega), e_sN ha.2.2.2.2.1, q a ⟨ha.1, ha.2.1, ha.2.2.1, ha.2.2.2.1⟩]
    have o0 : ∀ k, k < 1000 → g2.1 0 k = g.1 0 k := fun k _ => by rw [q2 0 (by omega)]
    have o1 : ∀ k, k < 1000 → g2.1 1 k = g.1 1 k := fun k _ => by rw [q2 1 (by omega)]
    have e122 : g2.1 122 = va_up (g.1 122) 1 (Int32.ofNat (e_bc (e_A (g.1 132) nb ne))) := by rw [f4.1 122 (by omega), d3.1 122 (by omega), e_sN (by omega), c3, b3.1 122 (by omega), a3.1 122 (by omega)]
    have o122 : ∀ k, ¬ k = 1 → g2.1 122 k = g.1 122 k := fun k hk => by rw [e122, e_vn _ _ hk]
    have o130 : ∀ k, ¬ k = 0 ∧ ¬ k = 28 → g2.1 130 k = g.1 130 k := fun k hk => by rw [f3, e_vn _ _ hk.2, d3.1 130 (by omega), e_sS, e_vn _ _ hk.1, q 130 (by omega)]
    have h2 : g2.2 = g.2 := ((((f4.2.trans d3.2).trans rfl).trans c4.2).trans b3.2).trans a3.2
    have hl : e_lr g g2 := e_lr.of h2
    refine ⟨?_, nb, ne, n, p, hs, e_J_cg hJ (fun a ha => q2 a (by omega)) (o130 25 (by omega)) h2⟩
    refine ⟨⟨?_, ?_⟩, ⟨?_, ?_, ?_⟩, ⟨?_, ?_, ?_⟩, ⟨?_, ?_⟩, ?_⟩
    · rw [o1 1 (by omega), q2 2 (by omega), q2 131 (by omega), o130 2 (by omega)]; exact hR.1.1
    · rw [o0 1 (by omega), o130 10 (by omega)]; exact hR.1.2
    · refine ⟨e_bc (e_A (g.1 132) nb ne), hbc, ?_, ?_, ?_⟩
      · rw [e122, e_ve]
      · rw [f3, e_ve]
      · intro k hk
        rw [f4.1 123 (by omega), d3.1 123 (by omega), e_sN (by omega), c2 k hk, f2 k hk]
    · rw [o122 3 (by omega), q2 124 (by omega), q2 145 (by omega), o130 30 (by omega), o130 31 (by omega)]; exact hR.2.1.2.1
    · rw [o122 4 (by omega), o130 32 (by omega)]; exact hR.2.1.2.2
    · rw [q2 127 (by omega), o130 34 (by omega)]; exact hR.2.2.1.1
    · rw [o0 15 (by omega), q2 129 (by omega), q2 148 (by omega), o130 37 (by omega)]; exact hR.2.2.1.2.1
    · rw [q2 37 (by omega), q2 150 (by omega), o130 42 (by omega)]; exact hR.2.2.1.2.2
    · exact e_im_cg hR.2.2.2.1.1 (by omega) (fun a _ _ => q2 a (by omega)) (q2 134 (by omega)) (q2 140 (by omega)) hl.1.1 hl.1.2.2 hl.2.1
    · exact e_im_cg hR.2.2.2.1.2 (by omega) (fun a _ _ => q2 a (by omega)) (q2 134 (by omega)) (q2 140 (by omega)) hl.1.2.1 hl.1.2.2 hl.2.2.1
    · rw [hl.2.2.2]; exact hR.2.2.2.2
