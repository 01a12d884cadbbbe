-- LAWS AND WATCH
theorem e_sub3 {a t h : Nat} : (Int32.ofNat a - Int32.ofNat t) - Int32.ofNat h = Int32.ofNat a - Int32.ofNat (t + h) := by
  rw [Int32.ofNat_add, Int32.sub_eq_add_neg, Int32.sub_eq_add_neg, Int32.sub_eq_add_neg, Int32.neg_add, Int32.add_assoc, Int32.sub_eq_add_neg]
theorem e_div5 {h : Nat} (hh : h < 1000000) : Int32.ofNat h / 5 = Int32.ofNat (h / 5) := by
  rw [Int32.ofNat_div (by omega) (by omega)]; rfl
theorem e_bhC {a t h : Nat} {g : s_G} (ha : a < 100000) (ht : t < 100000) (hh : h < 100000) : fL_leftBehind_s (Int32.ofNat t) (Int32.ofNat h) (Int32.ofNat a) g = some (Int32.ofNat (a - t - h / 5)) := by
  unfold fL_leftBehind_s
  rw [e_div5 (by omega), e_sub3]
  by_cases hq : t + h / 5 < a
  · rw [if_pos (by rw [e_sub_p (by omega) (by omega)]; exact hq), ← Int32.ofNat_sub _ _ (by omega), Nat.sub_sub]
  · rw [if_neg (by rw [e_sub_p (by omega) (by omega)]; exact hq), show a - t - h / 5 = 0 by omega]
    rfl
theorem e_bhM {a t h : Nat} {g : s_G} (ha : a < 100000) (ht : t < 100000) (hh : h < 100000) : fM_behindOf_s (Int32.ofNat a) (Int32.ofNat t) (Int32.ofNat h) g = some (Int32.ofNat (a - t - h / 5)) := by
  unfold fM_behindOf_s
  rw [e_div5 (by omega), e_sub3]
  by_cases hq : a < t + h / 5
  · rw [if_pos (by rw [e_sub_n (by omega) (by omega)]; exact hq), show a - t - h / 5 = 0 by omega]
    rfl
  · rw [if_neg (by rw [e_sub_n (by omega) (by omega)]; exact hq), ← Int32.ofNat_sub _ _ (by omega), Nat.sub_sub]
def e_al (P : Nat → Bool) (a o t : Nat) : Bool := decide (a - o - 2 = a - t - 2) && (P o && P t)
def e_W (P : Nat → Bool) (a : Nat) : Nat := e_mxn (fun o => e_cn (e_al P a o) 10) 10
theorem e_W_le (P : Nat → Bool) (a : Nat) : e_W P a ≤ 10 := by
  unfold e_W
  rcases e_mxn_ex (F := fun o => e_cn (e_al P a o) 10) 10 with h | ⟨v, _, h⟩
  · omega
  · rw [← h]; exact e_cn_le _ _
theorem e_mostAlike {g : s_G} {a : Nat} (ha : a ≤ 40) : fL_mostAlike_127 (Int32.ofNat a) g = some (Int32.ofNat (e_W (e_g (g.1 127 0)) a)) := by
  generalize hP : e_g (g.1 127 0) = P
  have inner : ∀ o M, o < 10 → M ≤ 10 → s_lp (fun (x : Int32 × Int32) => fL_mostAlike_127_16 (Int32.ofNat a) (Int32.ofNat M) (Int32.ofNat o) x.1 x.2 g) (0, 0) = some (.inl (Int32.ofNat (max M (e_cn (e_al P a o) 10)), Int32.ofNat (o + 1))) := by
    intro o M ho hM
    refine e_seq2 (fun k => (Int32.ofNat (e_cn (e_al P a o) k), Int32.ofNat k)) 10 rfl ?_ ?_
    · intro k hk
      dsimp only
      unfold fL_mostAlike_127_16 fL_mostAlike_127_46
      rw [if_pos (show Int32.ofNat k < 10 from e_T (b := 10) hk (by omega)), show (10 : Int32) = Int32.ofNat 10 from rfl, e_bhC (by omega) (by omega) (by omega), s_b1_s, e_bhC (by omega) (by omega) (by omega), s_b1_s, if_neg (show ¬ (1 : Int32) = 0 by decide), if_pos (show (0 : Int32) = 0 from rfl)]
      simp (disch := omega) only [e_eq, e_bit (g.1 127 0) (show o < 32 by omega), e_bit (g.1 127 0) (show k < 32 by omega), hP]
      rw [show e_cn (e_al P a o) (k + 1) = e_cn (e_al P a o) k + (if e_al P a o k then 1 else 0) from rfl, show 10 / 5 = 2 from rfl, e_inc, e_inc]
      unfold e_al
      by_cases h1 : a - o - 2 = a - k - 2
      · rw [if_pos h1, decide_eq_true h1, Bool.true_and]
        by_cases h2 : P o = true
        · rw [if_pos h2, h2, Bool.true_and]
          by_cases h3 : P k = true
          · rw [if_pos h3, if_pos h3]
          · rw [if_neg h3, if_neg h3]; rfl
        · rw [if_neg h2, if_neg (fun h => h2 (Bool.and_eq_true_iff.mp h).1)]; rfl
      · rw [if_neg h1, decide_eq_false h1, Bool.false_and, if_neg (by decide)]; rfl
    · dsimp only
      unfold fL_mostAlike_127_16
      have hc := e_cn_le (e_al P a o) 10
      rw [if_neg (show ¬ Int32.ofNat 10 < 10 by decide), e_inc]
      by_cases hq : M < e_cn (e_al P a o) 10
      · rw [if_pos (e_T hq (by omega)), Nat.max_eq_right (by omega)]
        rfl
      · rw [if_neg (e_F (by omega) (by omega)), Nat.max_eq_left (by omega)]
        rfl
  unfold fL_mostAlike_127
  have hM : ∀ k, e_mxn (fun o => e_cn (e_al P a o) 10) k ≤ 10 := by
    intro k
    rcases e_mxn_ex (F := fun o => e_cn (e_al P a o) 10) k with h | ⟨v, _, h⟩
    · omega
    · rw [← h]; exact e_cn_le _ _
  refine e_seq2 (fun k => (Int32.ofNat (e_mxn (fun o => e_cn (e_al P a o) 10) k), Int32.ofNat k)) 10 rfl ?_ ?_
  · intro k hk
    dsimp only
    unfold fL_mostAlike_127_4
    rw [if_pos (show Int32.ofNat k < 10 from e_T (b := 10) hk (by omega)), inner k _ hk (hM k)]
    rfl
  · rfl
/-- the first of 1 .. n of which W is least -/
def e_am (W : Nat → Nat) : Nat → Nat
  | 0 => 1
  | n + 1 => if n = 0 then 1 else if W (n + 1) < W (e_am W n) then n + 1 else e_am W n
theorem e_am_c (W : Nat → Nat) : ∀ n, 1 ≤ n → 1 ≤ e_am W n ∧ e_am W n ≤ n := by
  intro n
  induction n with
  | zero => intro h; omega
  | succ n ih =>
    intro _
    unfold e_am
    split
    · omega
    · split
      · omega
      · have := ih (by omega); omega
theorem e_am_s (W : Nat → Nat) {n : Nat} (h : 1 ≤ n) : e_am W (n + 1) = if W (n + 1) < W (e_am W n) then n + 1 else e_am W n := by
  show (if n = 0 then 1 else _) = _
  rw [if_neg (by omega)]
theorem e_findWatch {g : s_G} (h0 : ¬ g.1 127 0 = 0) : fL_findWatch_127 g = some (Int32.ofNat (e_am (e_W (e_g (g.1 127 0))) 40)) := by
  generalize hW : e_W (e_g (g.1 127 0)) = W
  have hWle : ∀ a, W a ≤ 10 := fun a => by rw [← hW]; exact e_W_le _ _
  unfold fL_findWatch_127
  rw [if_neg h0]
  rw [s_lp_in (y := (Int32.ofNat 1, Int32.ofNat (W 1), Int32.ofNat 2))]
  · refine e_seq2 (fun k => (Int32.ofNat (e_am W (k + 1)), Int32.ofNat (W (e_am W (k + 1))), Int32.ofNat (k + 2))) 39 rfl ?_ ?_
    · intro k hk
      dsimp only
      unfold fL_findWatch_127_16
      rw [if_neg (show ¬ 40 < Int32.ofNat (k + 2) from e_F (a := 40) (by omega) (by omega)), e_mostAlike (by omega), s_b1_s, hW, e_inc, e_am_s W (show 1 ≤ k + 1 by omega)]
      have h1 := hWle (k + 2)
      have h2 := hWle (e_am W (k + 1))
      by_cases hq : W (k + 2) < W (e_am W (k + 1))
      · rw [if_pos (e_T hq (by omega)), if_pos (show W (k + 1 + 1) < _ from hq)]
      · rw [if_neg (e_F (by omega) (by omega)), if_neg (show ¬ W (k + 1 + 1) < _ from hq)]
    · rfl
  · dsimp only
    unfold fL_findWatch_127_16
    rw [if_neg (by decide), show (1 : Int32) = Int32.ofNat 1 from rfl, e_mostAlike (by omega), s_b1_s, hW, if_pos (show Int32.ofNat (W 1) < 11 from e_T (b := 11) (by have := hWle 1; omega) (by omega))]
    rfl
theorem k_watch {g : s_G} (h : e_I g) : e_k0 (fC_watch_0 g) g fM_watch_130 := ⟨g.1 130 34, _, by unfold fC_watch_0; rw [h.1.2.2.1.1 g rfl, s_b1_s], rfl, e_I_0 h 0⟩
-- the reference's
def e_Fv (P : Nat → Bool) (a n v : Nat) : Nat := e_cn (fun t => P t && decide (a - t - 2 = v)) n
theorem e_W_eq (P : Nat → Bool) {a : Nat} (ha : a ≤ 40) : e_mxn (e_Fv P a 10) 41 = e_W P a := by
  have key : ∀ o, P o = true → e_cn (e_al P a o) 10 = e_Fv P a 10 (a - o - 2) := by
    intro o ho
    refine e_cn_cg 10 (fun t ht => ?_)
    unfold e_al
    rw [ho, Bool.true_and, Bool.and_comm]
    congr 1
    exact decide_eq_decide.mpr ⟨Eq.symm, Eq.symm⟩
  have key0 : ∀ o, ¬ P o = true → e_cn (e_al P a o) 10 = 0 := by
    intro o ho
    rcases Nat.eq_zero_or_pos (e_cn (e_al P a o) 10) with h | h
    · exact h
    · obtain ⟨k, _, hk⟩ := e_cn_ex 10 h
      unfold e_al at hk
      exact absurd (Bool.and_eq_true_iff.mp (Bool.and_eq_true_iff.mp hk).2).1 ho
  symm
  apply e_mxn_un
  · intro v hv
    rcases Nat.eq_zero_or_pos (e_Fv P a 10 v) with h | h
    · omega
    · obtain ⟨k, hk, hp⟩ := e_cn_ex 10 h
      have hp2 := Bool.and_eq_true_iff.mp hp
      have hv2 : a - k - 2 = v := of_decide_eq_true hp2.2
      have h9 : e_cn (e_al P a k) 10 ≤ e_W P a := e_mxn_ge (F := fun o => e_cn (e_al P a o) 10) 10 k hk
      rw [key k hp2.1, hv2] at h9
      exact h9
  · rcases e_mxn_ex (F := fun o => e_cn (e_al P a o) 10) 10 with h | ⟨o, ho, h⟩
    · exact Or.inl h
    · by_cases hp : P o = true
      · refine Or.inr ⟨a - o - 2, by omega, ?_⟩
        rw [← key o hp]; exact h
      · left
        show e_W P a = 0
        unfold e_W
        rw [← h]
        exact key0 o hp
theorem e_leftBy {g : s_G} {x : Int32} {a : Nat} (ha : a ≤ 40) : ∃ g', fM_leftBy_130 x (Int32.ofNat a) g = some (Int32.ofNat (e_W (e_g x) a), g') ∧ e_fx 147 147 g g' := by
  generalize hP : e_g x = P
  unfold fM_leftBy_130
  obtain ⟨y, ⟨h1, h2, h3⟩, h4⟩ := e_lpN (B := fun (w : Int32 × s_G) => fM_leftBy_130_2 x (Int32.ofNat a) w.1 w.2) (fun k (w : Int32 × s_G) => w.1 = Int32.ofNat k ∧ (∀ j, j < k → w.2.1 147 j = 0) ∧ e_fx 147 147 g w.2) 41 (x := (0, g)) (by
    intro k w hk hw
    obtain ⟨w1, w2⟩ := w
    obtain ⟨h1, h2, h3⟩ := hw
    dsimp only at h1 h2 h3
    subst h1
    refine ⟨(Int32.ofNat (k + 1), s_si w2 147 k 0), ?_, rfl, ?_, h3.tr (e_fx.si (by omega) (by omega))⟩
    · dsimp only
      unfold fM_leftBy_130_2
      rw [if_neg (show ¬ 40 < Int32.ofNat k from e_F (a := 40) (by omega) (by omega)), e_ix (by omega) (by omega), s_b1_s, e_inc]
    · intro j hj
      dsimp only
      rw [e_sS]
      by_cases hq : j = k
      · subst hq; rw [e_ve]
      · rw [e_vn _ _ hq]; exact h2 j (by omega)) ⟨rfl, fun j hj => absurd hj (by omega), e_fx.rf _ _ _⟩
  obtain ⟨y1, y2⟩ := y
  dsimp only at h1 h2 h3
  subst h1
  have hFle : ∀ n v, e_Fv P a n v ≤ n := fun n v => e_cn_le _ _
  have hMle : ∀ n, n ≤ 10 → e_mxn (e_Fv P a n) 41 ≤ 10 := by
    intro n hn
    rcases e_mxn_ex (F := e_Fv P a n) 41 with h | ⟨v, _, h⟩
    · omega
    · rw [← h]; have := hFle n v; omega
  obtain ⟨w, ⟨c1, c2, c3, c4⟩, c5⟩ := e_lpN (B := fun (w : Int32 × Int32 × s_G) => fM_leftBy_130_26 x (Int32.ofNat a) w.1 w.2.1 w.2.2) (fun k (w : Int32 × Int32 × s_G) => w.1 = Int32.ofNat (e_mxn (e_Fv P a k) 41) ∧ w.2.1 = Int32.ofNat k ∧ (∀ v, v < 41 → w.2.2.1 147 v = Int32.ofNat (e_Fv P a k v)) ∧ e_fx 147 147 g w.2.2) 10 (x := (0, 0, y2)) (by
    intro k w hk hw
    obtain ⟨w1, w2, w3⟩ := w
    obtain ⟨c1, c2, c3, c4⟩ := hw
    dsimp only at c1 c2 c3 c4
    subst c1 c2
    unfold fM_leftBy_130_26
    dsimp only
    rw [if_neg (show ¬ 9 < Int32.ofNat k from e_F (a := 9) (by omega) (by omega)), e_hasS (by omega), s_b1_s, hP, e_inc]
    have hs : ∀ v, e_Fv P a (k + 1) v = e_Fv P a k v + (if P k && decide (a - k - 2 = v) then 1 else 0) := fun v => rfl
    by_cases hp : P k = true
    · rw [if_neg (by rw [e_bi_t hp]; decide), show (10 : Int32) = Int32.ofNat 10 from rfl, e_bhM (by omega) (by omega) (by omega), s_b1_s, show 10 / 5 = 2 from rfl, e_ix (by omega) (by omega), s_b1_s, s_b1_s, e_sS, e_ve, c3 (a - k - 2) (by omega), e_inc]
      have hv0 : e_Fv P a (k + 1) (a - k - 2) = e_Fv P a k (a - k - 2) + 1 := by rw [hs, hp, decide_eq_true rfl]; rfl
      have hvn : ∀ v, ¬ v = a - k - 2 → e_Fv P a (k + 1) v = e_Fv P a k v := by
        intro v hv
        rw [hs, decide_eq_false (fun h => hv h.symm), Bool.and_false, if_neg (by decide), Nat.add_zero]
      have hmx : e_mxn (e_Fv P a (k + 1)) 41 = max (e_mxn (e_Fv P a k) 41) (e_Fv P a k (a - k - 2) + 1) := by
        symm
        apply e_mxn_un
        · intro v hv
          by_cases hq : v = a - k - 2
          · subst hq; rw [hv0]; omega
          · rw [hvn v hq]
            have := e_mxn_ge (F := e_Fv P a k) 41 v hv
            omega
        · by_cases hq : e_mxn (e_Fv P a k) 41 < e_Fv P a k (a - k - 2) + 1
          · rw [Nat.max_eq_right (by omega)]
            exact Or.inr ⟨a - k - 2, by omega, hv0⟩
          · rw [Nat.max_eq_left (by omega)]
            rcases e_mxn_ex (F := e_Fv P a k) 41 with h | ⟨v, hv, h⟩
            · omega
            · refine Or.inr ⟨v, hv, ?_⟩
              rw [hvn v (by intro hvq; subst hvq; omega)]; exact h
      have b1 := hFle k (a - k - 2)
      have b2 := hMle k (by omega)
      have fin : ∀ v, v < 41 → (s_si w3 147 (a - k - 2) (Int32.ofNat (e_Fv P a k (a - k - 2) + 1))).1 147 v = Int32.ofNat (e_Fv P a (k + 1) v) := by
        intro v hv
        rw [e_sS]
        by_cases hq : v = a - k - 2
        · subst hq; rw [e_ve, hv0]
        · rw [e_vn _ _ hq, hvn v hq]; exact c3 v hv
      by_cases hq : e_mxn (e_Fv P a k) 41 < e_Fv P a k (a - k - 2) + 1
      · rw [if_pos (e_T hq (by omega))]
        exact ⟨_, rfl, by rw [hmx, Nat.max_eq_right (by omega)], rfl, fin, c4.tr (e_fx.si (by omega) (by omega))⟩
      · rw [if_neg (e_F (by omega) (by omega))]
        exact ⟨_, rfl, by rw [hmx, Nat.max_eq_left (by omega)], rfl, fin, c4.tr (e_fx.si (by omega) (by omega))⟩
    · have hvn : e_Fv P a (k + 1) = e_Fv P a k := by
        funext v
        rw [hs, if_neg (fun h => hp (Bool.and_eq_true_iff.mp h).1), Nat.add_zero]
      rw [if_pos (e_bi_f hp)]
      exact ⟨_, rfl, by rw [hvn], rfl, fun v hv => by rw [hvn]; exact c3 v hv, c4⟩) ⟨by
        dsimp only
        rw [← e_mxn_un (F := e_Fv P a 0) (n := 41) (M := 0) (fun v _ => Nat.le_refl _) (Or.inl rfl)]; rfl, rfl, fun v hv => h2 v hv, h3⟩
  obtain ⟨w1, w2, w3⟩ := w
  dsimp only at c1 c2 c3 c4
  subst c1 c2
  refine ⟨w3, ?_, c4⟩
  rw [h4]
  apply s_lp_out
  dsimp only
  unfold fM_leftBy_130_2
  rw [if_pos (show (40 : Int32) < Int32.ofNat 41 by decide), c5, s_lp_out (r := (Int32.ofNat (e_mxn (e_Fv P a 10) 41), w3)) rfl, e_W_eq P ha]
  rfl
theorem e_mWatch {g : s_G} {x : Int32} : ∃ g', s_lp (fun (w : Int32 × s_G) => fM_laws_130_162 x w.1 w.2) (2, s_si g 130 34 1) = some (x, g') ∧ g'.1 130 = va_up (g.1 130) 34 (Int32.ofNat (e_am (e_W (e_g x)) 40)) ∧ e_fr (fun a => ¬ a = 130 ∧ ¬ a = 147) g g' := by
  generalize hW : e_W (e_g x) = W
  have hWle : ∀ a, W a ≤ 10 := fun a => by rw [← hW]; exact e_W_le _ _
  obtain ⟨w, ⟨c1, c2, c3⟩, c4⟩ := e_lpN (B := fun (w : Int32 × s_G) => fM_laws_130_162 x w.1 w.2) (fun k (w : Int32 × s_G) => w.1 = Int32.ofNat (k + 2) ∧ w.2.1 130 = va_up (g.1 130) 34 (Int32.ofNat (e_am W (k + 1))) ∧ e_fr (fun a => ¬ a = 130 ∧ ¬ a = 147) g w.2) 39 (x := (2, s_si g 130 34 1)) (by
    intro k w hk hw
    obtain ⟨w1, w2⟩ := w
    obtain ⟨c1, c2, c3⟩ := hw
    dsimp only at c1 c2 c3
    subst c1
    have ham := e_am_c W (k + 1) (by omega)
    obtain ⟨g7, a1, a2⟩ := e_leftBy (g := w2) (x := x) (a := k + 2) (by omega)
    obtain ⟨g9, b1, b2⟩ := e_leftBy (g := g7) (x := x) (a := e_am W (k + 1)) (by omega)
    unfold fM_laws_130_162
    dsimp only
    have e7 : g7.1 130 34 = Int32.ofNat (e_am W (k + 1)) := by rw [a2.1 130 (by omega), c2, e_ve]
    have e9 : g9.1 130 = va_up (g.1 130) 34 (Int32.ofNat (e_am W (k + 1))) := by rw [b2.1 130 (by omega), a2.1 130 (by omega), c2]
    rw [if_neg (show ¬ 40 < Int32.ofNat (k + 2) from e_F (a := 40) (by omega) (by omega)), a1, s_b2_s, e7, b1, s_b2_s, hW, e_inc]
    have h1 := hWle (k + 2)
    have h2 := hWle (e_am W (k + 1))
    have fr : e_fr (fun a => ¬ a = 130 ∧ ¬ a = 147) g g9 := (c3.tr (a2.fr (fun a ha => by omega))).tr (b2.fr (fun a ha => by omega))
    by_cases hq : W (k + 2) < W (e_am W (k + 1))
    · rw [if_pos (e_T hq (by omega))]
      refine ⟨_, rfl, rfl, ?_, ⟨fun a ha => by dsimp only; rw [e_sN ha.1]; exact fr.1 a ha, fr.2⟩⟩
      dsimp only
      rw [e_sS, e9, e_am_s W (show 1 ≤ k + 1 by omega), if_pos (show W (k + 1 + 1) < _ from hq)]
      funext i
      by_cases hi : i = 34
      · subst hi; rw [e_ve, e_ve]
      · rw [e_vn _ _ hi, e_vn _ _ hi, e_vn _ _ hi]
    · rw [if_neg (e_F (by omega) (by omega))]
      refine ⟨_, rfl, rfl, ?_, fr⟩
      dsimp only
      rw [e9, e_am_s W (show 1 ≤ k + 1 by omega), if_neg (show ¬ W (k + 1 + 1) < _ from hq)]) ⟨rfl, by rw [e_sS]; rfl, ⟨fun a ha => e_sN ha.1, rfl⟩⟩
  obtain ⟨w1, w2⟩ := w
  dsimp only at c1 c2 c3
  subst c1
  exact ⟨w2, c4.trans (s_lp_out rfl), c2, c3⟩
-- which laws there are
def e_an (p : Nat → Bool) : Nat → Bool
  | 0 => true
  | n + 1 => e_an p n && p n
theorem e_an_t {p : Nat → Bool} : ∀ n, e_an p n = true ↔ ∀ i, i < n → p i = true := by
  intro n
  induction n with
  | zero => exact ⟨fun _ i hi => absurd hi (by omega), fun _ => rfl⟩
  | succ n ih =>
    unfold e_an
    rw [Bool.and_eq_true_iff, ih]
    constructor
    · intro h i hi
      by_cases hq : i = n
      · subst hq; exact h.2
      · exact h.1 i (by omega)
    · intro h
      exact ⟨fun i hi => h i (by omega), h n (by omega)⟩
def e_mt (u : Nat → Nat) (i t : Nat) : Bool := decide (u (3 * i + 1) - t - u (3 * i) / 5 = u (3 * i + 2))
def e_hk (u : Nat → Nat) (i : Nat) : Bool := decide (1 ≤ u (3 * i) ∧ u (3 * i) ≤ 30)
/-- the bits of the laws -/
def e_lb (u : Nat → Nat) (m j : Nat) : Bool := decide (j < 10) && e_an (fun i => e_mt u i j) m
theorem e_laws_C {g : s_G} {u : Nat → Nat} {m : Nat} (hu : ∀ k, k < 940 → u k < 256 ∧ g.1 2 k &&& 255 = Int32.ofNat (u k)) (hm1 : 1 ≤ m) (hm : m ≤ 6) (hl : g.1 1 1 = Int32.ofNat (3 * m)) : ∃ r, fL_findLaws_127_1 g = some r ∧ ((e_an (e_hk u) m = true ∧ (∀ j, j < 32 → e_g r.1 j = e_lb u m j) ∧ r.2 = if 0 < r.1 then s_si g 127 0 r.1 else g) ∨ (¬ e_an (e_hk u) m = true ∧ r = (-1, g))) := by
  unfold fL_findLaws_127_1
  rw [hl, if_neg (show ¬ Int32.ofNat (3 * m) < 3 from e_F (b := 3) (by omega) (by omega)), if_neg (show ¬ 18 < Int32.ofNat (3 * m) from e_F (a := 18) (by omega) (by omega)), show (3 : Int32) = Int32.ofNat 3 from rfl, e_mod (by omega) (by omega), show 3 * m % 3 = 0 by omega, if_pos (show Int32.ofNat 0 = 0 from rfl)]
  apply e_lpM (fun (x : Int32 × Int32) => ∃ i, i ≤ m ∧ x.2 = Int32.ofNat (3 * i) ∧ (∀ i', i' < i → e_hk u i' = true) ∧ ∀ j, j < 32 → e_g x.1 j = e_lb u i j) (fun x => 1000 - x.2.toNatClampNeg) (fun r => (e_an (e_hk u) m = true ∧ (∀ j, j < 32 → e_g r.1 j = e_lb u m j) ∧ r.2 = if 0 < r.1 then s_si g 127 0 r.1 else g) ∨ (¬ e_an (e_hk u) m = true ∧ r = (-1, g)))
  · intro x hx
    obtain ⟨x1, x2⟩ := x
    obtain ⟨i, hi, e1, h2, h3⟩ := hx
    dsimp only at e1 h3
    subst e1
    dsimp only
    unfold fL_findLaws_127_1_31
    rw [show Int32.ofNat (3 * i) + 2 = Int32.ofNat (3 * i + 2) by rw [Int32.ofNat_add]; rfl]
    by_cases hq : i < m
    · rw [if_pos (e_T (by omega) (by omega)), e_ix (by omega) (by omega), s_b1_s, (hu (3 * i) (by omega)).2]
      obtain ⟨u0, _⟩ := hu (3 * i) (by omega)
      by_cases hk : e_hk u i = true
      · obtain ⟨k1, k2⟩ := of_decide_eq_true hk
        rw [if_neg (show ¬ Int32.ofNat (u (3 * i)) < 1 from e_F (b := 1) (by omega) (by omega)), if_neg (show ¬ 30 < Int32.ofNat (u (3 * i)) from e_F (a := 30) (by omega) (by omega))]
        left
        obtain ⟨w, ⟨c1, c2⟩, c3⟩ := e_lpN (B := fun (x : Int32 × Int32) => fL_findLaws_127_1_70 (Int32.ofNat (3 * m)) x.1 (Int32.ofNat (3 * i)) (Int32.ofNat (u (3 * i))) x.2 g) (fun k (w : Int32 × Int32) => w.2 = Int32.ofNat k ∧ ∀ j, j < 32 → e_g w.1 j = (e_g x1 j && (decide (k ≤ j) || e_mt u i j))) 10 (x := (x1, 0)) (by
          intro k w hk hw
          obtain ⟨w1, w2⟩ := w
          obtain ⟨c1, c2⟩ := hw
          dsimp only at c1 c2
          subst c1
          obtain ⟨u1, v1⟩ := hu (3 * i + 1) (by omega)
          obtain ⟨u2, v2⟩ := hu (3 * i + 2) (by omega)
          unfold fL_findLaws_127_1_70
          dsimp only
          rw [if_pos (show Int32.ofNat k < 10 from e_T (b := 10) hk (by omega)), e_inc, e_ix (by omega) (by omega), s_b1_s, v1, e_bhC (by omega) (by omega) (by omega), s_b1_s, show Int32.ofNat (3 * i) + 2 = Int32.ofNat (3 * i + 2) by rw [Int32.ofNat_add]; rfl, e_ix (by omega) (by omega), s_b1_s, v2, s_b1_s, e_inc]
          simp (disch := omega) only [e_eq]
          by_cases hmt : u (3 * i + 1) - k - u (3 * i) / 5 = u (3 * i + 2)
          · rw [if_pos hmt]
            refine ⟨_, rfl, rfl, fun j hj => ?_⟩
            dsimp only
            rw [c2 j hj]
            by_cases hjk : j = k
            · subst hjk
              rw [show e_mt u i j = true from decide_eq_true hmt, Bool.or_true, Bool.or_true]
            · rw [show decide (k ≤ j) = decide (k + 1 ≤ j) from decide_eq_decide.mpr (by omega)]
          · rw [if_neg hmt]
            refine ⟨_, rfl, rfl, fun j hj => ?_⟩
            dsimp only
            rw [e_g_and, e_g_xm _ hj, e_g_shl (by omega) hj, c2 j hj]
            by_cases hjk : j = k
            · subst hjk
              rw [show e_mt u i j = false from decide_eq_false hmt, decide_eq_true rfl, Bool.not_true, Bool.and_false, show decide (j + 1 ≤ j) = false from decide_eq_false (by omega), Bool.or_self, Bool.and_false]
            · rw [show decide (k ≤ j) = decide (k + 1 ≤ j) from decide_eq_decide.mpr (by omega), decide_eq_false hjk, Bool.not_false, Bool.and_true]) ⟨rfl, fun j hj => by rw [show decide (0 ≤ j) = true from decide_eq_true (by omega), Bool.true_or, Bool.and_true]⟩
        obtain ⟨w1, w2⟩ := w
        dsimp only at c1 c2
        subst c1
        refine ⟨(w1, Int32.ofNat (3 * i + 3)), ?_, ⟨i + 1, by omega, rfl, ?_, ?_⟩, ?_⟩
        · rw [c3]
          apply s_lp_out
          dsimp only
          unfold fL_findLaws_127_1_70
          rw [if_neg (show ¬ Int32.ofNat 10 < 10 by decide), show Int32.ofNat (3 * i) + 3 = Int32.ofNat (3 * i + 3) by rw [Int32.ofNat_add]; rfl]
          rfl
        · intro i' hi'
          by_cases hq : i' = i
          · subst hq; exact hk
          · exact h2 i' (by omega)
        · intro j hj
          dsimp only
          rw [c2 j hj, h3 j hj]
          unfold e_lb
          rw [show e_an (fun i => e_mt u i j) (i + 1) = (e_an (fun i => e_mt u i j) i && e_mt u i j) from rfl]
          by_cases hj10 : j < 10
          · rw [decide_eq_true hj10, Bool.true_and, Bool.true_and, show decide (10 ≤ j) = false from decide_eq_false (by omega), Bool.false_or]
          · rw [decide_eq_false hj10, Bool.false_and, Bool.false_and, Bool.false_and]
        · dsimp only
          rw [e_nt (by omega), e_nt (by omega)]
          omega
      · right
        have hbad : ¬ (1 ≤ u (3 * i) ∧ u (3 * i) ≤ 30) := fun h => hk (decide_eq_true h)
        refine ⟨(-1, g), ?_, Or.inr ⟨fun h => hk ((e_an_t m).mp h i hq), rfl⟩⟩
        by_cases hq1 : u (3 * i) < 1
        · rw [if_pos (show Int32.ofNat (u (3 * i)) < 1 from e_T (b := 1) hq1 (by omega))]
          rfl
        · rw [if_neg (show ¬ Int32.ofNat (u (3 * i)) < 1 from e_F (b := 1) (by omega) (by omega)), if_pos (show 30 < Int32.ofNat (u (3 * i)) from e_T (a := 30) (by omega) (by omega))]
          rfl
    · have hi' : i = m := by omega
      subst hi'
      rw [if_neg (e_F (by omega) (by omega))]
      right
      refine ⟨(x1, if 0 < x1 then s_si g 127 0 x1 else g), ?_, Or.inl ⟨(e_an_t i).mpr h2, h3, rfl⟩⟩
      split <;> rfl
  · refine ⟨0, by omega, rfl, fun i' h => absurd h (by omega), fun j hj => ?_⟩
    have : ∀ j, j < 32 → e_g 1023 j = decide (j < 10) := by decide
    dsimp only
    rw [this j hj]
    unfold e_lb e_an
    rw [Bool.and_true]
theorem e_laws_M {G : s_G} {u : Nat → Nat} {m : Nat} (hu : ∀ k, k < 940 → u k < 256 ∧ G.1 131 k = Int32.ofNat (u k)) (hm1 : 1 ≤ m) (hm : m ≤ 6) : ∃ r, s_lp (fun (x : Int32) => fM_laws_130_32 (Int32.ofNat (3 * m)) x G) 0 = some r ∧ ((e_an (e_hk u) m = true ∧ (∀ j, j < 32 → e_g r.1 j = e_lb u m j) ∧ (r.1 = 0 → r.2 = G) ∧ (¬ r.1 = 0 → r.2.1 130 = va_up (G.1 130) 34 (Int32.ofNat (e_am (e_W (e_g r.1)) 40)) ∧ e_fr (fun a => ¬ a = 130 ∧ ¬ a = 147) G r.2)) ∨ (¬ e_an (e_hk u) m = true ∧ r = (-1, G))) := by
  have inner : ∀ t s, t < 10 → s_lp (fun (x : Int32 × Int32) => fM_laws_130_76 (Int32.ofNat (3 * m)) s (Int32.ofNat t) x.1 x.2 G) (1, 0) = some (.inl (if e_an (fun i => e_mt u i t) m = true then s ||| ((1 : Int32) <<< (Int32.ofNat t &&& 31)) else s, Int32.ofNat (t + 1))) := by
    intro t s ht
    have e1 : ((1 : Int32), (0 : Int32)) = (e_bi (e_an (fun i => e_mt u i t) 0 = true), Int32.ofNat (3 * 0)) := by rw [e_bi_t (show e_an (fun i => e_mt u i t) 0 = true from rfl)]; rfl
    refine e_seq2 (fun k => (e_bi (e_an (fun i => e_mt u i t) k = true), Int32.ofNat (3 * k))) m e1 ?_ ?_
    · intro k hk
      dsimp only
      obtain ⟨u0, v0⟩ := hu (3 * k) (by omega)
      obtain ⟨u1, v1⟩ := hu (3 * k + 1) (by omega)
      obtain ⟨u2, v2⟩ := hu (3 * k + 2) (by omega)
      unfold fM_laws_130_76
      rw [if_pos (e_T (by omega) (by omega)), show Int32.ofNat (3 * k) + 3 = Int32.ofNat (3 * (k + 1)) by rw [show 3 * (k + 1) = 3 * k + 3 by omega, Int32.ofNat_add]; rfl]
      rw [show e_an (fun i => e_mt u i t) (k + 1) = (e_an (fun i => e_mt u i t) k && e_mt u k t) from rfl]
      by_cases ha : e_an (fun i => e_mt u i t) k = true
      · rw [if_neg (by rw [e_bi_t ha]; decide), e_inc, e_ix (by omega) (by omega), s_b1_s, e_ix (by omega) (by omega), s_b1_s, v0, v1, e_bhM (by omega) (by omega) (by omega), s_b1_s, show Int32.ofNat (3 * k) + 2 = Int32.ofNat (3 * k + 2) by rw [Int32.ofNat_add]; rfl, e_ix (by omega) (by omega), s_b1_s, v2, ha, Bool.true_and]
        simp (disch := omega) only [e_eq]
        by_cases hmt : u (3 * k + 1) - t - u (3 * k) / 5 = u (3 * k + 2)
        · rw [if_pos hmt, e_bi_t (show e_mt u k t = true from decide_eq_true hmt)]
        · rw [if_neg hmt, e_bi_f (show ¬ e_mt u k t = true from fun h => hmt (of_decide_eq_true h))]
      · rw [if_pos (e_bi_f ha), e_bi_f (fun h => ha (Bool.and_eq_true_iff.mp h).1)]
    · dsimp only
      unfold fM_laws_130_76
      rw [if_neg (e_F (by omega) (by omega)), e_inc]
      by_cases ha : e_an (fun i => e_mt u i t) m = true
      · rw [if_neg (by rw [e_bi_t ha]; decide), if_pos ha]
        rfl
      · rw [if_pos (e_bi_f ha), if_neg ha]
        rfl
  apply e_lpM (fun (x : Int32) => ∃ i, i ≤ m ∧ x = Int32.ofNat (3 * i) ∧ (∀ i', i' < i → e_hk u i' = true)) (fun x => 1000 - x.toNatClampNeg) (fun r => (e_an (e_hk u) m = true ∧ (∀ j, j < 32 → e_g r.1 j = e_lb u m j) ∧ (r.1 = 0 → r.2 = G) ∧ (¬ r.1 = 0 → r.2.1 130 = va_up (G.1 130) 34 (Int32.ofNat (e_am (e_W (e_g r.1)) 40)) ∧ e_fr (fun a => ¬ a = 130 ∧ ¬ a = 147) G r.2)) ∨ (¬ e_an (e_hk u) m = true ∧ r = (-1, G)))
  · intro x hx
    obtain ⟨i, hi, rfl, h2⟩ := hx
    unfold fM_laws_130_32
    by_cases hq : i < m
    · obtain ⟨u0, v0⟩ := hu (3 * i) (by omega)
      rw [if_pos (e_T (by omega) (by omega)), e_ix (by omega) (by omega), s_b1_s, v0, show (30 : Int32) = Int32.ofNat 30 from rfl, e_isIn_1 (by omega), s_b1_s]
      by_cases hk : e_hk u i = true
      · obtain ⟨k1, k2⟩ := of_decide_eq_true hk
        left
        rw [if_neg (by rw [e_bi_t ⟨show ¬ Int32.ofNat (u (3 * i)) < 1 from e_F (b := 1) (by omega) (by omega), e_F (by omega) (by omega)⟩]; decide)]
        refine ⟨Int32.ofNat (3 * i + 3), by rw [Int32.ofNat_add]; rfl, ⟨i + 1, by omega, rfl, ?_⟩, by rw [e_nt (by omega), e_nt (by omega)]; omega⟩
        intro i' hi'
        by_cases hq : i' = i
        · subst hq; exact hk
        · exact h2 i' (by omega)
      · right
        have hbad : ¬ (1 ≤ u (3 * i) ∧ u (3 * i) ≤ 30) := fun h => hk (decide_eq_true h)
        refine ⟨(-1, G), ?_, Or.inr ⟨fun h => hk ((e_an_t m).mp h i hq), rfl⟩⟩
        rw [if_pos (e_bi_f ?_)]
        · rfl
        · intro h
          apply hbad
          constructor
          · exact Classical.byContradiction (fun hc => h.1 (show Int32.ofNat (u (3 * i)) < 1 from e_T (b := 1) (by omega) (by omega)))
          · exact Classical.byContradiction (fun hc => h.2 (e_T (by omega) (by omega)))
    · have hi' : i = m := by omega
      subst hi'
      rw [if_neg (e_F (by omega) (by omega))]
      right
      obtain ⟨w, ⟨c1, c2⟩, c3⟩ := e_lpN (B := fun (x : Int32 × Int32) => fM_laws_130_64 (Int32.ofNat (3 * i)) x.1 x.2 G) (fun k (w : Int32 × Int32) => w.2 = Int32.ofNat k ∧ ∀ j, j < 32 → e_g w.1 j = (decide (j < k) && e_an (fun i => e_mt u i j) i)) 10 (x := (0, 0)) (by
        intro k w hk hw
        obtain ⟨w1, w2⟩ := w
        obtain ⟨c1, c2⟩ := hw
        dsimp only at c1 c2
        subst c1
        unfold fM_laws_130_64
        dsimp only
        rw [if_neg (show ¬ 9 < Int32.ofNat k from e_F (a := 9) (by omega) (by omega)), inner k w1 hk]
        refine ⟨_, rfl, rfl, fun j hj => ?_⟩
        dsimp only
        by_cases ha : e_an (fun i => e_mt u i k) i = true
        · rw [if_pos ha, e_g_or, e_g_shl (by omega) hj, c2 j hj]
          by_cases hjk : j = k
          · subst hjk
            rw [ha, decide_eq_true rfl, Bool.or_true, show decide (j < j + 1) = true from decide_eq_true (by omega)]
            rfl
          · rw [decide_eq_false hjk, Bool.or_false, show decide (j < k) = decide (j < k + 1) from decide_eq_decide.mpr (by omega)]
        · rw [if_neg ha, c2 j hj]
          by_cases hjk : j = k
          · subst hjk
            rw [show e_an (fun i => e_mt u i j) i = false from Bool.eq_false_iff.mpr ha, Bool.and_false, Bool.and_false]
          · rw [show decide (j < k) = decide (j < k + 1) from decide_eq_decide.mpr (by omega)]) ⟨rfl, fun j hj => by
            have : ∀ j, j < 32 → e_g 0 j = false := by decide
            dsimp only
            rw [this j hj, show decide (j < 0) = false from decide_eq_false (by omega), Bool.false_and]⟩
      obtain ⟨w1, w2⟩ := w
      dsimp only at c1 c2
      subst c1
      have hall : e_an (e_hk u) i = true := (e_an_t i).mpr h2
      by_cases h0 : w1 = 0
      · refine ⟨(w1, G), ?_, Or.inl ⟨hall, c2, fun _ => rfl, fun h => absurd h0 h⟩⟩
        rw [c3, s_lp_out (r := (w1, G)) ?_]
        · rfl
        · dsimp only
          unfold fM_laws_130_64
          rw [if_pos (show (9 : Int32) < Int32.ofNat 10 by decide), if_pos h0, h0]
          rfl
      · obtain ⟨g', a1, a2, a3⟩ := e_mWatch (g := G) (x := w1)
        refine ⟨(w1, g'), ?_, Or.inl ⟨hall, c2, fun h => absurd h h0, fun _ => ⟨a2, a3⟩⟩⟩
        rw [c3, s_lp_out (r := (w1, g')) ?_]
        · rfl
        · dsimp only
          unfold fM_laws_130_64
          rw [if_pos (show (9 : Int32) < Int32.ofNat 10 by decide), if_neg h0, a1]
          rfl
  · exact ⟨0, by omega, rfl, fun i' h => absurd h (by omega)⟩
theorem e_pos10 {x : Int32} {u : Nat → Nat} {m : Nat} (h : ∀ j, j < 32 → e_g x j = e_lb u m j) : (0 < x) ↔ ¬ x = 0 := by
  have hx : ∃ s, s < 1024 ∧ x = Int32.ofNat s := by
    refine ⟨x.toBitVec.toNat, ?_, ?_⟩
    · apply Nat.lt_pow_two_of_testBit (n := 10)
      intro i hi
      by_cases h32 : i < 32
      · have := h i h32
        unfold e_lb at this
        rw [decide_eq_false (by omega), Bool.false_and] at this
        exact this
      · apply Nat.testBit_lt_two_pow
        calc x.toBitVec.toNat < 2 ^ 32 := x.toBitVec.isLt
          _ ≤ 2 ^ i := Nat.pow_le_pow_right (by omega) (by omega)
    · apply Int32.toBitVec_inj.mp
      rw [Int32.toBitVec_ofNat']
      apply BitVec.eq_of_toNat_eq
      rw [BitVec.toNat_ofNat, Nat.mod_eq_of_lt x.toBitVec.isLt]
  obtain ⟨s, hs, rfl⟩ := hx
  constructor
  · intro h0 h1
    rw [h1] at h0
    exact absurd h0 (by decide)
  · intro h0
    exact e_T (a := 0) (e_ne0 (by omega) h0) (by omega)
theorem k_laws {g : s_G} (h : e_I g) : e_k1 (fC_laws_0 g) fM_laws_130 := by
  obtain ⟨hR, nb, ne, n, p, hs, hJ⟩ := id h
  obtain ⟨⟨N, hN, t1, t2⟩, hby⟩ := hR.1.1
  -- what the tape's end leaves
  have fin : ∀ (x w : Int32) (g2 : s_G), e_wa x w → (∀ a, ¬ a = 1 ∧ ¬ a = 127 ∧ ¬ a = 130 ∧ ¬ a = 147 → g2.1 a = g.1 a) → g2.1 127 0 = x → g2.1 130 34 = w → (∀ k, ¬ k = 0 ∧ ¬ k = 2 ∧ ¬ k = 34 → g2.1 130 k = g.1 130 k) → g2.1 130 2 = 0 → g2.1 1 1 = 0 → g2.2 = g.2 → e_I g2 := by
    intro x w g2 hw q e1 e2 o130 e3 e4 h2
    have o0 : ∀ k, k < 1000 → g2.1 0 k = g.1 0 k := fun k _ => by rw [q 0 (by omega)]
    have o122 : ∀ k, k < 1000 → g2.1 122 k = g.1 122 k := fun k _ => by rw [q 122 (by omega)]
    have hl : e_lr g g2 := e_lr.of h2
    refine ⟨?_, nb, ne, n, p, hs, e_J_cg hJ (fun a ha => q a (by omega)) (o130 25 (by omega)) h2⟩
    refine ⟨⟨?_, ?_⟩, ⟨?_, ?_, ?_⟩, ⟨?_, ?_, ?_⟩, ⟨?_, ?_⟩, ?_⟩
    · rw [e4, e3, q 2 (by omega), q 131 (by omega)]; exact ⟨⟨0, by omega, rfl, rfl⟩, hby⟩
    · rw [o0 1 (by omega), o130 10 (by omega)]; exact hR.1.2
    · rw [o122 1 (by omega), q 123 (by omega), q 144 (by omega), o130 28 (by omega)]; exact hR.2.1.1
    · rw [o122 3 (by omega), q 124 (by omega), q 145 (by omega), o130 30 (by omega), o130 31 (by omega)]; exact hR.2.1.2.1
    · rw [o122 4 (by omega), o130 32 (by omega)]; exact hR.2.1.2.2
    · rw [e1, e2]; exact hw
    · rw [o0 15 (by omega), q 129 (by omega), q 148 (by omega), o130 37 (by omega)]; exact hR.2.2.1.2.1
    · rw [q 37 (by omega), q 150 (by omega), o130 42 (by omega)]; exact hR.2.2.1.2.2
    · exact e_im_cg hR.2.2.2.1.1 (by omega) (fun a _ _ => q a (by omega)) (q 134 (by omega)) (q 140 (by omega)) hl.1.1 hl.1.2.2 hl.2.1
    · exact e_im_cg hR.2.2.2.1.2 (by omega) (fun a _ _ => q a (by omega)) (q 134 (by omega)) (q 140 (by omega)) hl.1.2.1 hl.1.2.2 hl.2.2.1
    · rw [hl.2.2.2]; exact hR.2.2.2.2
  have hB : ∀ G : s_G, (G.1 130 2 = Int32.ofNat N) → ((N % 3 = 0 ∧ 1 ≤ N / 3 ∧ N / 3 ≤ 6) → fM_laws_130 G = s_lp (fun (x : Int32) => fM_laws_130_32 (Int32.ofNat N) x (s_si (s_si G 130 0 0) 130 2 0)) 0) ∧ (¬ (N % 3 = 0 ∧ 1 ≤ N / 3 ∧ N / 3 ≤ 6) → fM_laws_130 G = some (-1, s_si (s_si G 130 0 0) 130 2 0)) := by
    intro G hG
    unfold fM_laws_130 fM_take_130
    rw [s_b2_s, e_sS, e_vn _ _ (by omega), hG, show (3 : Int32) = Int32.ofNat 3 from rfl, e_mod (by omega) (by omega), ← Int32.ofNat_div (by omega) (by omega), show (6 : Int32) = Int32.ofNat 6 from rfl, e_isIn_1 (by omega), s_b1_s]
    constructor
    · intro hc
      rw [if_pos (show Int32.ofNat (N % 3) = 0 by rw [hc.1]; rfl), if_neg (by rw [e_bi_t ⟨show ¬ Int32.ofNat (N / 3) < 1 from e_F (b := 1) (by omega) (by omega), e_F (by omega) (by omega)⟩]; decide)]
    · intro hc
      by_cases h3 : N % 3 = 0
      · rw [if_pos (show Int32.ofNat (N % 3) = 0 by rw [h3]; rfl), if_pos (e_bi_f ?_)]
        intro hq
        apply hc
        refine ⟨h3, ?_, ?_⟩
        · exact Classical.byContradiction (fun hc => hq.1 (show Int32.ofNat (N / 3) < 1 from e_T (b := 1) (by omega) (by omega)))
        · exact Classical.byContradiction (fun hc => hq.2 (e_T (by omega) (by omega)))
      · rw [if_neg (show ¬ Int32.ofNat (N % 3) = 0 from fun hq => h3 (e_in (b := 0) (by omega) (by omega) hq))]
  by_cases hc : N % 3 = 0 ∧ 1 ≤ N / 3 ∧ N / 3 ≤ 6
  · have hN3 : N = 3 * (N / 3) := by omega
    have hu : ∀ k, k < 940 → (g.1 131 k).toNatClampNeg < 256 ∧ g.1 131 k = Int32.ofNat (g.1 131 k).toNatClampNeg ∧ g.1 2 k &&& 255 = Int32.ofNat (g.1 131 k).toNatClampNeg := by
      intro k hk
      obtain ⟨v, hv, e1, e2⟩ := hby k hk
      rw [e1, e2, e_nt (by omega), e_by_and v hv]
      exact ⟨hv, rfl, rfl⟩
    obtain ⟨r, a1, a2⟩ := e_laws_C (g := g) (u := fun k => (g.1 131 k).toNatClampNeg) (m := N / 3) (fun k hk => ⟨(hu k hk).1, (hu k hk).2.2⟩) hc.2.1 hc.2.2 (by rw [t1, ← hN3])
    have g1f : ∀ a, ¬ a = 1 ∧ ¬ a = 127 → (s_si r.2 1 1 0).1 a = g.1 a := by
      intro a ha
      rw [e_sN ha.1]
      rcases a2 with ⟨_, _, h3⟩ | ⟨_, h3⟩
      · rw [h3]
        split
        · rw [e_sN ha.2]
        · rfl
      · rw [h3]
    have g1l : (s_si r.2 1 1 0).2 = g.2 := by
      show r.2.2 = g.2
      rcases a2 with ⟨_, _, h3⟩ | ⟨_, h3⟩
      · rw [h3]
        split <;> rfl
      · rw [h3]
    have g11 : (s_si r.2 1 1 0).1 1 1 = 0 := by rw [e_sS, e_ve]
    generalize hg1 : s_si r.2 1 1 0 = g1 at g1f g1l g11
    have hF : fC_laws_0 g = some (r.1, g1) := by
      unfold fC_laws_0
      rw [a1, ← hg1]
      rfl
    have e130 : g1.1 130 = g.1 130 := g1f 130 (by omega)
    have hGf : ∀ a, ¬ a = 130 → (s_si (s_si g1 130 0 0) 130 2 0).1 a = g1.1 a := fun a ha => by rw [e_sN ha, e_sN ha]
    have hG130 : (s_si (s_si g1 130 0 0) 130 2 0).1 130 = va_up (va_up (g.1 130) 0 0) 2 0 := by rw [e_sS, e_sS, e130]
    have hMe := (hB g1 (by rw [e130]; exact t2)).1 hc
    generalize hGG : s_si (s_si g1 130 0 0) 130 2 0 = G at hGf hG130 hMe
    have hG2 : G.2 = g1.2 := by rw [← hGG]; rfl
    obtain ⟨r', b1, b2⟩ := e_laws_M (G := G) (u := fun k => (g.1 131 k).toNatClampNeg) (m := N / 3) (fun k hk => ⟨(hu k hk).1, by rw [hGf 131 (by omega), g1f 131 (by omega)]; exact (hu k hk).2.1⟩) hc.2.1 hc.2.2
    rw [hN3] at hMe
    rw [b1] at hMe
    rcases a2 with ⟨p1, p2, p3⟩ | ⟨p1, p3⟩
    · rcases b2 with ⟨_, q2, q3, q4⟩ | ⟨q1, _⟩
      · have hrr : r'.1 = r.1 := e_g_ext (fun j hj => by rw [p2 j hj, q2 j hj])
        refine ⟨r.1, g1, r'.2, hF, by rw [hMe, ← hrr], ?_⟩
        by_cases h0 : r.1 = 0
        · have e2 := q3 (by rw [hrr]; exact h0)
          have e127 : g1.1 127 = g.1 127 := by rw [← hg1, e_sN (by omega), p3, if_neg (fun hp => (e_pos10 p2).mp hp h0)]
          rw [e2]
          refine fin (g.1 127 0) (g.1 130 34) G hR.2.2.1.1 (fun a ha => by rw [hGf a ha.2.2.1, g1f a ⟨ha.1, ha.2.1⟩]) (by rw [hGf 127 (by omega), e127]) (by rw [hG130, e_vn _ _ (by omega), e_vn _ _ (by omega)]) (fun k hk => by rw [hG130, e_vn _ _ hk.2.1, e_vn _ _ hk.1]) (by rw [hG130, e_ve]) (by rw [hGf 1 (by omega)]; exact g11) (hG2.trans g1l)
        · obtain ⟨e2, e3⟩ := q4 (by rw [hrr]; exact h0)
          have e127 : g1.1 127 0 = r.1 := by rw [← hg1, e_sN (by omega), p3, if_pos ((e_pos10 p2).mpr h0), e_sS, e_ve]
          refine fin r.1 (Int32.ofNat (e_am (e_W (e_g r.1)) 40)) r'.2 (fun G' hG' => ?_) (fun a ha => by rw [e3.1 a ⟨ha.2.2.1, ha.2.2.2⟩, hGf a ha.2.2.1, g1f a ⟨ha.1, ha.2.1⟩]) (by rw [e3.1 127 (by omega), hGf 127 (by omega), e127]) (by rw [e2, e_ve, hrr]) (fun k hk => by rw [e2, e_vn _ _ hk.2.2, hG130, e_vn _ _ hk.2.1, e_vn _ _ hk.1]) (by rw [e2, e_vn _ _ (by omega), hG130, e_ve]) (by rw [e3.1 1 (by omega), hGf 1 (by omega)]; exact g11) (e3.2.trans (hG2.trans g1l))
          rw [← hG']
          exact e_findWatch (by rw [hG']; exact h0)
      · exact absurd p1 q1
    · rcases b2 with ⟨q1, _⟩ | ⟨_, q3⟩
      · exact absurd q1 p1
      · refine ⟨r.1, g1, r'.2, hF, by rw [hMe, q3, p3], ?_⟩
        rw [q3]
        have e127 : g1.1 127 = g.1 127 := by rw [← hg1, e_sN (by omega), p3]
        exact fin (g.1 127 0) (g.1 130 34) G hR.2.2.1.1 (fun a ha => by rw [hGf a ha.2.2.1, g1f a ⟨ha.1, ha.2.1⟩]) (by rw [hGf 127 (by omega), e127]) (by rw [hG130, e_vn _ _ (by omega), e_vn _ _ (by omega)]) (fun k hk => by rw [hG130, e_vn _ _ hk.2.1, e_vn _ _ hk.1]) (by rw [hG130, e_ve]) (by rw [hGf 1 (by omega)]; exact g11) (hG2.trans g1l)
  · have hF : fC_laws_0 g = some (-1, s_si g 1 1 0) := by
      unfold fC_laws_0 fL_findLaws_127_1
      rw [t1]
      by_cases h3 : N < 3
      · rw [if_pos (show Int32.ofNat N < 3 from e_T (b := 3) h3 (by omega))]
        rfl
      · rw [if_neg (show ¬ Int32.ofNat N < 3 from e_F (b := 3) (by omega) (by omega))]
        by_cases h18 : 18 < N
        · rw [if_pos (show 18 < Int32.ofNat N from e_T (a := 18) h18 (by omega))]
          rfl
        · rw [if_neg (show ¬ 18 < Int32.ofNat N from e_F (a := 18) (by omega) (by omega)), show (3 : Int32) = Int32.ofNat 3 from rfl, e_mod (by omega) (by omega), if_neg (show ¬ Int32.ofNat (N % 3) = 0 from fun hq => hc ⟨e_in (b := 0) (by omega) (by omega) hq, by omega, by omega⟩)]
          rfl
    refine ⟨-1, _, _, hF, (hB _ (by rw [e_sN (by omega)]; exact t2)).2 hc, ?_⟩
    refine fin (g.1 127 0) (g.1 130 34) _ hR.2.2.1.1 (fun a ha => by rw [e_sN ha.2.2.1, e_sN ha.2.2.1, e_sN ha.1]) (by rw [e_sN (by omega), e_sN (by omega), e_sN (by omega)]) (by rw [e_sS, e_vn _ _ (by omega), e_sS, e_vn _ _ (by omega), e_sN (by omega)]) (fun k hk => by rw [e_sS, e_vn _ _ hk.2.1, e_sS, e_vn _ _ hk.1, e_sN (by omega)]) (by rw [e_sS, e_ve]) (by rw [e_sN (by omega), e_sN (by omega), e_sS, e_ve]) rfl
