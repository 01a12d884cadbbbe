-- SIMPLE CALLS
theorem e_su_z {h : Nat → Int32} {a m : Nat} : ∀ n, m ≤ n → (∀ k, m ≤ k → k < n → h (a + k) = 0) → e_su h a n = e_su h a m := by
  intro n
  induction n with
  | zero => intro h1 _; rw [show m = 0 by omega]
  | succ n ih =>
    intro h1 h2
    by_cases hq : m = n + 1
    · rw [hq]
    · rw [e_su, ih (by omega) (fun k h3 h4 => h2 k h3 (by omega)), h2 n (by omega) (by omega), Int32.add_zero]
theorem e_su_app {h : Nat → Int32} {a m : Nat} : ∀ n, e_su h a (m + n) = e_su h a m + e_su h (a + m) n := by
  intro n
  induction n with
  | zero => rw [e_su, Int32.add_zero]; rfl
  | succ n ih => rw [show m + (n + 1) = (m + n) + 1 by omega, e_su, ih, e_su, Int32.add_assoc, show a + (m + n) = a + m + n by omega]
theorem e_i1 {α : Type} {a b : α} : (if (1 : Int32) = 0 then a else b) = b := if_neg (by decide)
theorem e_i0 {α : Type} {a b : α} : (if (0 : Int32) = 0 then a else b) = a := if_pos rfl
theorem e_su_70 {f : Nat → Int32} : ∀ m, e_su f 63 (10 * m) = e_su (e_ld f) 0 m := by
  intro m
  induction m with
  | zero => rfl
  | succ m ih => rw [show 10 * (m + 1) = 10 * m + 10 by omega, e_su_app, ih]; show _ = e_su (e_ld f) 0 m + e_ld f (0 + m); rw [Nat.zero_add]; rfl
theorem e_ld_z {nb ne b : Nat} {f : Nat → Int32} (hS : e_SW nb ne f) (h1 : nb ≤ b) (h2 : b < 7) : e_ld f b = 0 := by
  unfold e_ld
  rw [e_su_z (m := 0) 10 (by omega) (fun k _ hk => hS.2.1 b k h2 hk (Or.inl h1))]
  rfl
noncomputable def e_ovs (f : Nat → Int32) : Nat → Int32
  | 0 => 0
  | n + 1 => if e_bi (e_ov f n) = 0 then e_ovs f n else e_ovs f n ||| ((1 : Int32) <<< (Int32.ofNat n &&& 31))
theorem e_overs {g : s_G} {n : Nat} (hn : n ≤ 7) (h : g.1 132 0 = Int32.ofNat n) : fM_overs_130 g = some (e_ovs (g.1 132) n) := by
  unfold fM_overs_130
  refine e_seq2 (fun k => (e_ovs (g.1 132) k, Int32.ofNat k)) n rfl ?_ ?_
  · intro k hk
    dsimp only
    unfold fM_overs_130_4
    rw [h, if_pos (e_T hk (by omega)), e_isOver (by omega), s_b1_s, e_inc]
    conv => rhs; unfold e_ovs
    split <;> rfl
  · dsimp only
    unfold fM_overs_130_4
    rw [h, if_neg (e_F (Nat.le_refl n) (by omega))]
    rfl
def e_evb (f : Nat → Int32) (b : Nat) : Nat → Int32
  | 0 => 0
  | n + 1 => if 0 < f (63 + 10 * b + n) then e_evb f b n ||| ((1 : Int32) <<< (Int32.ofNat n &&& 31)) else e_evb f b n
theorem e_evb_z {nb ne b : Nat} {f : Nat → Int32} (hS : e_SW nb ne f) (hb : b < 7) : ∀ n, ne ≤ n → n ≤ 10 → e_evb f b n = e_evb f b ne := by
  intro n
  induction n with
  | zero => intro h1 _; rw [show ne = 0 by omega]
  | succ n ih =>
    intro h1 h2
    by_cases hq : ne = n + 1
    · rw [hq]
    · rw [e_evb, hS.2.1 b n hb (by omega) (Or.inr (by omega)), if_neg (by decide)]
      exact ih (by omega) (by omega)
/-- the happening of which most is on one: it, and how much -/
def e_hv (f : Nat → Int32) (b : Nat) : Nat → Int32 × Int32
  | 0 => (-1, 0)
  | n + 1 => if (e_hv f b n).2 < f (63 + 10 * b + n) then (Int32.ofNat n, f (63 + 10 * b + n)) else e_hv f b n

theorem e_overBits_17 {g : s_G} {f : Nat → Int32} {nb ne : Nat} (hC : e_C3 nb ne g f) (hH : e_HW nb ne f) (hT : e_T17 g f) : fT_overBits_17 g = some (e_ovs f nb) := by
  have hn := hH.1.1
  unfold fT_overBits_17
  have h : g.1 3 0 = Int32.ofNat nb := by rw [hC.1.1, hH.1.2]
  refine e_seq2 (fun k => (e_ovs f k, Int32.ofNat k)) nb rfl ?_ ?_
  · intro k hk
    dsimp only
    unfold fT_overBits_17_4
    rw [h, if_pos (e_T hk (by omega)), e_isOver_17 hC hH hT hk, s_b1_s, e_inc]
    conv => rhs; unfold e_ovs
    split <;> rfl
  · dsimp only
    unfold fT_overBits_17_4
    rw [h, if_neg (e_F (Nat.le_refl nb) (by omega))]
    rfl
theorem e_heaviest_17 {g : s_G} {f : Nat → Int32} {nb ne b : Nat} (hC : e_C3 nb ne g f) (hH : e_HW nb ne f) (hT : e_T17 g f) (hb : b < 7) : fT_heaviest_17 (Int32.ofNat b) g = some (e_hv f b ne).1 := by
  have hn := hH.2.1.1
  unfold fT_heaviest_17
  have h : g.1 3 1 = Int32.ofNat ne := by rw [hC.1.2.1, hH.2.1.2]
  refine e_seq2 (fun k => ((e_hv f b k).1, (e_hv f b k).2, Int32.ofNat k)) ne rfl ?_ ?_
  · intro k hk
    dsimp only
    unfold fT_heaviest_17_7
    rw [h, if_pos (e_T hk (by omega)), e_onBoy_17 hT hb (by omega), s_b1_s, s_b1_s, e_inc]
    conv => rhs; unfold e_hv
    split <;> rfl
  · dsimp only
    unfold fT_heaviest_17_7
    rw [h, if_neg (e_F (Nat.le_refl ne) (by omega))]
    rfl

theorem e_overBits_22 {g : s_G} {f : Nat → Int32} {nb ne : Nat} (hC : e_C3 nb ne g f) (hH : e_HW nb ne f) (hT : e_T22 g f) : fT_overBits_22 g = some (e_ovs f nb) := by
  have hn := hH.1.1
  unfold fT_overBits_22
  have h : g.1 3 0 = Int32.ofNat nb := by rw [hC.1.1, hH.1.2]
  refine e_seq2 (fun k => (e_ovs f k, Int32.ofNat k)) nb rfl ?_ ?_
  · intro k hk
    dsimp only
    unfold fT_overBits_22_4
    rw [h, if_pos (e_T hk (by omega)), e_isOver_22 hC hH hT hk, s_b1_s, e_inc]
    conv => rhs; unfold e_ovs
    split <;> rfl
  · dsimp only
    unfold fT_overBits_22_4
    rw [h, if_neg (e_F (Nat.le_refl nb) (by omega))]
    rfl
theorem e_heaviest_22 {g : s_G} {f : Nat → Int32} {nb ne b : Nat} (hC : e_C3 nb ne g f) (hH : e_HW nb ne f) (hT : e_T22 g f) (hb : b < 7) : fT_heaviest_22 (Int32.ofNat b) g = some (e_hv f b ne).1 := by
  have hn := hH.2.1.1
  unfold fT_heaviest_22
  have h : g.1 3 1 = Int32.ofNat ne := by rw [hC.1.2.1, hH.2.1.2]
  refine e_seq2 (fun k => ((e_hv f b k).1, (e_hv f b k).2, Int32.ofNat k)) ne rfl ?_ ?_
  · intro k hk
    dsimp only
    unfold fT_heaviest_22_7
    rw [h, if_pos (e_T hk (by omega)), e_onBoy_22 hT hb (by omega), s_b1_s, s_b1_s, e_inc]
    conv => rhs; unfold e_hv
    split <;> rfl
  · dsimp only
    unfold fT_heaviest_22_7
    rw [h, if_neg (e_F (Nat.le_refl ne) (by omega))]
    rfl

theorem e_eventBits_17 {g : s_G} {f : Nat → Int32} {nb ne b : Nat} (hC : e_C3 nb ne g f) (hH : e_HW nb ne f) (hT : e_T17 g f) (hb : b < 7) : fT_eventBits_17 (Int32.ofNat b) g = some (e_evb f b ne) := by
  have hn := hH.2.1.1
  unfold fT_eventBits_17
  have h : g.1 3 1 = Int32.ofNat ne := by rw [hC.1.2.1, hH.2.1.2]
  refine e_seq2 (fun k => (e_evb f b k, Int32.ofNat k)) ne rfl ?_ ?_
  · intro k hk
    dsimp only
    unfold fT_eventBits_17_4
    rw [h, if_pos (e_T hk (by omega)), e_onBoy_17 hT hb (by omega), s_b1_s, e_inc]
    conv => rhs; unfold e_evb
    split <;> rfl
  · dsimp only
    unfold fT_eventBits_17_4
    rw [h, if_neg (e_F (Nat.le_refl ne) (by omega))]
    rfl
theorem e_leftOf_17 {g : s_G} {f : Nat → Int32} {nb ne e : Nat} (hC : e_C3 nb ne g f) (hH : e_HW nb ne f) (hT : e_T17 g f) (he : e < 10) : fT_leftOf_17 (Int32.ofNat e) g = some (e_su (fun b => f (63 + 10 * b + e)) 0 nb) := by
  have hn := hH.1.1
  unfold fT_leftOf_17
  have h : g.1 3 0 = Int32.ofNat nb := by rw [hC.1.1, hH.1.2]
  refine e_seq2 (fun k => (e_su (fun b => f (63 + 10 * b + e)) 0 k, Int32.ofNat k)) nb rfl ?_ ?_
  · intro k hk
    dsimp only
    unfold fT_leftOf_17_4
    rw [h, if_pos (e_T hk (by omega)), e_onBoy_17 hT (by omega) he, s_b1_s, e_inc]
    conv => rhs; unfold e_su
    rw [Nat.zero_add]
  · dsimp only
    unfold fT_leftOf_17_4
    rw [h, if_neg (e_F (Nat.le_refl nb) (by omega))]
    rfl
theorem e_allLoads_17 {g : s_G} {f : Nat → Int32} {nb ne : Nat} (hC : e_C3 nb ne g f) (hH : e_HW nb ne f) (hT : e_T17 g f) : fT_allLoads_17 g = some (e_su (e_ld f) 0 nb) := by
  have hn := hH.1.1
  unfold fT_allLoads_17
  have h : g.1 3 0 = Int32.ofNat nb := by rw [hC.1.1, hH.1.2]
  refine e_seq2 (fun k => (e_su (e_ld f) 0 k, Int32.ofNat k)) nb rfl ?_ ?_
  · intro k hk
    dsimp only
    unfold fT_allLoads_17_4
    rw [h, if_pos (e_T hk (by omega)), e_ix (by omega) (by omega), s_b1_s, e_inc, hT.2.2.1 k (by omega)]
    conv => rhs; unfold e_su
    rw [Nat.zero_add]
  · dsimp only
    unfold fT_allLoads_17_4
    rw [h, if_neg (e_F (Nat.le_refl nb) (by omega))]
    rfl
-- a call: the class's answer and heap, and the reference's behind it
def e_k0 (F : Option Int32) (g : s_G) (G : s_G → Option (Int32 × s_G)) : Prop := ∃ v g2, F = some v ∧ G g = some (v, g2) ∧ e_I g2
def e_k1 (F : Option (Int32 × s_G)) (G : s_G → Option (Int32 × s_G)) : Prop := ∃ v g1 g2, F = some (v, g1) ∧ G g1 = some (v, g2) ∧ e_I g2
theorem e_I.jc {nb ne n p : Nat} {hs : Nat → Nat → Int32} {g : s_G} (h : e_J nb ne n p hs g) : e_HW nb ne (g.1 132) ∧ e_C3 nb ne g (g.1 132) ∧ e_T17 g (g.1 132) ∧ e_SW nb ne (g.1 132) := ⟨h.1.1, h.1.2.1, h.1.2.2.2.1, h.1.2.2.2.2.1⟩
theorem k_fault {g : s_G} (h : e_I g) : e_k0 (fC_fault_0 g) g fM_fault_130 := ⟨g.1 130 10, _, by unfold fC_fault_0; rw [h.1.1.2], rfl, e_I_0 h 0⟩
theorem k_saying {g : s_G} (h : e_I g) : e_k0 (fC_saying_0 g) g fM_saying_130 := ⟨g.1 130 32, _, by unfold fC_saying_0; rw [h.1.2.1.2.2], rfl, e_I_0 h 0⟩
theorem e_rw_k {N : Nat} {l m : Int32} {x y : Nat → Int32} {g : s_G} {k : Int32} (hN : N ≤ 1000) (h : e_rw N l m x y) : ∃ v, (if k < 0 then some (-1 : Int32) else if k < l then s_b1 (s_ix N k) fun j => some (x j) else some (-1)) = some v ∧ ∀ G : s_G, (s_b1 (fM_isIn_s k 0 (m - 1) g) fun v1 => if v1 = 0 then some ((-1 : Int32), G) else s_b1 (s_ix N k) fun j => some (y j, G)) = some (v, G) := by
  obtain ⟨n, hn, rfl, rfl, hk⟩ := h
  rw [e_isIn_0 (by omega)]
  by_cases hs : e_hs n k
  · obtain ⟨j, hj, rfl⟩ := e_hs_k (by omega) hs
    refine ⟨x j, ?_, fun G => ?_⟩
    · rw [if_neg (e_nn (by omega)), if_pos (e_T hj (by omega)), e_ix (by omega) (by omega), s_b1_s]
    · rw [s_b1_s, e_bi_t hs, e_i1, e_ix (by omega) (by omega), s_b1_s, hk j hj]
  · refine ⟨-1, ?_, fun G => ?_⟩
    · by_cases h0 : k < 0
      · rw [if_pos h0]
      · rw [if_neg h0, if_neg (fun h1 => hs ⟨h0, h1⟩)]
    · rw [s_b1_s, e_bi_f hs, e_i0]
theorem k_bestAt {g : s_G} (h : e_I g) (k : Int32) : e_k0 (fC_bestAt_0 k g) g (fM_bestAt_130 k) := by
  obtain ⟨v, h1, h2⟩ := e_rw_k (g := s_si g 130 0 0) (k := k) (by omega) h.1.2.1.1
  exact ⟨v, _, h1, h2 _, e_I_0 h 0⟩
theorem k_byteAt {g : s_G} (h : e_I g) (k : Int32) : e_k0 (fC_byteAt_0 k g) g (fM_byteAt_130 k) := by
  obtain ⟨v, h1, h2⟩ := e_rw_k (g := s_si g 130 0 0) (k := k) (by omega) h.1.2.2.1.2.1
  exact ⟨v, _, h1, h2 _, e_I_0 h 0⟩
theorem k_spreadOf {g : s_G} (h : e_I g) (k : Int32) : e_k0 (fC_spreadOf_0 k g) g (fM_spreadOf_130 k) := by
  rcases h.1.2.1.2.1 with ⟨h0, h1⟩ | ⟨h0, h1⟩
  · refine ⟨-1, _, ?_, ?_, e_I_0 h 0⟩
    · unfold fC_spreadOf_0
      rw [h1]
      by_cases hk : k < 0
      · rw [if_pos hk]
      · rw [if_neg hk, if_neg hk]
    · unfold fM_spreadOf_130
      rw [if_pos h0]
  · obtain ⟨v, h2, h3⟩ := e_rw_k (g := s_si g 130 0 0) (k := k) (by omega) h1
    refine ⟨v, _, h2, ?_, e_I_0 h 0⟩
    unfold fM_spreadOf_130
    rw [if_neg h0]
    exact h3 _
theorem k_told {g : s_G} (h : e_I g) (k : Int32) : e_k0 (fC_told_0 k g) g (fM_told_130 k) := by
  unfold e_k0 fC_told_0 fM_told_130
  rcases h.1.2.2.1.2.2 with ⟨h0, h1⟩ | ⟨h0, h1, h2⟩
  · rw [if_pos h0, if_pos h1]
    exact ⟨-1, _, rfl, rfl, e_I_0 h 0⟩
  · have h3 := h2 0 (by omega)
    have h4 := h2 1 (by omega)
    have h5 := h2 2 (by omega)
    have h6 := h2 3 (by omega)
    rw [if_neg (by rw [h0]; decide), if_neg h1, show (3 : Int32) = Int32.ofNat 4 - 1 from rfl, e_isIn_0 (by omega), s_b1_s]
    by_cases hs : e_hs 4 k
    · obtain ⟨j, hj, rfl⟩ := e_hs_k (by omega) hs
      rw [e_bi_t hs, e_i1, e_ix (by omega) (by omega), s_b1_s]
      refine ⟨_, _, ?_, rfl, e_I_0 h 0⟩
      have : j = 0 ∨ j = 1 ∨ j = 2 ∨ j = 3 := by omega
      rcases this with rfl | rfl | rfl | rfl
      · rw [if_pos (by decide)]; exact congrArg some h3
      · rw [if_neg (by decide), if_pos (by decide)]; exact congrArg some h4
      · rw [if_neg (by decide), if_neg (by decide), if_pos (by decide)]; exact congrArg some h5
      · rw [if_neg (by decide), if_neg (by decide), if_neg (by decide), if_pos (by decide)]; exact congrArg some h6
    · rw [e_bi_f hs, e_i0]
      refine ⟨-1, _, ?_, rfl, e_I_0 h 0⟩
      have q : ∀ j, j < 4 → ¬ k = Int32.ofNat j := fun j hj hq => hs (by rw [hq]; exact e_hs_of (by omega) hj)
      rw [if_neg (show ¬ k = 0 from q 0 (by omega)), if_neg (show ¬ k = 1 from q 1 (by omega)), if_neg (show ¬ k = 2 from q 2 (by omega)), if_neg (show ¬ k = Int32.ofNat 4 - 1 from q 3 (by omega))]
theorem k_count {g : s_G} (h : e_I g) (k : Int32) : e_k0 (fC_count_0 k g) g (fM_count_130 k) := by
  obtain ⟨hR, nb, ne, n, p, hs, hJ⟩ := id h
  obtain ⟨hH, hC, hT, hS⟩ := e_I.jc hJ
  obtain ⟨⟨m, hm, t1, t2⟩, _⟩ := hR.1.1
  unfold e_k0 fC_count_0 fM_count_130
  rw [hC.1.1, hC.1.2.1, hC.1.2.2.2.2.1, hC.1.2.2.2.2.2, t1, t2]
  refine ⟨if k = 0 then g.1 132 0 else if k = 1 then g.1 132 1 else if k = 2 then g.1 132 4 else if k = 3 then g.1 132 5 else if k = 4 then Int32.ofNat m else -1, _, ?_, ?_, e_I_0 h 0⟩
  · repeat (split; · rfl)
    rfl
  · repeat (split; · rfl)
    rfl
theorem k_takes {g : s_G} (h : e_I g) (k : Int32) : e_k0 (fC_takes_0 k g) g (fM_takes_130 k) := by
  obtain ⟨hR, nb, ne, n, p, hs, hJ⟩ := id h
  obtain ⟨hH, hC, hT, hS⟩ := e_I.jc hJ
  unfold e_k0 fC_takes_0 fM_takes_130 fM_isOneKind_130
  rw [show (3 : Int32) = Int32.ofNat 4 - 1 from rfl, e_isIn_0 (by omega), s_b1_s, if_pos (e_bi_ok _), s_b1_s]
  by_cases hk : e_hs 4 k
  · obtain ⟨j, hj, rfl⟩ := e_hs_k (by omega) hk
    rw [e_bi_t hk, e_i1, if_neg (e_nn (by omega)), if_pos (show Int32.ofNat j < 4 from e_T (b := 4) hj (by omega)), e_wouldTake_17 hC hT hj, s_b1_s]
    refine ⟨_, _, rfl, ?_, e_I_0 h 0⟩
    unfold fM_takesOf_130
    simp (disch := omega) only [e_6, ← Int32.ofNat_add, e_ix, s_b1_s]
    rw [e_sN (by omega)]
  · rw [e_bi_f hk, e_i0]
    refine ⟨-1, _, ?_, rfl, e_I_0 h 0⟩
    by_cases h0 : k < 0
    · rw [if_pos h0]
    · rw [if_neg h0, if_neg (show ¬ k < 4 from fun h1 => hk ⟨h0, h1⟩)]
theorem k_ashes {g : s_G} (h : e_I g) (k : Int32) : e_k0 (fC_ashes_0 k g) g (fM_ashes_130 k) := by
  obtain ⟨hR, nb, ne, n, p, hs, hJ⟩ := id h
  obtain ⟨hH, hC, hT, hS⟩ := e_I.jc hJ
  unfold e_k0 fC_ashes_0 fM_ashes_130 fM_isOneKind_130
  rw [show (3 : Int32) = Int32.ofNat 4 - 1 from rfl, e_isIn_0 (by omega), s_b1_s, if_pos (e_bi_ok _), s_b1_s]
  by_cases hk : e_hs 4 k
  · obtain ⟨j, hj, rfl⟩ := e_hs_k (by omega) hk
    rw [e_bi_t hk, e_i1, if_neg (e_nn (by omega)), if_pos (show Int32.ofNat j < 4 from e_T (b := 4) hj (by omega)), e_ix (by omega) (by omega), s_b1_s]
    simp (disch := omega) only [e_52, ← Int32.ofNat_add, e_ix, s_b1_s]
    refine ⟨_, _, rfl, ?_, e_I_0 h 0⟩
    rw [hT.2.2.2.1 j hj]
  · rw [e_bi_f hk, e_i0]
    refine ⟨-1, _, ?_, rfl, e_I_0 h 0⟩
    by_cases h0 : k < 0
    · rw [if_pos h0]
    · rw [if_neg h0, if_neg (show ¬ k < 4 from fun h1 => hk ⟨h0, h1⟩)]
theorem k_on {g : s_G} (h : e_I g) (x y : Int32) : e_k0 (fC_on_0 x y g) g (fM_on_130 x y) := by
  obtain ⟨hR, nb, ne, n, p, hs, hJ⟩ := id h
  obtain ⟨hH, hC, hT, hS⟩ := e_I.jc hJ
  have hn := hH.1.1
  have hm := hH.2.1.1
  unfold e_k0 fC_on_0 fM_on_130
  rw [e_hasEvent_3 (n := ne) (by rw [hC.1.2.1, hH.2.1.2]), s_b1_s, e_isEvent (n := ne) (by omega) (by rw [e_sN (by omega)]; exact hH.2.1.2), s_b1_s]
  by_cases h1 : e_hs ne x
  · obtain ⟨e, he, rfl⟩ := e_hs_k (by omega) h1
    rw [e_bi_t h1, e_i1, e_i1]
    rw [e_hasBoy_3 (n := nb) (by rw [hC.1.1, hH.1.2]), s_b1_s, e_isBoy (n := nb) (by omega) (by rw [e_sN (by omega)]; exact hH.1.2), s_b1_s]
    by_cases h2 : e_hs nb y
    · obtain ⟨b, hb, rfl⟩ := e_hs_k (by omega) h2
      rw [e_bi_t h2, e_i1, e_i1, e_onBoy_17 hT (by omega) (by omega), s_b1_s, e_onOf (by omega) (by omega), s_b1_s]
      exact ⟨_, _, rfl, rfl, e_I_0 h 0⟩
    · rw [e_bi_f h2, e_i0, e_i0]
      exact ⟨_, _, rfl, rfl, e_I_0 h 0⟩
  · rw [e_bi_f h1, e_i0, e_i0]
    exact ⟨_, _, rfl, rfl, e_I_0 h 0⟩
theorem k_event {g : s_G} (h : e_I g) (x y : Int32) : e_k0 (fC_event_0 x y g) g (fM_event_130 x y) := by
  obtain ⟨hR, nb, ne, n, p, hs, hJ⟩ := id h
  obtain ⟨hH, hC, hT, hS⟩ := e_I.jc hJ
  have hn := hH.1.1
  have hm := hH.2.1.1
  unfold e_k0 fC_event_0 fM_event_130
  rw [e_hasEvent_3 (n := ne) (by rw [hC.1.2.1, hH.2.1.2]), s_b1_s, e_isEvent (n := ne) (by omega) (by rw [e_sN (by omega)]; exact hH.2.1.2), s_b1_s]
  by_cases h1 : e_hs ne x
  · obtain ⟨e, he, rfl⟩ := e_hs_k (by omega) h1
    obtain ⟨c1, c2, c3⟩ := hC.2.2.2 e he
    rw [e_bi_t h1, e_i1, e_i1]
    simp (disch := omega) only [e_17, e_27, e_37, ← Int32.ofNat_add, e_ix, s_b1_s]
    rw [e_leftOf_17 hC hH hT (by omega), s_b1_s, c1, c2, c3]
    have h7 : s_lp (fun (x : Int32 × Int32) => fM_event_130_81 (Int32.ofNat e) x.1 x.2 (s_si g 130 0 0)) (0, 0) = some (e_su (fun b => g.1 132 (63 + 10 * b + e)) 0 nb, s_si g 130 0 0) := by
      rw [← e_su_z (h := fun b => g.1 132 (63 + 10 * b + e)) (a := 0) (m := nb) 7 hn (fun k hk1 hk2 => by rw [Nat.zero_add]; exact hS.2.1 k e hk2 (by omega) (Or.inl hk1))]
      refine e_seq2 (fun k => (e_su (fun b => g.1 132 (63 + 10 * b + e)) 0 k, Int32.ofNat k)) 7 rfl ?_ ?_
      · intro k hk
        dsimp only
        unfold fM_event_130_81
        rw [if_pos (show Int32.ofNat k < 7 from e_T (b := 7) hk (by omega)), e_onOf (by omega) (by omega), s_b1_s, e_inc]
        conv => rhs; unfold e_su
        rw [Nat.zero_add, e_sN (by omega)]
      · rfl
    rw [h7]
    by_cases y0 : y = 0
    · rw [if_pos y0, if_pos y0]; exact ⟨_, _, rfl, rfl, e_I_0 h 0⟩
    · rw [if_neg y0, if_neg y0]
      by_cases y1 : y = 1
      · rw [if_pos y1, if_pos y1]; exact ⟨_, _, rfl, rfl, e_I_0 h 0⟩
      · rw [if_neg y1, if_neg y1]
        by_cases y2 : y = 2
        · rw [if_pos y2, if_pos y2]; exact ⟨_, _, rfl, rfl, e_I_0 h 0⟩
        · rw [if_neg y2, if_neg y2]
          by_cases y3 : y = 3
          · rw [if_pos y3, if_pos y3]; exact ⟨_, _, rfl, rfl, e_I_0 h 0⟩
          · rw [if_neg y3, if_neg y3]; exact ⟨_, _, rfl, rfl, e_I_0 h 0⟩
  · rw [e_bi_f h1, e_i0, e_i0]
    exact ⟨_, _, rfl, rfl, e_I_0 h 0⟩
theorem e_b01 {α : Type} (c : Prop) (F : Int32 → α) : (if e_bi c = 0 then F 0 else F 1) = F (e_bi c) := by
  by_cases h : c
  · rw [e_bi_t h, e_i1]
  · rw [e_bi_f h, e_i0]
theorem k_now {g : s_G} (h : e_I g) (y : Int32) : e_k0 (fC_now_0 y g) g (fM_now_130 y) := by
  obtain ⟨hR, nb, ne, n, p, hs, hJ⟩ := id h
  obtain ⟨hH, hC, hT, hS⟩ := e_I.jc hJ
  have hn := hH.1.1
  unfold e_k0 fC_now_0 fM_now_130
  rw [e_isWet_17 hC hT, s_b1_s, e_overBits_17 hC hH hT, s_b1_s, e_allLoads_17 hC hH hT, s_b1_s, hT.1.1, hT.1.2.1, hT.1.2.2.1, hT.1.2.2.2.1, hT.1.2.2.2.2, e_isWet, s_b1_s, e_overs (n := nb) hn (by rw [e_sN (by omega)]; exact hH.1.2), s_b1_s]
  rw [show fM_sum_130 63 70 (s_si g 130 0 0) = _ from e_sum (a := 63) (n := 70) (by omega), s_b1_s, e_sN (by omega)]
  rw [show (70 : Nat) = 10 * 7 from rfl, e_su_70, e_su_z (m := nb) 7 hn (fun k h1 h2 => by rw [Nat.zero_add]; exact e_ld_z hS h1 h2)]
  rw [e_b01 _ (fun x => some x), e_b01 _ (fun x => some (x, s_si g 130 0 0))]
  refine ⟨if y = 0 then g.1 132 47 else if y = 1 then g.1 132 48 else if y = 2 then g.1 132 49 else if y = 3 then e_bi (e_wt (g.1 132)) else if y = 4 then e_ovs (g.1 132) nb else if y = 5 then g.1 132 50 else if y = 6 then g.1 132 51 else if y = 7 then e_su (e_ld (g.1 132)) 0 nb else -1, _, ?_, ?_, e_I_0 h 0⟩
  · repeat (split; · rfl)
    rfl
  · repeat (split; · rfl)
    rfl
