-- TAGS
/-- the class's text so far -/
def t_TC (L : List Nat) (g X : s_G) : Prop := L.length ≤ 64 ∧ X.1 0 15 = Int32.ofNat L.length ∧ (∀ k, k < L.length → X.1 129 k = Int32.ofNat (L.getD k 0)) ∧ (∀ a, ¬ a = 0 ∧ ¬ a = 129 → X.1 a = g.1 a) ∧ (∀ k, ¬ k = 15 → X.1 0 k = g.1 0 k) ∧ X.2 = g.2
/-- the reference's -/
def t_TM (L : List Nat) (g X : s_G) : Prop := L.length ≤ 64 ∧ X.1 130 37 = Int32.ofNat L.length ∧ (∀ k, k < L.length → X.1 148 k = Int32.ofNat (L.getD k 0)) ∧ (∀ a, ¬ a = 130 ∧ ¬ a = 148 → X.1 a = g.1 a) ∧ (∀ k, ¬ k = 37 → X.1 130 k = g.1 130 k) ∧ X.2 = g.2
theorem t_b8 : ∀ c, c < 128 → (Int32.ofNat c).toInt8.toInt32.toInt8.toInt32 = Int32.ofNat c := by decide +kernel
theorem t_getD_app {L : List Nat} {c k : Nat} (hk : k < L.length + 1) : (L ++ [c]).getD k 0 = if k = L.length then c else L.getD k 0 := by
  by_cases h : k = L.length
  · subst h
    rw [if_pos rfl, List.getD_eq_getElem?_getD, List.getElem?_append_right (Nat.le_refl _), Nat.sub_self]
    rfl
  · rw [if_neg h, List.getD_eq_getElem?_getD, List.getD_eq_getElem?_getD, List.getElem?_append_left (by omega)]
theorem t_putC {L : List Nat} {g X : s_G} {c : Nat} (h : t_TC L g X) (hc : c < 128) (hl : L.length < 64) : ∃ X', fC_putTagByte_0 (Int32.ofNat c) X = some X' ∧ t_TC (L ++ [c]) g X' := by
  obtain ⟨h1, h2, h3, h4, h5, h6⟩ := h
  refine ⟨s_si (s_si X 129 L.length (Int32.ofNat c)) 0 15 (Int32.ofNat (L.length + 1)), ?_, ?_, ?_, ?_, ?_, ?_, h6⟩
  · unfold fC_putTagByte_0
    rw [h2, if_pos (show Int32.ofNat L.length < 64 from e_T (b := 64) hl (by omega)), e_ix hl (by omega), s_b1_s, t_b8 c hc, e_inc]
  · rw [List.length_append, List.length_singleton]; omega
  · rw [e_sS, e_ve, List.length_append, List.length_singleton]
  · intro k hk
    rw [List.length_append, List.length_singleton] at hk
    rw [e_sN (by omega), e_sS, t_getD_app hk]
    by_cases hq : k = L.length
    · subst hq; rw [e_ve, if_pos rfl]
    · rw [e_vn _ _ hq, if_neg hq]; exact h3 k (by omega)
  · intro a ha
    rw [e_sN ha.1, e_sN ha.2]; exact h4 a ha
  · intro k hk
    rw [e_sS, e_vn _ _ hk, e_sN (by omega)]; exact h5 k hk
theorem t_putM {L : List Nat} {g X : s_G} {c : Nat} (h : t_TM L g X) (hl : L.length < 64) : ∃ X', fM_write_130 (Int32.ofNat c) X = some X' ∧ t_TM (L ++ [c]) g X' := by
  obtain ⟨h1, h2, h3, h4, h5, h6⟩ := h
  refine ⟨s_si (s_si X 148 L.length (Int32.ofNat c)) 130 37 (Int32.ofNat (L.length + 1)), ?_, ?_, ?_, ?_, ?_, ?_, h6⟩
  · unfold fM_write_130
    rw [h2, e_ix hl (by omega), s_b1_s, e_inc]
  · rw [List.length_append, List.length_singleton]; omega
  · rw [e_sS, e_ve, List.length_append, List.length_singleton]
  · intro k hk
    rw [List.length_append, List.length_singleton] at hk
    rw [e_sN (by omega), e_sS, t_getD_app hk]
    by_cases hq : k = L.length
    · subst hq; rw [e_ve, if_pos rfl]
    · rw [e_vn _ _ hq, if_neg hq]; exact h3 k (by omega)
  · intro a ha
    rw [e_sN ha.1, e_sN ha.2]; exact h4 a ha
  · intro k hk
    rw [e_sS, e_vn _ _ hk, e_sN (by omega)]; exact h5 k hk
-- words by the reference
def t_wl (r : List Nat) : List Nat := r.reverse.map (fun c => 96 + c)
theorem t_wl_c (c : Nat) (t : List Nat) : t_wl (c :: t) = t_wl t ++ [96 + c] := by
  unfold t_wl; rw [List.reverse_cons, List.map_append]; rfl
theorem t_wl_len (r : List Nat) : (t_wl r).length = r.length := by unfold t_wl; rw [List.length_map, List.length_reverse]
theorem t_lt27 {v : Nat} (hv : v < 34359738368) : (lg_cmp (Int64.ofNat v) 27 < 0) ↔ v < 27 := by
  unfold lg_cmp
  have e27 : (27 : Int64).toInt = 27 := rfl
  have ev : (Int64.ofNat v).toInt = v := Int64.toInt_ofNat_of_lt (by omega)
  by_cases h1 : Int64.ofNat v > 27
  · rw [if_pos h1]
    have h2 : (27 : Int64) < Int64.ofNat v := h1
    rw [Int64.lt_iff_toInt_lt, e27, ev] at h2
    exact ⟨fun h => absurd h (by decide), fun h => by omega⟩
  · rw [if_neg h1]
    have h2 : ¬ (27 : Int64) < Int64.ofNat v := h1
    rw [Int64.lt_iff_toInt_lt, e27, ev] at h2
    by_cases h3 : Int64.ofNat v = 27
    · rw [if_pos h3]
      have h4 : v = 27 := t_in64 hv (by omega) h3
      exact ⟨fun h => absurd h (by decide), fun h => by omega⟩
    · rw [if_neg h3]
      have h4 : ¬ v = 27 := fun h => h3 (by rw [h]; rfl)
      exact ⟨fun _ => by omega, fun _ => by decide⟩
theorem t_div27 {v c : Nat} (hv : 27 * v + c < 34359738368) (hc : c < 27) : Int64.ofNat (27 * v + c) / 27 = Int64.ofNat v ∧ (Int64.ofNat (27 * v + c) - Int64.ofNat (27 * v + c) / 27 * 27).toInt32 = Int32.ofNat c := by
  have h1 : Int64.ofNat (27 * v + c) / 27 = Int64.ofNat v := by
    rw [show (27 : Int64) = Int64.ofNat 27 from rfl, ← Int64.ofNat_div (by omega) (by omega)]
    congr 1
    omega
  refine ⟨h1, ?_⟩
  rw [h1, show Int64.ofNat v * 27 = Int64.ofNat (v * 27) from by rw [Int64.ofNat_mul]; rfl, ← Int64.ofNat_sub _ _ (by omega), show 27 * v + c - v * 27 = c by omega]
  exact (show ∀ c, c < 27 → (Int64.ofNat c).toInt32 = Int32.ofNat c by decide +kernel) c hc
theorem t_qlt {B : Nat} (r : List Nat) (hB : B ≤ 32) (h : ∀ c, c ∈ r → c < B) (hl : r.length ≤ 7) : t_q B r < 34359738368 := by
  have h1 := t_q_lt r h
  have h3 : B ^ r.length ≤ 32 ^ 7 := Nat.le_trans (Nat.pow_le_pow_left hB _) (Nat.pow_le_pow_right (by omega) hl)
  have h4 : (32 : Nat) ^ 7 = 34359738368 := by decide
  omega
theorem t_wordM {g : s_G} : ∀ (r : List Nat) (f : Nat) (L : List Nat) (X : s_G), 1 ≤ r.length → r.length ≤ f → r.length ≤ 7 → (∀ c, c ∈ r → 1 ≤ c ∧ c ≤ 26) → t_TM L g X → L.length + r.length ≤ 64 → ∃ X', fM_writeWord_130_k f (Int64.ofNat (t_q 27 r)) X = some X' ∧ t_TM (L ++ t_wl r) g X' := by
  intro r
  induction r with
  | nil => intro f L X h1; exact absurd h1 (by rw [List.length_nil]; omega)
  | cons c t ih =>
    intro f L X h1 h2 h7 hc hX hL
    rw [List.length_cons] at h2 h7 hL
    have hcc := hc c (List.mem_cons_self ..)
    have hq := t_qlt (B := 27) (c :: t) (by omega) (fun d hd => by have := hc d hd; omega) (by rw [List.length_cons]; omega)
    rw [t_q] at hq
    cases f with
    | zero => omega
    | succ f =>
      obtain ⟨e1, e2⟩ := t_div27 (v := t_q 27 t) (c := c) hq (by omega)
      have fin : ∀ (K : Int64 → s_G → Option s_G) (L' : List Nat) (Y : s_G), t_TM L' g Y → L'.length < 64 → ∃ X', fM_writeWord_130_17 K (Int64.ofNat (27 * t_q 27 t + c)) Y = some X' ∧ t_TM (L' ++ [96 + c]) g X' := by
        intro K L' Y hY hl
        obtain ⟨X', x1, x2⟩ := t_putM (c := 96 + c) hY hl
        refine ⟨X', ?_, x2⟩
        unfold fM_writeWord_130_17
        rw [e2, show (96 : Int32) + Int32.ofNat c = Int32.ofNat (96 + c) from by rw [Int32.ofNat_add]; rfl, x1, s_b1_s]
      show ∃ X', fM_writeWord_130 (fM_writeWord_130_k f) (Int64.ofNat (27 * t_q 27 t + c)) X = some X' ∧ _
      unfold fM_writeWord_130
      rw [t_wl_c]
      cases t with
      | nil =>
        rw [if_pos ((t_lt27 hq).mpr (by rw [t_q]; omega))]
        exact fin _ L X hX (by omega)
      | cons c2 t2 =>
        have h26 := (hc c2 (List.mem_cons_of_mem _ (List.mem_cons_self ..)))
        rw [if_neg (fun h => by have := (t_lt27 hq).mp h; rw [t_q] at this; omega), e1]
        obtain ⟨Y, y1, y2⟩ := ih f L X (by rw [List.length_cons]; omega) (by omega) (by omega) (fun d hd => hc d (List.mem_cons_of_mem _ hd)) hX (by omega)
        obtain ⟨X', x1, x2⟩ := fin (fM_writeWord_130_k f) _ Y y2 (by rw [List.length_append, t_wl_len]; omega)
        refine ⟨X', by rw [y1, s_b1_s]; exact x1, ?_⟩
        rw [← List.append_assoc]; exact x2
-- and by the class
theorem t_sh64 : ∀ k, k < 7 → ((Int32.ofNat (5 * k)).toInt64 &&& 63) = Int64.ofNat (5 * k) := by decide +kernel
theorem t_dig {v k : Nat} (hk : k < 7) : ((Int64.ofNat v >>> ((Int32.ofNat (5 * k)).toInt64 &&& 63)) &&& (31 : Int64)).toInt32 = Int32.ofNat (v / 2 ^ (5 * k) % 32) := by
  rw [t_sh64 k hk]
  apply e_g_ext
  intro j hj
  rw [e_g_of _ hj]
  unfold e_g
  rw [Int64.toBitVec_toInt32, BitVec.getLsbD_signExtend, decide_eq_true hj, Bool.true_and, if_pos (by omega), Int64.toBitVec_and, BitVec.getLsbD_and, show (32 : Nat) = 2 ^ 5 from rfl, Nat.testBit_mod_two_pow, Nat.testBit_div_two_pow]
  have h31 : ∀ j, j < 32 → (31 : Int64).toBitVec.getLsbD j = decide (j < 5) := by decide
  rw [h31 j hj]
  by_cases h5 : j < 5
  · rw [decide_eq_true h5, Bool.and_true, Bool.true_and]
    have hs : (Int64.ofNat v >>> Int64.ofNat (5 * k)).toBitVec = (Int64.ofNat v).toBitVec.sshiftRight (5 * k) := by
      have : k = 0 ∨ k = 1 ∨ k = 2 ∨ k = 3 ∨ k = 4 ∨ k = 5 ∨ k = 6 := by omega
      rcases this with rfl | rfl | rfl | rfl | rfl | rfl | rfl <;> rfl
    rw [hs, BitVec.getLsbD_sshiftRight, if_pos (by omega), decide_eq_false (by omega), Bool.not_false, Bool.true_and, Int64.toBitVec_ofNat', BitVec.getLsbD_ofNat, decide_eq_true (by omega), Bool.true_and]
    congr 1
    omega
  · rw [decide_eq_false h5, Bool.and_false, Bool.false_and]
theorem t_q_dig : ∀ (r : List Nat) (k : Nat), (∀ c, c ∈ r → c < 32) → t_q 32 r / 2 ^ (5 * k) % 32 = r.getD k 0 := by
  intro r
  induction r with
  | nil =>
    intro k _
    rw [t_q, Nat.zero_div]
    rfl
  | cons c t ih =>
    intro k h
    have hc := h c (List.mem_cons_self ..)
    cases k with
    | zero =>
      rw [t_q, Nat.mul_zero, Nat.pow_zero, Nat.div_one, Nat.mul_add_mod, Nat.mod_eq_of_lt hc]
      rfl
    | succ k =>
      rw [t_q, show 2 ^ (5 * (k + 1)) = 32 * 2 ^ (5 * k) from by rw [Nat.mul_add, Nat.pow_add, Nat.mul_comm], ← Nat.div_div_eq_div_mul, show (32 * t_q 32 t + c) / 32 = t_q 32 t by omega, ih k (fun d hd => h d (List.mem_cons_of_mem _ hd))]
      rfl
theorem t_wl_drop (r : List Nat) {k : Nat} (hk : k < r.length) : t_wl (r.drop k) = t_wl (r.drop (k + 1)) ++ [96 + r.getD k 0] := by
  rw [List.drop_eq_getElem_cons hk, t_wl_c, List.getD_eq_getElem?_getD, List.getElem?_eq_getElem hk]
  rfl
theorem t_nameC {g : s_G} {r : List Nat} (h7 : r.length ≤ 7) (hr : ∀ c, c ∈ r → 1 ≤ c ∧ c ≤ 26) {X : s_G} (hX : t_TC [] g X) : ∃ X', fC_putName_0 (Int64.ofNat (t_q 32 r)) X = some X' ∧ t_TC (t_wl r) g X' := by
  obtain ⟨⟨i, Y⟩, ⟨i1, i2⟩, hlp⟩ := e_lpN (B := fun (y : Int32 × s_G) => fC_putName_0_3 (Int64.ofNat (t_q 32 r)) y.1 y.2) (fun k (y : Int32 × s_G) => (y.1 = if k = 7 then -5 else Int32.ofNat (5 * (6 - k))) ∧ t_TC (t_wl (r.drop (7 - k))) g y.2) 7 (x := (30, X)) (by
    intro k y hk hy
    obtain ⟨i, Y⟩ := y
    obtain ⟨i1, i2⟩ := hy
    dsimp only at i1 i2
    rw [if_neg (by omega)] at i1
    subst i1
    have hd : ∀ c, c ∈ r → c < 32 := fun c hc => by have := hr c hc; omega
    have e5 : Int32.ofNat (5 * (6 - k)) + (-5 : Int32) = if k + 1 = 7 then -5 else Int32.ofNat (5 * (6 - (k + 1))) := by
      have : k = 0 ∨ k = 1 ∨ k = 2 ∨ k = 3 ∨ k = 4 ∨ k = 5 ∨ k = 6 := by omega
      rcases this with rfl | rfl | rfl | rfl | rfl | rfl | rfl <;> rfl
    have body : ∀ v, r.getD (6 - k) 0 = v → fC_putName_0_3 (Int64.ofNat (t_q 32 r)) (Int32.ofNat (5 * (6 - k))) Y = if 0 < Int32.ofNat v then (s_b1 (fC_putTagByte_0 ((96 : Int32) + Int32.ofNat v) Y) fun g2 => some (.inl (if k + 1 = 7 then -5 else Int32.ofNat (5 * (6 - (k + 1))), g2))) else some (.inl (if k + 1 = 7 then -5 else Int32.ofNat (5 * (6 - (k + 1))), Y)) := by
      intro v hv
      unfold fC_putName_0_3
      rw [if_neg (e_nn (by omega)), t_dig (by omega), t_q_dig r _ hd, hv, s_b1_s, e5]
    by_cases hlen : 6 - k < r.length
    · have hm : r.getD (6 - k) 0 ∈ r := by
        rw [List.getD_eq_getElem?_getD, List.getElem?_eq_getElem hlen]
        exact List.getElem_mem hlen
      have hcc := hr _ hm
      obtain ⟨Z, z1, z2⟩ := t_putC (c := 96 + r.getD (6 - k) 0) i2 (by omega) (by rw [t_wl_len, List.length_drop]; omega)
      refine ⟨(if k + 1 = 7 then -5 else Int32.ofNat (5 * (6 - (k + 1))), Z), ?_, rfl, ?_⟩
      · rw [body _ rfl, if_pos (show (0 : Int32) < Int32.ofNat (r.getD (6 - k) 0) from e_T (a := 0) (by omega) (by omega)), show (96 : Int32) + Int32.ofNat (r.getD (6 - k) 0) = Int32.ofNat (96 + r.getD (6 - k) 0) from by rw [Int32.ofNat_add]; rfl, z1, s_b1_s]
      · dsimp only
        rw [show 7 - (k + 1) = 6 - k by omega, t_wl_drop r hlen, show 6 - k + 1 = 7 - k by omega]
        exact z2
    · refine ⟨(if k + 1 = 7 then -5 else Int32.ofNat (5 * (6 - (k + 1))), Y), ?_, rfl, ?_⟩
      · rw [body 0 (by rw [List.getD_eq_getElem?_getD, List.getElem?_eq_none (by omega)]; rfl), if_neg (by decide)]
      · dsimp only
        rw [show 7 - (k + 1) = 6 - k by omega, List.drop_eq_nil_of_le (by omega)]
        rw [List.drop_eq_nil_of_le (by omega)] at i2
        exact i2) ⟨rfl, by rw [show 7 - 0 = 7 from rfl, List.drop_eq_nil_of_le (by omega)]; exact hX⟩
  dsimp only at i1 i2
  rw [if_pos rfl] at i1
  subst i1
  refine ⟨Y, ?_, by rw [Nat.sub_self, List.drop_zero] at i2; exact i2⟩
  unfold fC_putName_0
  rw [hlp]
  apply s_lp_out
  dsimp only
  unfold fC_putName_0_3
  rw [if_pos (by decide)]
  rfl
