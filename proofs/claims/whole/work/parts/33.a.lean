-- TEXTS: signs, letters, words
theorem t_ss {g : s_G} {a k : Nat} {v w : Int32} : s_si (s_si g a k v) a k w = s_si g a k w := by
  unfold s_si
  congr 1
  funext b j
  by_cases hb : b = a
  · subst hb
    rw [s_up_s, s_up_s]
    by_cases hj : j = k
    · subst hj; rw [e_ve, e_ve, ]
    · rw [e_vn _ _ hj, e_vn _ _ hj]
      show s_up g.1 b k v b j = g.1 b j
      rw [s_up_s, e_vn _ _ hj]
  · rw [e_ua _ _ _ hb, e_ua _ _ _ hb]
    show s_up g.1 a k v b j = g.1 b j
    rw [e_ua _ _ _ hb]
theorem t_se {g : s_G} {a k : Nat} {v : Int32} (h : g.1 a k = v) : s_si g a k v = g := by
  subst h
  have h1 : s_up g.1 a k (g.1 a k) = g.1 := by
    funext b j
    by_cases hb : b = a
    · subst hb
      rw [s_up_s]
      by_cases hj : j = k
      · subst hj; rw [e_ve]
      · rw [e_vn _ _ hj]
    · rw [e_ua _ _ _ hb]
  unfold s_si
  rw [h1]
def t_s8 (u : Nat) : Int32 := (Int32.ofNat u).toInt8.toInt32
theorem t_s8_c : ∀ u, u < 256 → (u < 128 ∧ t_s8 u = Int32.ofNat u) ∨ (128 ≤ u ∧ t_s8 u < 0) := by decide +kernel
def t_lb (u : Nat) : Bool := Nat.ble 97 u && Nat.ble u 122
def t_db (u : Nat) : Bool := Nat.ble 48 u && Nat.ble u 57
theorem t_lb_t {u : Nat} : t_lb u = true ↔ 97 ≤ u ∧ u ≤ 122 := by
  unfold t_lb
  rw [Bool.and_eq_true, Nat.ble_eq, Nat.ble_eq]
theorem t_db_t {u : Nat} : t_db u = true ↔ 48 ≤ u ∧ u ≤ 57 := by
  unfold t_db
  rw [Bool.and_eq_true, Nat.ble_eq, Nat.ble_eq]
theorem t_lb_f {u : Nat} : t_lb u = false ↔ ¬ (97 ≤ u ∧ u ≤ 122) := by
  rw [← t_lb_t]; cases t_lb u <;> decide
theorem t_db_f {u : Nat} : t_db u = false ↔ ¬ (48 ≤ u ∧ u ≤ 57) := by
  rw [← t_db_t]; cases t_db u <;> decide
/-- is it that sign -/
theorem t_s8_e {u c : Nat} (hu : u < 256) (hc : c < 128) : (t_s8 u = Int32.ofNat c) ↔ u = c := by
  rcases t_s8_c u hu with ⟨h1, h2⟩ | ⟨h1, h2⟩
  · rw [h2]; exact ⟨e_in (by omega) (by omega), fun h => by rw [h]⟩
  · constructor
    · intro h; rw [h] at h2; exact absurd h2 (e_nn (by omega))
    · intro h; omega
theorem t_s8_l {u c : Nat} (hu : u < 256) (hc : c < 128) : (t_s8 u < Int32.ofNat c) ↔ (u < c ∨ 128 ≤ u) := by
  rcases t_s8_c u hu with ⟨h1, h2⟩ | ⟨h1, h2⟩
  · rw [h2, e_lt (by omega) (by omega)]; omega
  · have h3 : (0 : Int32) ≤ Int32.ofNat c := Int32.not_lt.mp (e_nn (by omega))
    have h4 : t_s8 u < Int32.ofNat c := by
      rw [Int32.lt_iff_toInt_lt] at h2 ⊢
      rw [Int32.le_iff_toInt_le] at h3
      omega
    exact ⟨fun _ => Or.inr h1, fun _ => h4⟩
theorem t_s8_g {u c : Nat} (hu : u < 256) (hc : c < 128) : (Int32.ofNat c < t_s8 u) ↔ (c < u ∧ u < 128) := by
  rcases t_s8_c u hu with ⟨h1, h2⟩ | ⟨h1, h2⟩
  · rw [h2, e_lt (by omega) (by omega)]; omega
  · have h3 : (0 : Int32) ≤ Int32.ofNat c := Int32.not_lt.mp (e_nn (by omega))
    constructor
    · intro h
      rw [Int32.lt_iff_toInt_lt] at h2 h
      rw [Int32.le_iff_toInt_le] at h3
      omega
    · intro h; omega
/-- the bytes of a text -/
def t_by (U : Nat → Nat) (x y : Nat → Int32) : Prop := ∀ k, k < 940 → U k < 256 ∧ y k = Int32.ofNat (U k) ∧ x k = t_s8 (U k)
theorem t_by_of {x y : Nat → Int32} (h : e_by x y) : ∃ U, t_by U x y := by
  refine ⟨fun k => (y k).toNatClampNeg, fun k hk => ?_⟩
  obtain ⟨u, h1, h2, h3⟩ := h k hk
  have h4 : (y k).toNatClampNeg = u := by rw [h2]; exact Int32.toNatClampNeg_ofNat_of_lt (by omega)
  dsimp only
  rw [h4]
  exact ⟨h1, h2, h3⟩
-- packs of letters
def t_q (B : Nat) : List Nat → Nat
  | [] => 0
  | c :: t => B * t_q B t + c
theorem t_pk_q (B : Nat) (l : List Nat) : e_pk B l = t_q B l.reverse := by
  unfold e_pk
  rw [List.foldl_eq_foldr_reverse]
  induction l.reverse with
  | nil => rfl
  | cons c t ih => rw [List.foldr_cons, ih]; rfl
theorem t_q_inj {B : Nat} : ∀ (l l' : List Nat), (∀ c, c ∈ l → 1 ≤ c ∧ c < B) → (∀ c, c ∈ l' → 1 ≤ c ∧ c < B) → t_q B l = t_q B l' → l = l' := by
  intro l
  induction l with
  | nil =>
    intro l' _ h' h
    cases l' with
    | nil => rfl
    | cons c t =>
      have := h' c (List.mem_cons_self ..)
      rw [t_q, t_q] at h
      omega
  | cons c t ih =>
    intro l' h1 h2 h
    have hc := h1 c (List.mem_cons_self ..)
    cases l' with
    | nil =>
      rw [t_q, t_q] at h
      omega
    | cons c' t' =>
      have hc' := h2 c' (List.mem_cons_self ..)
      rw [t_q, t_q] at h
      have e1 : c = c' := by
        have h3 : (B * t_q B t + c) % B = (B * t_q B t' + c') % B := by rw [h]
        rw [Nat.mul_add_mod, Nat.mul_add_mod, Nat.mod_eq_of_lt hc.2, Nat.mod_eq_of_lt hc'.2] at h3
        exact h3
      subst e1
      have e2 : t_q B t = t_q B t' := Nat.eq_of_mul_eq_mul_left (show 0 < B by omega) (by omega)
      rw [ih t' (fun d hd => h1 d (List.mem_cons_of_mem _ hd)) (fun d hd => h2 d (List.mem_cons_of_mem _ hd)) e2]
theorem t_q_lt {B : Nat} : ∀ (l : List Nat), (∀ c, c ∈ l → c < B) → t_q B l < B ^ l.length := by
  intro l
  induction l with
  | nil => intro _; rw [t_q, List.length_nil, Nat.pow_zero]; omega
  | cons c t ih =>
    intro h
    have hc := h c (List.mem_cons_self ..)
    have h1 := ih (fun d hd => h d (List.mem_cons_of_mem _ hd))
    rw [t_q, List.length_cons, Nat.pow_succ]
    have h2 : B * (t_q B t + 1) ≤ B * B ^ t.length := Nat.mul_le_mul_left B h1
    rw [Nat.mul_add, Nat.mul_one] at h2
    rw [Nat.mul_comm (B ^ t.length) B]
    omega
theorem t_pk_inj {B : Nat} {l l' : List Nat} (hB : 27 ≤ B) (h1 : e_ltr l) (h2 : e_ltr l') (h : e_pk B l = e_pk B l') : l = l' := by
  rw [t_pk_q, t_pk_q] at h
  have := t_q_inj l.reverse l'.reverse (fun c hc => by have := h1.2.2 c (List.mem_reverse.mp hc); omega) (fun c hc => by have := h2.2.2 c (List.mem_reverse.mp hc); omega) h
  exact List.reverse_inj.mp this
theorem t_pk_lt {B : Nat} {l : List Nat} (hB : 27 ≤ B) (hB2 : B ≤ 32) (h1 : e_ltr l) : e_pk B l < 34359738368 := by
  rw [t_pk_q]
  have h2 := t_q_lt (B := B) l.reverse (fun c hc => by have := h1.2.2 c (List.mem_reverse.mp hc); omega)
  rw [List.length_reverse] at h2
  have h3 : B ^ l.length ≤ 32 ^ 7 := Nat.le_trans (Nat.pow_le_pow_left hB2 _) (Nat.pow_le_pow_right (by omega) h1.2.1)
  have h4 : (32 : Nat) ^ 7 = 34359738368 := by decide
  omega
theorem t_in64 {a b : Nat} (ha : a < 34359738368) (hb : b < 34359738368) (h : Int64.ofNat a = Int64.ofNat b) : a = b := by
  have h1 : (Int64.ofNat a).toInt = (Int64.ofNat b).toInt := by rw [h]
  rw [Int64.toInt_ofNat_of_lt (by omega), Int64.toInt_ofNat_of_lt (by omega)] at h1
  omega
theorem t_pk64 {B : Nat} {l l' : List Nat} (hB : 27 ≤ B) (hB2 : B ≤ 32) (h1 : e_ltr l) (h2 : e_ltr l') : (Int64.ofNat (e_pk B l) = Int64.ofNat (e_pk B l')) ↔ l = l' := by
  constructor
  · intro h
    exact t_pk_inj hB h1 h2 (t_in64 (t_pk_lt hB hB2 h1) (t_pk_lt hB hB2 h2) h)
  · intro h; rw [h]
theorem t_cmp {a b : Int64} : (lg_cmp a b = 0) ↔ a = b := by
  unfold lg_cmp
  by_cases h1 : a > b
  · rw [if_pos h1]
    exact ⟨fun h => absurd h (by decide), fun h => absurd (h ▸ h1) (Int64.lt_irrefl)⟩
  · rw [if_neg h1]
    by_cases h2 : a = b
    · rw [if_pos h2]; exact ⟨fun _ => h2, fun _ => rfl⟩
    · rw [if_neg h2]; exact ⟨fun h => absurd h (by decide), fun h => absurd h h2⟩
-- the words
def t_wds : List (List Nat) := [[2, 15, 25], [5, 22, 5, 14, 20], [20, 1, 11, 5, 19], [6, 9, 18, 5], [12, 15, 7, 19], [20, 21, 18, 6], [23, 5, 20], [6, 5, 1, 18], [19, 8, 1, 13, 5], [7, 18, 9, 5, 6], [10, 15, 25], [20, 5, 12, 12, 19], [12, 9, 5, 19], [7, 9, 22, 5, 19], [12, 15, 7], [18, 1, 11, 5], [4, 1, 25], [15, 18], [1, 14, 4], [14, 15, 20], [15, 22, 5, 18], [8, 21, 19, 8, 5, 4], [12, 9, 7, 8, 20], [8, 1, 19], [8, 9, 19], [12, 15, 1, 4], [2, 5, 1, 18, 19], [20, 5, 1, 18, 19], [14, 21, 13, 2, 5, 18]]
def t_wd (w : Nat) : List Nat := t_wds.getD w []
def t_w (w : Nat) : Int64 := Int64.ofNat (e_pk 27 (t_wd w))
theorem t_wd_ok : ∀ w, w < 29 → 1 ≤ (t_wd w).length ∧ (t_wd w).length ≤ 7 ∧ ∀ c, c ∈ t_wd w → 1 ≤ c ∧ c ≤ 26 := by decide +kernel
theorem t_wd_32 : ∀ w, w < 29 → s_wl.getD w 0 = Int64.ofNat (e_pk 32 (t_wd w)) := by decide +kernel
theorem t_wd_inj : ∀ w, w < 29 → ∀ w', w' < 29 → t_wd w = t_wd w' → w = w' := by decide +kernel
theorem t_wordOf (g : s_G) : ∀ w, w < 29 → fM_wordOf_s (Int32.ofNat w) g = some (t_w w) := by
  intro w hw
  have h : w = 0 ∨ w = 1 ∨ w = 2 ∨ w = 3 ∨ w = 4 ∨ w = 5 ∨ w = 6 ∨ w = 7 ∨ w = 8 ∨ w = 9 ∨ w = 10 ∨ w = 11 ∨ w = 12 ∨ w = 13 ∨ w = 14 ∨ w = 15 ∨ w = 16 ∨ w = 17 ∨ w = 18 ∨ w = 19 ∨ w = 20 ∨ w = 21 ∨ w = 22 ∨ w = 23 ∨ w = 24 ∨ w = 25 ∨ w = 26 ∨ w = 27 ∨ w = 28 := by omega
  rcases h with rfl | rfl | rfl | rfl | rfl | rfl | rfl | rfl | rfl | rfl | rfl | rfl | rfl | rfl | rfl | rfl | rfl | rfl | rfl | rfl | rfl | rfl | rfl | rfl | rfl | rfl | rfl | rfl | rfl <;> rfl
/-- which word it is, for one who packs by 32 -/
theorem t_spelt {g : s_G} {l : List Nat} (hl : e_ltr l) : (∃ w, w < 29 ∧ l = t_wd w ∧ fW_spelt_s (Int64.ofNat (e_pk 32 l)) g = some (some (1000 + w))) ∨ ((∀ w, w < 29 → ¬ l = t_wd w) ∧ fW_spelt_s (Int64.ofNat (e_pk 32 l)) g = some none) := by
  have step : ∀ w, w < 29 → fW_spelt_s_10 (Int64.ofNat (e_pk 32 l)) 29 (Int32.ofNat w) g = if l = t_wd w then some (.inr (some (1000 + w))) else some (.inl (Int32.ofNat (w + 1))) := by
    intro w hw
    unfold fW_spelt_s_10
    rw [if_pos (show Int32.ofNat w < 29 from e_T (b := 29) hw (by omega)), e_ix hw (by omega), s_b1_s]
    have h1 : s_wlt (1000 + w) = some (Int64.ofNat (e_pk 32 (t_wd w))) := by
      unfold s_wlt
      rw [if_pos (by omega), Nat.add_sub_cancel_left, t_wd_32 w hw]
    rw [h1, s_b1_s, e_inc]
    by_cases h2 : l = t_wd w
    · rw [if_pos (t_cmp.mpr (by rw [h2])), if_pos h2]; rfl
    · rw [if_neg (fun h3 => h2 ((t_pk64 (by omega) (by omega) (t_wd_ok w hw) hl).mp (t_cmp.mp h3)).symm), if_neg h2]
  have key : ∀ k w, w + k = 29 → (∀ j, j < w → ¬ l = t_wd j) → (∃ v, v < 29 ∧ l = t_wd v ∧ s_lp (fun x => fW_spelt_s_10 (Int64.ofNat (e_pk 32 l)) 29 x g) (Int32.ofNat w) = some (some (1000 + v))) ∨ ((∀ v, v < 29 → ¬ l = t_wd v) ∧ s_lp (fun x => fW_spelt_s_10 (Int64.ofNat (e_pk 32 l)) 29 x g) (Int32.ofNat w) = some none) := by
    intro k
    induction k with
    | zero =>
      intro w hw hj
      obtain rfl : w = 29 := by omega
      refine Or.inr ⟨hj, s_lp_out ?_⟩
      unfold fW_spelt_s_10
      rw [if_neg (show ¬ Int32.ofNat 29 < 29 by decide)]
      rfl
    | succ k ih =>
      intro w hw hj
      by_cases h2 : l = t_wd w
      · exact Or.inl ⟨w, by omega, h2, s_lp_out (by rw [step w (by omega), if_pos h2])⟩
      · rw [s_lp_in (y := Int32.ofNat (w + 1)) (by rw [step w (by omega), if_neg h2])]
        refine ih (w + 1) (by omega) (fun j hj2 => ?_)
        by_cases h3 : j = w
        · rw [h3]; exact h2
        · exact hj j (by omega)
  exact key 29 0 rfl (fun j hj => absurd hj (by omega))
