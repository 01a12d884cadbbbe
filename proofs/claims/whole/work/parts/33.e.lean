-- TEXTS: a token that both have at hand
/-- sort (0 the end, 1 none, 2 a word, 3 a name, 4 a number, 5 a sign), which, letters -/
abbrev t_Tk : Type := Nat × Nat × List Nat
def t_ok (t : t_Tk) : Prop := t.1 ≤ 5 ∧ (t.1 = 2 → t.2.1 < 29) ∧ (t.1 = 3 → e_ltr t.2.2 ∧ ∀ w, w < 29 → ¬ t.2.2 = t_wd w) ∧ (t.1 = 4 → t.2.1 ≤ 999) ∧ (t.1 = 5 → t_sb t.2.1 = true)
def t_tC (n m : Nat) (t : t_Tk) (C : s_G) : Prop := (t.1 = 0 → C.1 1 5 = 0 ∧ n ≤ m ∧ C.2.2 1 9 = none) ∧ (t.1 = 1 → (C.1 1 5 = 1 ∨ C.1 1 5 = 0 ∧ m < n) ∧ C.2.2 1 9 = none) ∧ (t.1 = 2 → C.1 1 5 = 2 ∧ C.2.2 1 9 = some (1000 + t.2.1)) ∧ (t.1 = 3 → C.1 1 5 = 3 ∧ C.2.2 1 9 = none ∧ C.2.1 1 8 = Int64.ofNat (e_pk 32 t.2.2)) ∧ (t.1 = 4 → C.1 1 5 = 4 ∧ C.2.2 1 9 = none ∧ C.1 1 7 = Int32.ofNat t.2.1) ∧ (t.1 = 5 → C.1 1 5 = 5 ∧ C.2.2 1 9 = none ∧ C.1 1 7 = Int32.ofNat t.2.1)
def t_tM (t : t_Tk) (M : s_G) : Prop := (t.1 = 0 → M.1 130 7 = 0) ∧ (t.1 = 1 → M.1 130 7 = 1) ∧ (t.1 = 2 → M.1 130 7 = 2 ∧ M.2.1 130 12 = t_w t.2.1) ∧ (t.1 = 3 → M.1 130 7 = 2 ∧ M.2.1 130 12 = Int64.ofNat (e_pk 27 t.2.2)) ∧ (t.1 = 4 → M.1 130 7 = 3 ∧ M.1 130 8 = Int32.ofNat t.2.1) ∧ (t.1 = 5 → M.1 130 7 = 4 ∧ M.1 130 9 = Int32.ofNat t.2.1)
/-- the text, and that there is no fault yet -/
def t_B (n m : Nat) (C M : s_G) : Prop := (n ≤ 940 ∧ m ≤ 900) ∧ e_by (C.1 2) (M.1 131) ∧ (C.1 1 1 = 0 ∧ M.1 130 2 = 0) ∧ (C.1 1 2 = Int32.ofNat n ∧ M.1 130 3 = Int32.ofNat n) ∧ (C.1 1 3 = Int32.ofNat m ∧ M.1 130 4 = Int32.ofNat m) ∧ C.1 1 10 = 0 ∧ M.1 130 10 = 0
def t_P (n m : Nat) (t : t_Tk) (a p : Nat) (C M : s_G) : Prop := t_B n m C M ∧ (C.1 1 6 = Int32.ofNat a ∧ M.1 130 6 = Int32.ofNat a ∧ a ≤ 900) ∧ (2 ≤ t.1 → C.1 1 4 = Int32.ofNat p ∧ M.1 130 5 = Int32.ofNat p ∧ a < p ∧ p ≤ n) ∧ t_ok t ∧ t_tC n m t C ∧ t_tM t M
theorem t_B_f {n m : Nat} {C M C' M' : s_G} (h : t_B n m C M) (fC : t_fC C C') (fM : t_fM M M') : t_B n m C' M' := by
  obtain ⟨h1, h2, ⟨h3, h4⟩, ⟨h5, h6⟩, ⟨h7, h8⟩, h9, h10⟩ := h
  refine ⟨h1, ?_, ⟨?_, ?_⟩, ⟨?_, ?_⟩, ⟨?_, ?_⟩, ?_, ?_⟩
  · rw [(fC.1 2 (by omega)).1, (fM.1 131 (by omega)).1]; exact h2
  · rw [fC.2 1 (by omega)]; exact h3
  · rw [fM.2.2.1 2 (by omega)]; exact h4
  · rw [fC.2 2 (by omega)]; exact h5
  · rw [fM.2.2.1 3 (by omega)]; exact h6
  · rw [fC.2 3 (by omega)]; exact h7
  · rw [fM.2.2.1 4 (by omega)]; exact h8
  · rw [fC.2 10 (by omega)]; exact h9
  · rw [fM.2.2.1 10 (by omega)]; exact h10
theorem t_next0 {n m p : Nat} {C M : s_G} (hB : t_B n m C M) (hC4 : C.1 1 4 = Int32.ofNat p) (hM5 : M.1 130 5 = Int32.ofNat p) (hpn : p ≤ n) : ∃ C' M' t a p', fQ_next_1 C = some C' ∧ fM_go_130 M = some M' ∧ t_P n m t a p' C' M' ∧ (2 ≤ t.1 → p ≤ a) ∧ t_fC C C' ∧ t_fM M M' := by
  obtain ⟨⟨hn, hm⟩, hby, -, ⟨c2, m3⟩, ⟨c3, m4⟩, -⟩ := id hB
  obtain ⟨U, hU0⟩ := t_by_of hby
  have hU : ∀ k, k < 940 → U k < 256 ∧ C.1 2 k = t_s8 (U k) := fun k hk => ⟨(hU0 k hk).1, (hU0 k hk).2.2⟩
  have hV : ∀ k, k < 940 → U k < 256 ∧ M.1 131 k = Int32.ofNat (U k) := fun k hk => ⟨(hU0 k hk).1, (hU0 k hk).2.1⟩
  have hm9 : m ≤ 940 := by omega
  obtain ⟨q, q1, q2, q3, q4⟩ := t_run (fun j => t_bl (U j)) (n - p) p n (by omega)
  by_cases hqb : q < t_cb n m
  · have hqn : q < n := by unfold t_cb at hqb; split at hqb <;> omega
    have hqm : m < n → q < m := by
      intro h
      unfold t_cb at hqb
      rw [if_pos h] at hqb
      exact hqb
    have hq9 : q ≤ 900 := by
      by_cases h : m < n
      · have := hqm h; omega
      · omega
    have hq := q4 hqn
    try dsimp only at hq
    cases hal : t_al (U q) with
    | false =>
      obtain ⟨C', a1, a2, a3, a4, a5, a6, a7⟩ := t_nC_sg hU hn hm9 c2 c3 hC4 q1 q3 hqb hq hal
      obtain ⟨M', b1, b2, b3, b4, b5, b6⟩ := t_nM_sg hV hn hm9 m3 m4 hM5 q1 hqn q3 hq hqm hal
      by_cases hs : t_sb (U q) = true
      · rw [if_pos hs] at a2 b2
        have hs' := t_sb_t.mp hs
        have e8 : t_s8 (U q) = Int32.ofNat (U q) := by
          rcases t_s8_c (U q) (hU q (by omega)).1 with h | h
          · exact h.2
          · omega
        refine ⟨C', M', (5, U q, []), q, q + 1, a1, b1, ⟨t_B_f hB a7 b6, ⟨a4, b4, hq9⟩, fun _ => ⟨a5, b5, by omega, by omega⟩, ⟨by omega, ?_, ?_, ?_, fun _ => hs⟩, ⟨?_, ?_, ?_, ?_, ?_, fun _ => ⟨a2, a6, a3.trans e8⟩⟩, ⟨?_, ?_, ?_, ?_, ?_, fun _ => ⟨b2, b3⟩⟩⟩, fun _ => q1, a7, b6⟩
        all_goals (intro h; simp at h)
      · rw [if_neg hs] at a2 b2
        refine ⟨C', M', (1, 0, []), q, q + 1, a1, b1, ⟨t_B_f hB a7 b6, ⟨a4, b4, hq9⟩, fun h => absurd h (by decide), ⟨by omega, ?_, ?_, ?_, ?_⟩, ⟨?_, fun _ => ⟨Or.inl a2, a6⟩, ?_, ?_, ?_, ?_⟩, ⟨?_, fun _ => b2, ?_, ?_, ?_, ?_⟩⟩, fun h => absurd h (by decide), a7, b6⟩
        all_goals (intro h; simp at h)
    | true =>
      obtain ⟨z, z1, z2, z3, z4⟩ := t_run (fun j => t_al (U j)) (n - q) q n (by omega)
      have hqz : q < z := by
        by_cases h : q = z
        · subst h
          have := z4 hqn
          try dsimp only at this
          rw [hal] at this
          cases this
        · omega
      obtain ⟨r, rfl⟩ := Nat.exists_eq_add_of_le z1
      have hr : 1 ≤ r := by omega
      have hal2 : ∀ j, j < r → t_al (U (q + j)) = true := fun j hj => z3 (q + j) (by omega) (by omega)
      obtain ⟨C', a1, a2, a3, a4, a5⟩ := t_nC_run hU hn hm9 c2 c3 hC4 q1 q3 hqb hq hr z2 hal2 z4
      obtain ⟨M', b1, b2, b3, b4, b5, b6, b7⟩ := t_nM_run hV hn hm9 m3 m4 hM5 q1 hqn q3 hq hqm hr z2 hal2 z4
      rcases a5 with ⟨hA, h7, ⟨w, hw, hlw, x5, x9⟩ | ⟨hno, x5, x9, x8⟩⟩ | ⟨hD, h3, x5, x9, x7⟩ | ⟨hA, hD, x5, x9⟩
      · obtain ⟨y7, y12⟩ := b5 hA h7
        refine ⟨C', M', (2, w, []), q, q + r, a1, b1, ⟨t_B_f hB a4 b4, ⟨a2, b2, hq9⟩, fun _ => ⟨a3, b3, by omega, z2⟩, ⟨by omega, fun _ => hw, ?_, ?_, ?_⟩, ⟨?_, ?_, fun _ => ⟨x5, x9⟩, ?_, ?_, ?_⟩, ⟨?_, ?_, fun _ => ⟨y7, by rw [y12, hlw]; rfl⟩, ?_, ?_, ?_⟩⟩, fun _ => q1, a4, b4⟩
        all_goals (intro h; simp at h)
      · obtain ⟨y7, y12⟩ := b5 hA h7
        refine ⟨C', M', (3, 0, t_ll U q r), q, q + r, a1, b1, ⟨t_B_f hB a4 b4, ⟨a2, b2, hq9⟩, fun _ => ⟨a3, b3, by omega, z2⟩, ⟨by omega, ?_, fun _ => ⟨t_ll_ok hA hr h7, hno⟩, ?_, ?_⟩, ⟨?_, ?_, ?_, fun _ => ⟨x5, x9, x8⟩, ?_, ?_⟩, ⟨?_, ?_, ?_, fun _ => ⟨y7, y12⟩, ?_, ?_⟩⟩, fun _ => q1, a4, b4⟩
        all_goals (intro h; simp at h)
      · obtain ⟨y7, y8⟩ := b6 hD h3
        have hlt := t_dl_ok r h3 hD
        have hp : 10 ^ r ≤ 10 ^ 3 := Nat.pow_le_pow_right (by omega) h3
        refine ⟨C', M', (4, e_pk 10 (t_dl U q r), []), q, q + r, a1, b1, ⟨t_B_f hB a4 b4, ⟨a2, b2, hq9⟩, fun _ => ⟨a3, b3, by omega, z2⟩, ⟨by omega, ?_, ?_, fun _ => (by show e_pk 10 (t_dl U q r) ≤ 999; omega), ?_⟩, ⟨?_, ?_, ?_, ?_, fun _ => ⟨x5, x9, x7⟩, ?_⟩, ⟨?_, ?_, ?_, ?_, fun _ => ⟨y7, y8⟩, ?_⟩⟩, fun _ => q1, a4, b4⟩
        all_goals (intro h; simp at h)
      · have y7 := b7 hA hD
        refine ⟨C', M', (1, 0, []), q, q + r, a1, b1, ⟨t_B_f hB a4 b4, ⟨a2, b2, hq9⟩, fun h => absurd h (by decide), ⟨by omega, ?_, ?_, ?_, ?_⟩, ⟨?_, fun _ => ⟨Or.inl x5, x9⟩, ?_, ?_, ?_, ?_⟩, ⟨?_, fun _ => y7, ?_, ?_, ?_, ?_⟩⟩, fun h => absurd h (by decide), a4, b4⟩
        all_goals (intro h; simp at h)
  · -- the end, or the limit
    have hcb : t_cb n m ≤ 900 := by unfold t_cb; split <;> omega
    -- the class's place: not beyond the bound by blanks
    obtain ⟨qC, k1, k2, k3⟩ : ∃ qC, p ≤ qC ∧ qC ≤ n ∧ (∀ j, p ≤ j → j < qC → j < t_cb n m ∧ t_bl (U j) = true) ∧ ¬ qC < t_cb n m := by
      by_cases hpb : p < t_cb n m
      · refine ⟨t_cb n m, by omega, by unfold t_cb; split <;> omega, fun j h1 h2 => ⟨h2, q3 j h1 (by omega)⟩, by omega⟩
      · exact ⟨p, by omega, hpn, fun j h1 h2 => by omega, hpb⟩
    obtain ⟨C', a1, a2, a3, a4, a5⟩ := t_nC_end hU hn hm9 c2 c3 hC4 k1 (by omega) k3.1 k3.2
    by_cases hmn : m < n
    · have ecb : t_cb n m = m := by unfold t_cb; rw [if_pos hmn]
      rw [ecb] at a3 hqb hcb
      obtain ⟨M', b1, b2, b3, b4⟩ := t_nM_lim hV hn hm9 m3 m4 hM5 q1 q2 q3 q4 hmn (by omega)
      refine ⟨C', M', (1, 0, []), m, 0, a1, b1, ⟨t_B_f hB a5 b4, ⟨a3, b3, hcb⟩, fun h => absurd h (by decide), ⟨by omega, ?_, ?_, ?_, ?_⟩, ⟨?_, fun _ => ⟨Or.inr ⟨a2, hmn⟩, a4⟩, ?_, ?_, ?_, ?_⟩, ⟨?_, fun _ => b2, ?_, ?_, ?_, ?_⟩⟩, fun h => absurd h (by decide), a5, b4⟩
      all_goals (intro h; simp at h)
    · have ecb : t_cb n m = n := by unfold t_cb; rw [if_neg hmn]
      rw [ecb] at a3 hqb hcb
      have : q = n := by omega
      subst this
      obtain ⟨M', b1, b2, b3, b4⟩ := t_nM_stop hV hn hm9 m3 m4 hM5 hpn q3 hmn
      refine ⟨C', M', (0, 0, []), q, 0, a1, b1, ⟨t_B_f hB a5 b4, ⟨a3, b3, hcb⟩, fun h => absurd h (by decide), ⟨by omega, ?_, ?_, ?_, ?_⟩, ⟨fun _ => ⟨a2, by omega, a4⟩, ?_, ?_, ?_, ?_, ?_⟩, ⟨fun _ => b2, ?_, ?_, ?_, ?_, ?_⟩⟩, fun h => absurd h (by decide), a5, b4⟩
      all_goals (intro h; simp at h)
/-- the token behind one that is good -/
theorem t_next {n m a p : Nat} {t : t_Tk} {C M : s_G} (h : t_P n m t a p C M) (ht : 2 ≤ t.1) : ∃ C' M' t' a' p', fQ_next_1 C = some C' ∧ fM_go_130 M = some M' ∧ t_P n m t' a' p' C' M' ∧ (2 ≤ t'.1 → a < a') ∧ t_fC C C' ∧ t_fM M M' := by
  obtain ⟨h1, h2, h3, h4⟩ := h.2.2.1 ht
  obtain ⟨C', M', t', a', p', x1, x2, x3, x4, x5, x6⟩ := t_next0 h.1 h1 h2 h4
  exact ⟨C', M', t', a', p', x1, x2, x3, fun h => by have := x4 h; omega, x5, x6⟩
