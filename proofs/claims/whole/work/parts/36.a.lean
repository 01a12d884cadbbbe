-- SAID: what a step says of a boy
def t_cq (sg v nu : Int32) : Prop := (sg = 60 ∧ v < nu) ∨ (sg = 61 ∧ v = nu) ∨ (sg = 62 ∧ nu < v)
theorem t_cqC {sg v nu : Int32} (h : sg = 60 ∨ sg = 61 ∨ sg = 62) : (if sg = (60 : Int32) then (if v < nu then (some (1 : Int32)) else some (0 : Int32)) else if sg = (62 : Int32) then (if nu < v then (some (1 : Int32)) else some (0 : Int32)) else if v = nu then (some (1 : Int32)) else some (0 : Int32)) = some (e_bi (t_cq sg v nu)) := by
  rcases h with rfl | rfl | rfl
  · rw [if_pos rfl, e_bi_if]
    exact congrArg some (e_bi_c ⟨fun h => Or.inl ⟨rfl, h⟩, fun h => h.elim (fun h => h.2) (fun h => h.elim (fun h => absurd h.1 (by decide)) (fun h => absurd h.1 (by decide)))⟩)
  · rw [if_neg (by decide), if_neg (by decide), e_bi_if]
    exact congrArg some (e_bi_c ⟨fun h => Or.inr (Or.inl ⟨rfl, h⟩), fun h => h.elim (fun h => absurd h.1 (by decide)) (fun h => h.elim (fun h => h.2) (fun h => absurd h.1 (by decide)))⟩)
  · rw [if_neg (by decide), if_pos rfl, e_bi_if]
    exact congrArg some (e_bi_c ⟨fun h => Or.inr (Or.inr ⟨rfl, h⟩), fun h => h.elim (fun h => absurd h.1 (by decide)) (fun h => h.elim (fun h => absurd h.1 (by decide)) (fun h => h.2))⟩)
theorem t_cqM {sg v nu : Int32} (h : sg = 60 ∨ sg = 61 ∨ sg = 62) : (if sg = (60 : Int32) then (if v < nu then (some (1 : Int32)) else some (0 : Int32)) else if sg = (61 : Int32) then (if v = nu then (some (1 : Int32)) else some (0 : Int32)) else if nu < v then (some (1 : Int32)) else some (0 : Int32)) = some (e_bi (t_cq sg v nu)) := by
  rw [← t_cqC h]
  rcases h with rfl | rfl | rfl
  · rfl
  · rfl
  · rfl
section SNV
variable {X G : s_G} {f : Nat → Int32} {nb ne k i : Nat}
theorem t_leafV (hC : e_C3 nb ne X f) (hH : e_HW nb ne f) (hT : e_T17 X f) (hG : G.1 132 = f) (hk : k < 60) (hi : i < 40) (hlf : e_lf ne (X.2.2 28) (X.1 29) (X.1 30) f k i) : ∃ P : Nat → Prop, (∀ b, b < nb → fS_holds_27_17 (Int32.ofNat i) (Int32.ofNat b) X = some (e_bi (P b))) ∧ ∀ (K : Int32 → Int32 → s_G → Option Int32) b, b < nb → fM_holds_130 K (Int32.ofNat k) (Int32.ofNat b) G = some (e_bi (P b)) := by
  obtain ⟨w, hw, f0, st, h5, h6⟩ := hlf
  have h7 := hH.1.1
  have h10 := hH.2.1.1
  have x0 : (135 : Int32) + 4 * Int32.ofNat k = Int32.ofNat (135 + 4 * k) := by rw [Int32.ofNat_add, Int32.ofNat_mul]; rfl
  have x1 : Int32.ofNat (135 + 4 * k) + 1 = Int32.ofNat (136 + 4 * k) := by rw [e_inc]; congr 1; omega
  have x2 : Int32.ofNat (135 + 4 * k) + 2 = Int32.ofNat (137 + 4 * k) := by rw [show (2 : Int32) = Int32.ofNat 2 from rfl, ← Int32.ofNat_add]; congr 1; omega
  have x3 : Int32.ofNat (135 + 4 * k) + 3 = Int32.ofNat (138 + 4 * k) := by rw [show (3 : Int32) = Int32.ofNat 3 from rfl, ← Int32.ofNat_add]; congr 1; omega
  have hcs : w = 20 ∨ w = 21 ∨ w = 22 ∨ w = 23 ∨ w = 24 ∨ w = 25 ∨ w = 26 ∨ w = 27 ∨ w = 28 := by omega
  rcases hcs with rfl | rfl | rfl | rfl | rfl | rfl | rfl | rfl | rfl
  · refine ⟨fun b => e_ov f b, fun b hb => ?_, fun K b hb => ?_⟩
    · unfold fS_holds_27_17
      rw [e_ix hi (by omega), s_b1_s, st, if_pos (show s_okw (some (1000 + 20)) = true from rfl), if_pos (show (some (1000 + 20) : Option Nat) = some 1020 from rfl), e_isOver_17 hC hH hT hb, s_b1_s, if_pos (e_bi_ok _)]
    · unfold fM_holds_130
      rw [x0, x1, x2, e_ix (show 136 + 4 * k < 375 by omega) (by omega), s_b1_s, e_ix (show 137 + 4 * k < 375 by omega) (by omega), s_b1_s, e_ix (show 135 + 4 * k < 375 by omega) (by omega), s_b1_s, hG, f0, if_neg (show ¬ Int32.ofNat (50 + 20) = 1 by decide), if_neg (show ¬ Int32.ofNat (50 + 20) = 2 by decide), if_neg (show ¬ Int32.ofNat (50 + 20) = 3 by decide), if_pos (show Int32.ofNat (50 + 20) = 70 from rfl), e_isOver (by omega), s_b1_s, if_pos (e_bi_ok _), hG]
  · refine ⟨fun b => e_hu f b, fun b hb => ?_, fun K b hb => ?_⟩
    · unfold fS_holds_27_17
      rw [e_ix hi (by omega), s_b1_s, st, if_pos (show s_okw (some (1000 + 21)) = true from rfl), if_neg (show ¬ (some (1000 + 21) : Option Nat) = some 1020 by decide), if_pos (show s_okw (some (1000 + 21)) = true from rfl), if_pos (show (some (1000 + 21) : Option Nat) = some 1021 from rfl), e_isHushed_17 hT, s_b1_s, if_pos (e_bi_ok _)]
    · unfold fM_holds_130
      rw [x0, x1, x2, e_ix (show 136 + 4 * k < 375 by omega) (by omega), s_b1_s, e_ix (show 137 + 4 * k < 375 by omega) (by omega), s_b1_s, e_ix (show 135 + 4 * k < 375 by omega) (by omega), s_b1_s, hG, f0, if_neg (show ¬ Int32.ofNat (50 + 21) = 1 by decide), if_neg (show ¬ Int32.ofNat (50 + 21) = 2 by decide), if_neg (show ¬ Int32.ofNat (50 + 21) = 3 by decide), if_neg (show ¬ Int32.ofNat (50 + 21) = 70 by decide), if_pos (show Int32.ofNat (50 + 21) = 71 from rfl), e_isHushed, s_b1_s, if_pos (e_bi_ok _), hG]
  · refine ⟨fun b => e_ld f b = 0, fun b hb => ?_, fun K b hb => ?_⟩
    · unfold fS_holds_27_17
      rw [e_ix hi (by omega), s_b1_s, st, if_pos (show s_okw (some (1000 + 22)) = true from rfl), if_neg (show ¬ (some (1000 + 22) : Option Nat) = some 1020 by decide), if_pos (show s_okw (some (1000 + 22)) = true from rfl), if_neg (show ¬ (some (1000 + 22) : Option Nat) = some 1021 by decide), if_pos (show s_okw (some (1000 + 22)) = true from rfl), if_pos (show (some (1000 + 22) : Option Nat) = some 1022 from rfl), e_ix (show b < 7 by omega) (by omega), s_b1_s, hT.2.2.1 b (by omega), e_bi_if]
    · unfold fM_holds_130
      rw [x0, x1, x2, e_ix (show 136 + 4 * k < 375 by omega) (by omega), s_b1_s, e_ix (show 137 + 4 * k < 375 by omega) (by omega), s_b1_s, e_ix (show 135 + 4 * k < 375 by omega) (by omega), s_b1_s, hG, f0, if_neg (show ¬ Int32.ofNat (50 + 22) = 1 by decide), if_neg (show ¬ Int32.ofNat (50 + 22) = 2 by decide), if_neg (show ¬ Int32.ofNat (50 + 22) = 3 by decide), if_neg (show ¬ Int32.ofNat (50 + 22) = 70 by decide), if_neg (show ¬ Int32.ofNat (50 + 22) = 71 by decide), if_pos (show Int32.ofNat (50 + 22) = 72 from rfl), e_loadOf (by omega), s_b1_s, hG, e_bi_if]
  · obtain ⟨e, he, e1, e2⟩ := h5 (Or.inl rfl)
    refine ⟨fun b => 0 < f (63 + 10 * b + e), fun b hb => ?_, fun K b hb => ?_⟩
    · unfold fS_holds_27_17
      rw [e_ix hi (by omega), s_b1_s, st, if_pos (show s_okw (some (1000 + 23)) = true from rfl), if_neg (show ¬ (some (1000 + 23) : Option Nat) = some 1020 by decide), if_pos (show s_okw (some (1000 + 23)) = true from rfl), if_neg (show ¬ (some (1000 + 23) : Option Nat) = some 1021 by decide), if_pos (show s_okw (some (1000 + 23)) = true from rfl), if_neg (show ¬ (some (1000 + 23) : Option Nat) = some 1022 by decide), if_pos (show s_okw (some (1000 + 23)) = true from rfl), if_pos (show (some (1000 + 23) : Option Nat) = some 1023 from rfl), e2, e_hE hC hH, s_b1_s, e_bi_t (e_hs_of (by omega) he), if_neg (by decide), e_onBoy_17 hT (by omega) (by omega), s_b1_s, e_bi_if]
    · unfold fM_holds_130
      rw [x0, x1, x2, e_ix (show 136 + 4 * k < 375 by omega) (by omega), s_b1_s, e_ix (show 137 + 4 * k < 375 by omega) (by omega), s_b1_s, e_ix (show 135 + 4 * k < 375 by omega) (by omega), s_b1_s, hG, f0, if_neg (show ¬ Int32.ofNat (50 + 23) = 1 by decide), if_neg (show ¬ Int32.ofNat (50 + 23) = 2 by decide), if_neg (show ¬ Int32.ofNat (50 + 23) = 3 by decide), if_neg (show ¬ Int32.ofNat (50 + 23) = 70 by decide), if_neg (show ¬ Int32.ofNat (50 + 23) = 71 by decide), if_neg (show ¬ Int32.ofNat (50 + 23) = 72 by decide), if_pos (show Int32.ofNat (50 + 23) = 73 from rfl), e1, e_onOf (by omega) (by omega), s_b1_s, hG, e_bi_if]
  · obtain ⟨e, he, e1, e2⟩ := h5 (Or.inr rfl)
    refine ⟨fun b => f (17 + e) = Int32.ofNat b, fun b hb => ?_, fun K b hb => ?_⟩
    · unfold fS_holds_27_17
      rw [e_ix hi (by omega), s_b1_s, st, if_pos (show s_okw (some (1000 + 24)) = true from rfl), if_neg (show ¬ (some (1000 + 24) : Option Nat) = some 1020 by decide), if_pos (show s_okw (some (1000 + 24)) = true from rfl), if_neg (show ¬ (some (1000 + 24) : Option Nat) = some 1021 by decide), if_pos (show s_okw (some (1000 + 24)) = true from rfl), if_neg (show ¬ (some (1000 + 24) : Option Nat) = some 1022 by decide), if_pos (show s_okw (some (1000 + 24)) = true from rfl), if_neg (show ¬ (some (1000 + 24) : Option Nat) = some 1023 by decide), if_pos (show s_okw (some (1000 + 24)) = true from rfl), if_pos (show (some (1000 + 24) : Option Nat) = some 1024 from rfl), e2, e_hE hC hH, s_b1_s, e_bi_t (e_hs_of (by omega) he), if_neg (by decide), e_ix (show e < 10 by omega) (by omega), s_b1_s, (hC.2.2.2 e he).1, e_bi_if]
    · unfold fM_holds_130
      rw [x0, x1, x2, e_ix (show 136 + 4 * k < 375 by omega) (by omega), s_b1_s, e_ix (show 137 + 4 * k < 375 by omega) (by omega), s_b1_s, e_ix (show 135 + 4 * k < 375 by omega) (by omega), s_b1_s, hG, f0, if_neg (show ¬ Int32.ofNat (50 + 24) = 1 by decide), if_neg (show ¬ Int32.ofNat (50 + 24) = 2 by decide), if_neg (show ¬ Int32.ofNat (50 + 24) = 3 by decide), if_neg (show ¬ Int32.ofNat (50 + 24) = 70 by decide), if_neg (show ¬ Int32.ofNat (50 + 24) = 71 by decide), if_neg (show ¬ Int32.ofNat (50 + 24) = 72 by decide), if_neg (show ¬ Int32.ofNat (50 + 24) = 73 by decide), if_pos (show Int32.ofNat (50 + 24) = 74 from rfl), e1, show (17 : Int32) + Int32.ofNat e = Int32.ofNat (17 + e) from by rw [Int32.ofNat_add]; rfl, e_ix (show 17 + e < 375 by omega) (by omega), s_b1_s, e_bi_if]
  · obtain ⟨y1, y2, y3⟩ := h6 (by omega)
    refine ⟨fun b => t_cq (X.1 29 i) (e_ld f b) (X.1 30 i), fun b hb => ?_, fun K b hb => ?_⟩
    · unfold fS_holds_27_17
      rw [e_ix hi (by omega), s_b1_s, st, if_pos (show s_okw (some (1000 + 25)) = true from rfl), if_neg (show ¬ (some (1000 + 25) : Option Nat) = some 1020 by decide), if_pos (show s_okw (some (1000 + 25)) = true from rfl), if_neg (show ¬ (some (1000 + 25) : Option Nat) = some 1021 by decide), if_pos (show s_okw (some (1000 + 25)) = true from rfl), if_neg (show ¬ (some (1000 + 25) : Option Nat) = some 1022 by decide), if_pos (show s_okw (some (1000 + 25)) = true from rfl), if_neg (show ¬ (some (1000 + 25) : Option Nat) = some 1023 by decide), if_pos (show s_okw (some (1000 + 25)) = true from rfl), if_neg (show ¬ (some (1000 + 25) : Option Nat) = some 1024 by decide), show fS_measure_17 (some (1000 + 25)) (Int32.ofNat b) X = some (e_ld f b) from by
        unfold fS_measure_17
        rw [if_pos (show s_okw (some (1000 + 25)) = true from rfl), if_pos (show (some (1000 + 25) : Option Nat) = some 1025 from rfl), e_ix (show b < 7 by omega) (by omega), s_b1_s, hT.2.2.1 b (by omega)], s_b1_s]
      exact t_cqC y3
    · unfold fM_holds_130
      rw [x0, x1, x2, e_ix (show 136 + 4 * k < 375 by omega) (by omega), s_b1_s, e_ix (show 137 + 4 * k < 375 by omega) (by omega), s_b1_s, e_ix (show 135 + 4 * k < 375 by omega) (by omega), s_b1_s, hG, f0, if_neg (show ¬ Int32.ofNat (50 + 25) = 1 by decide), if_neg (show ¬ Int32.ofNat (50 + 25) = 2 by decide), if_neg (show ¬ Int32.ofNat (50 + 25) = 3 by decide), if_neg (show ¬ Int32.ofNat (50 + 25) = 70 by decide), if_neg (show ¬ Int32.ofNat (50 + 25) = 71 by decide), if_neg (show ¬ Int32.ofNat (50 + 25) = 72 by decide), if_neg (show ¬ Int32.ofNat (50 + 25) = 73 by decide), if_neg (show ¬ Int32.ofNat (50 + 25) = 74 by decide), if_pos (show Int32.ofNat (50 + 25) - 50 = 25 from rfl), e_loadOf (by omega), s_b1_s, hG]
      unfold fM_holds_130_303
      rw [x3, e_ix (show 138 + 4 * k < 375 by omega) (by omega), s_b1_s, hG, y1, y2]
      exact t_cqM y3
  · obtain ⟨y1, y2, y3⟩ := h6 (by omega)
    refine ⟨fun b => t_cq (X.1 29 i) (f (10 + b)) (X.1 30 i), fun b hb => ?_, fun K b hb => ?_⟩
    · unfold fS_holds_27_17
      rw [e_ix hi (by omega), s_b1_s, st, if_pos (show s_okw (some (1000 + 26)) = true from rfl), if_neg (show ¬ (some (1000 + 26) : Option Nat) = some 1020 by decide), if_pos (show s_okw (some (1000 + 26)) = true from rfl), if_neg (show ¬ (some (1000 + 26) : Option Nat) = some 1021 by decide), if_pos (show s_okw (some (1000 + 26)) = true from rfl), if_neg (show ¬ (some (1000 + 26) : Option Nat) = some 1022 by decide), if_pos (show s_okw (some (1000 + 26)) = true from rfl), if_neg (show ¬ (some (1000 + 26) : Option Nat) = some 1023 by decide), if_pos (show s_okw (some (1000 + 26)) = true from rfl), if_neg (show ¬ (some (1000 + 26) : Option Nat) = some 1024 by decide), show fS_measure_17 (some (1000 + 26)) (Int32.ofNat b) X = some (f (10 + b)) from by
        unfold fS_measure_17
        rw [if_pos (show s_okw (some (1000 + 26)) = true from rfl), if_neg (show ¬ (some (1000 + 26) : Option Nat) = some 1025 by decide), if_pos (show s_okw (some (1000 + 26)) = true from rfl), if_pos (show (some (1000 + 26) : Option Nat) = some 1026 from rfl), e_ix (show b < 7 by omega) (by omega), s_b1_s, hC.2.2.1 b hb], s_b1_s]
      exact t_cqC y3
    · unfold fM_holds_130
      rw [x0, x1, x2, e_ix (show 136 + 4 * k < 375 by omega) (by omega), s_b1_s, e_ix (show 137 + 4 * k < 375 by omega) (by omega), s_b1_s, e_ix (show 135 + 4 * k < 375 by omega) (by omega), s_b1_s, hG, f0, if_neg (show ¬ Int32.ofNat (50 + 26) = 1 by decide), if_neg (show ¬ Int32.ofNat (50 + 26) = 2 by decide), if_neg (show ¬ Int32.ofNat (50 + 26) = 3 by decide), if_neg (show ¬ Int32.ofNat (50 + 26) = 70 by decide), if_neg (show ¬ Int32.ofNat (50 + 26) = 71 by decide), if_neg (show ¬ Int32.ofNat (50 + 26) = 72 by decide), if_neg (show ¬ Int32.ofNat (50 + 26) = 73 by decide), if_neg (show ¬ Int32.ofNat (50 + 26) = 74 by decide), if_neg (show ¬ Int32.ofNat (50 + 26) - 50 = 25 by decide), if_pos (show Int32.ofNat (50 + 26) - 50 = 26 from rfl), show (10 : Int32) + Int32.ofNat b = Int32.ofNat (10 + b) from by rw [Int32.ofNat_add]; rfl, e_ix (show 10 + b < 375 by omega) (by omega), s_b1_s]
      unfold fM_holds_130_303
      rw [x3, e_ix (show 138 + 4 * k < 375 by omega) (by omega), s_b1_s, hG, y1, y2]
      exact t_cqM y3
  · obtain ⟨y1, y2, y3⟩ := h6 (by omega)
    refine ⟨fun b => t_cq (X.1 29 i) (f (56 + b)) (X.1 30 i), fun b hb => ?_, fun K b hb => ?_⟩
    · unfold fS_holds_27_17
      rw [e_ix hi (by omega), s_b1_s, st, if_pos (show s_okw (some (1000 + 27)) = true from rfl), if_neg (show ¬ (some (1000 + 27) : Option Nat) = some 1020 by decide), if_pos (show s_okw (some (1000 + 27)) = true from rfl), if_neg (show ¬ (some (1000 + 27) : Option Nat) = some 1021 by decide), if_pos (show s_okw (some (1000 + 27)) = true from rfl), if_neg (show ¬ (some (1000 + 27) : Option Nat) = some 1022 by decide), if_pos (show s_okw (some (1000 + 27)) = true from rfl), if_neg (show ¬ (some (1000 + 27) : Option Nat) = some 1023 by decide), if_pos (show s_okw (some (1000 + 27)) = true from rfl), if_neg (show ¬ (some (1000 + 27) : Option Nat) = some 1024 by decide), show fS_measure_17 (some (1000 + 27)) (Int32.ofNat b) X = some (f (56 + b)) from by
        unfold fS_measure_17
        rw [if_pos (show s_okw (some (1000 + 27)) = true from rfl), if_neg (show ¬ (some (1000 + 27) : Option Nat) = some 1025 by decide), if_pos (show s_okw (some (1000 + 27)) = true from rfl), if_neg (show ¬ (some (1000 + 27) : Option Nat) = some 1026 by decide), if_pos (show s_okw (some (1000 + 27)) = true from rfl), if_pos (show (some (1000 + 27) : Option Nat) = some 1027 from rfl), e_ix (show b < 7 by omega) (by omega), s_b1_s, hT.2.2.2.2 b (by omega)], s_b1_s]
      exact t_cqC y3
    · unfold fM_holds_130
      rw [x0, x1, x2, e_ix (show 136 + 4 * k < 375 by omega) (by omega), s_b1_s, e_ix (show 137 + 4 * k < 375 by omega) (by omega), s_b1_s, e_ix (show 135 + 4 * k < 375 by omega) (by omega), s_b1_s, hG, f0, if_neg (show ¬ Int32.ofNat (50 + 27) = 1 by decide), if_neg (show ¬ Int32.ofNat (50 + 27) = 2 by decide), if_neg (show ¬ Int32.ofNat (50 + 27) = 3 by decide), if_neg (show ¬ Int32.ofNat (50 + 27) = 70 by decide), if_neg (show ¬ Int32.ofNat (50 + 27) = 71 by decide), if_neg (show ¬ Int32.ofNat (50 + 27) = 72 by decide), if_neg (show ¬ Int32.ofNat (50 + 27) = 73 by decide), if_neg (show ¬ Int32.ofNat (50 + 27) = 74 by decide), if_neg (show ¬ Int32.ofNat (50 + 27) - 50 = 25 by decide), if_neg (show ¬ Int32.ofNat (50 + 27) - 50 = 26 by decide), if_pos (show Int32.ofNat (50 + 27) - 50 = 27 from rfl), show (56 : Int32) + Int32.ofNat b = Int32.ofNat (56 + b) from by rw [Int32.ofNat_add]; rfl, e_ix (show 56 + b < 375 by omega) (by omega), s_b1_s]
      unfold fM_holds_130_303
      rw [x3, e_ix (show 138 + 4 * k < 375 by omega) (by omega), s_b1_s, hG, y1, y2]
      exact t_cqM y3
  · obtain ⟨y1, y2, y3⟩ := h6 (by omega)
    refine ⟨fun b => t_cq (X.1 29 i) (Int32.ofNat b) (X.1 30 i), fun b hb => ?_, fun K b hb => ?_⟩
    · unfold fS_holds_27_17
      rw [e_ix hi (by omega), s_b1_s, st, if_pos (show s_okw (some (1000 + 28)) = true from rfl), if_neg (show ¬ (some (1000 + 28) : Option Nat) = some 1020 by decide), if_pos (show s_okw (some (1000 + 28)) = true from rfl), if_neg (show ¬ (some (1000 + 28) : Option Nat) = some 1021 by decide), if_pos (show s_okw (some (1000 + 28)) = true from rfl), if_neg (show ¬ (some (1000 + 28) : Option Nat) = some 1022 by decide), if_pos (show s_okw (some (1000 + 28)) = true from rfl), if_neg (show ¬ (some (1000 + 28) : Option Nat) = some 1023 by decide), if_pos (show s_okw (some (1000 + 28)) = true from rfl), if_neg (show ¬ (some (1000 + 28) : Option Nat) = some 1024 by decide), show fS_measure_17 (some (1000 + 28)) (Int32.ofNat b) X = some (Int32.ofNat b) from by
        unfold fS_measure_17
        rw [if_pos (show s_okw (some (1000 + 28)) = true from rfl), if_neg (show ¬ (some (1000 + 28) : Option Nat) = some 1025 by decide), if_pos (show s_okw (some (1000 + 28)) = true from rfl), if_neg (show ¬ (some (1000 + 28) : Option Nat) = some 1026 by decide), if_pos (show s_okw (some (1000 + 28)) = true from rfl), if_neg (show ¬ (some (1000 + 28) : Option Nat) = some 1027 by decide)], s_b1_s]
      exact t_cqC y3
    · unfold fM_holds_130
      rw [x0, x1, x2, e_ix (show 136 + 4 * k < 375 by omega) (by omega), s_b1_s, e_ix (show 137 + 4 * k < 375 by omega) (by omega), s_b1_s, e_ix (show 135 + 4 * k < 375 by omega) (by omega), s_b1_s, hG, f0, if_neg (show ¬ Int32.ofNat (50 + 28) = 1 by decide), if_neg (show ¬ Int32.ofNat (50 + 28) = 2 by decide), if_neg (show ¬ Int32.ofNat (50 + 28) = 3 by decide), if_neg (show ¬ Int32.ofNat (50 + 28) = 70 by decide), if_neg (show ¬ Int32.ofNat (50 + 28) = 71 by decide), if_neg (show ¬ Int32.ofNat (50 + 28) = 72 by decide), if_neg (show ¬ Int32.ofNat (50 + 28) = 73 by decide), if_neg (show ¬ Int32.ofNat (50 + 28) = 74 by decide), if_neg (show ¬ Int32.ofNat (50 + 28) - 50 = 25 by decide), if_neg (show ¬ Int32.ofNat (50 + 28) - 50 = 26 by decide), if_neg (show ¬ Int32.ofNat (50 + 28) - 50 = 27 by decide)]
      unfold fM_holds_130_303
      rw [x3, e_ix (show 138 + 4 * k < 375 by omega) (by omega), s_b1_s, hG, y1, y2]
      exact t_cqM y3
end SNV
