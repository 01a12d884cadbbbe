theorem q_c {n k : Nat} {x : Int32} (hk : k ≤ n) (h : x = Int32.ofNat k) : e_c n x := ⟨k, hk, h⟩
set_option maxRecDepth 100000 in
/-- class and reference agree ahead of the first call -/
theorem q_I {h : s_H} (hI : q_ckI h = true) (hW : q_ckW h = true) (hE : q_ckE h = true) {xs : Nat → Int32} {Ln : Nat} : e_I (q_g h xs Ln) := by
  have A : ∀ (i : Nat) {x : Nat × Nat × Nat × Int32} (hx : q_L[i]? = some x), ∀ j, j < x.2.2.1 → (q_g h xs Ln).1 x.1 (x.2.1 + j) = x.2.2.2 := fun i x hx => q_at hI i hx
  unfold q_ckE at hE
  rw [Bool.and_eq_true] at hE
  have hE1 : (q_g h xs Ln).1 0 1 = (q_g h xs Ln).1 130 10 := by
    rw [q_g_n (by omega), q_g_n (by omega)]
    exact of_decide_eq_true hE.1
  have hE2 : (q_g h xs Ln).1 122 4 = (q_g h xs Ln).1 130 32 := by
    rw [q_g_n (by omega), q_g_n (by omega)]
    exact of_decide_eq_true hE.2
  have hWk : ∀ k, k < 40 → s_okw ((q_g h xs Ln).2.2 28 k) = true ∧ s_okw ((q_g h xs Ln).2.2 33 k) = true := by
    intro k hk
    unfold q_ckW at hW
    have := List.all_eq_true.mp hW k (List.mem_range.mpr hk)
    rw [Bool.and_eq_true] at this
    exact this
  have a0 : (q_g h xs Ln).1 1 1 = 0 := A 0 (x := (1, 1, 1, 0)) rfl 0 (by decide)
  have a1 : (q_g h xs Ln).1 130 2 = 0 := A 1 (x := (130, 2, 1, 0)) rfl 0 (by decide)
  have a2 : ∀ k, k < 940 → (q_g h xs Ln).1 2 k = 0 := fun k hk => by
    have := A 2 (x := (2, 0, 940, 0)) rfl k hk
    dsimp only at this
    rw [Nat.zero_add] at this
    exact this
  have a3 : ∀ k, k < 940 → (q_g h xs Ln).1 131 k = 0 := fun k hk => by
    have := A 3 (x := (131, 0, 940, 0)) rfl k hk
    dsimp only at this
    rw [Nat.zero_add] at this
    exact this
  have a4 : (q_g h xs Ln).1 122 1 = 0 := A 4 (x := (122, 1, 1, 0)) rfl 0 (by decide)
  have a5 : (q_g h xs Ln).1 130 28 = 0 := A 5 (x := (130, 28, 1, 0)) rfl 0 (by decide)
  have a6 : (q_g h xs Ln).1 130 31 = 0 := A 6 (x := (130, 31, 1, 0)) rfl 0 (by decide)
  have a7 : (q_g h xs Ln).1 122 3 = 0 := A 7 (x := (122, 3, 1, 0)) rfl 0 (by decide)
  have a8 : (q_g h xs Ln).1 127 0 = 0 := A 8 (x := (127, 0, 1, 0)) rfl 0 (by decide)
  have a9 : (q_g h xs Ln).1 130 34 = -1 := A 9 (x := (130, 34, 1, -1)) rfl 0 (by decide)
  have a10 : (q_g h xs Ln).1 0 15 = 0 := A 10 (x := (0, 15, 1, 0)) rfl 0 (by decide)
  have a11 : (q_g h xs Ln).1 130 37 = 0 := A 11 (x := (130, 37, 1, 0)) rfl 0 (by decide)
  have a12 : (q_g h xs Ln).1 37 6 = 0 := A 12 (x := (37, 6, 1, 0)) rfl 0 (by decide)
  have a13 : (q_g h xs Ln).1 130 42 = 0 := A 13 (x := (130, 42, 1, 0)) rfl 0 (by decide)
  have a14 : (q_g h xs Ln).1 86 3 = 0 := A 14 (x := (86, 3, 1, 0)) rfl 0 (by decide)
  have a15 : (q_g h xs Ln).1 140 0 = 0 := A 15 (x := (140, 0, 2, 0)) rfl 0 (by decide)
  have a15b : (q_g h xs Ln).1 140 1 = 0 := A 15 (x := (140, 0, 2, 0)) rfl 1 (by decide)
  have a16 : (q_g h xs Ln).1 104 3 = 0 := A 16 (x := (104, 3, 1, 0)) rfl 0 (by decide)
  have f0 : (q_g h xs Ln).1 132 0 = 0 := A 17 (x := (132, 0, 2, 0)) rfl 0 (by decide)
  have f1 : (q_g h xs Ln).1 132 1 = 0 := A 17 (x := (132, 0, 2, 0)) rfl 1 (by decide)
  have f2 : (q_g h xs Ln).1 132 2 = 10 := A 18 (x := (132, 2, 1, 10)) rfl 0 (by decide)
  have f3 : (q_g h xs Ln).1 132 3 = 2 := A 19 (x := (132, 3, 1, 2)) rfl 0 (by decide)
  have f4 : (q_g h xs Ln).1 132 4 = 1 := A 20 (x := (132, 4, 1, 1)) rfl 0 (by decide)
  have f5 : (q_g h xs Ln).1 132 5 = 0 := A 21 (x := (132, 5, 1, 0)) rfl 0 (by decide)
  have f6 : ∀ k, k < 4 → (q_g h xs Ln).1 132 (6 + k) = 3 := fun k hk => A 22 (x := (132, 6, 4, 3)) rfl k hk
  have f47 : (q_g h xs Ln).1 132 47 = 0 := A 23 (x := (132, 47, 1, 0)) rfl 0 (by decide)
  have f48 : (q_g h xs Ln).1 132 48 = 10 := A 24 (x := (132, 48, 1, 10)) rfl 0 (by decide)
  have f49 : (q_g h xs Ln).1 132 49 = 2 := A 25 (x := (132, 49, 1, 2)) rfl 0 (by decide)
  have fz : ∀ k, 50 ≤ k → k < 133 → (q_g h xs Ln).1 132 k = 0 := by
    intro k h1 h2
    have := A 26 (x := (132, 50, 83, 0)) rfl (k - 50) (by show k - 50 < 83; omega)
    dsimp only at this
    rw [show 50 + (k - 50) = k by omega] at this
    exact this
  have f133 : (q_g h xs Ln).1 132 133 = 0 := A 27 (x := (132, 133, 1, 0)) rfl 0 (by decide)
  have c0 : (q_g h xs Ln).1 3 0 = 0 := A 28 (x := (3, 0, 2, 0)) rfl 0 (by decide)
  have c1 : (q_g h xs Ln).1 3 1 = 0 := A 28 (x := (3, 0, 2, 0)) rfl 1 (by decide)
  have c8 : (q_g h xs Ln).1 3 8 = 10 := A 29 (x := (3, 8, 1, 10)) rfl 0 (by decide)
  have c9 : (q_g h xs Ln).1 3 9 = 2 := A 30 (x := (3, 9, 1, 2)) rfl 0 (by decide)
  have c10 : (q_g h xs Ln).1 3 10 = 1 := A 31 (x := (3, 10, 1, 1)) rfl 0 (by decide)
  have c11 : (q_g h xs Ln).1 3 11 = 0 := A 32 (x := (3, 11, 1, 0)) rfl 0 (by decide)
  have t9 : ∀ k, k < 4 → (q_g h xs Ln).1 9 k = 3 := fun k hk => by
    have := A 33 (x := (9, 0, 4, 3)) rfl k hk
    dsimp only at this
    rw [Nat.zero_add] at this
    exact this
  have s5 : (q_g h xs Ln).1 17 5 = 0 := A 34 (x := (17, 5, 1, 0)) rfl 0 (by decide)
  have s6 : (q_g h xs Ln).1 17 6 = 10 := A 35 (x := (17, 6, 1, 10)) rfl 0 (by decide)
  have s7 : (q_g h xs Ln).1 17 7 = 2 := A 36 (x := (17, 7, 1, 2)) rfl 0 (by decide)
  have s8 : (q_g h xs Ln).1 17 8 = 0 := A 37 (x := (17, 8, 1, 0)) rfl 0 (by decide)
  have s9 : (q_g h xs Ln).1 17 9 = 0 := A 38 (x := (17, 9, 1, 0)) rfl 0 (by decide)
  have z18 : ∀ k, k < 70 → (q_g h xs Ln).1 18 k = 0 := fun k hk => by
    have := A 39 (x := (18, 0, 70, 0)) rfl k hk
    dsimp only at this
    rw [Nat.zero_add] at this
    exact this
  have z19 : ∀ k, k < 7 → (q_g h xs Ln).1 19 k = 0 := fun k hk => by
    have := A 40 (x := (19, 0, 7, 0)) rfl k hk
    dsimp only at this
    rw [Nat.zero_add] at this
    exact this
  have z20 : ∀ k, k < 4 → (q_g h xs Ln).1 20 k = 0 := fun k hk => by
    have := A 41 (x := (20, 0, 4, 0)) rfl k hk
    dsimp only at this
    rw [Nat.zero_add] at this
    exact this
  have z21 : ∀ k, k < 7 → (q_g h xs Ln).1 21 k = 0 := fun k hk => by
    have := A 42 (x := (21, 0, 7, 0)) rfl k hk
    dsimp only at this
    rw [Nat.zero_add] at this
    exact this
  have n6 : (q_g h xs Ln).1 27 6 = 0 := A 43 (x := (27, 6, 1, 0)) rfl 0 (by decide)
  have h1 : (q_g h xs Ln).1 43 1 = 0 := A 44 (x := (43, 1, 2, 0)) rfl 0 (by decide)
  have h2 : (q_g h xs Ln).1 43 2 = 0 := A 44 (x := (43, 1, 2, 0)) rfl 1 (by decide)
  have h25 : (q_g h xs Ln).1 130 25 = 0 := A 45 (x := (130, 25, 1, 0)) rfl 0 (by decide)
  clear A
  generalize q_g h xs Ln = g at *
  have hld : ∀ b, b < 7 → e_ld (g.1 132) b = 0 := by
    intro b hb
    unfold e_ld
    rw [e_su_z (m := 0) 10 (by omega) (fun k _ hk => fz _ (by omega) (by omega))]
    rfl
  refine ⟨⟨⟨⟨⟨0, by omega, a0, a1⟩, fun k hk => ⟨0, by omega, a3 k hk, ?_⟩⟩, hE1⟩, ⟨⟨0, by omega, a4, a5, fun k hk => by omega⟩, Or.inl ⟨a6, a7⟩, hE2⟩, ⟨fun g' hg' => ?_, ⟨0, by omega, a10, a11, fun k hk => by omega⟩, Or.inl ⟨a12, a13⟩⟩, ⟨Or.inl ⟨a14, a15⟩, Or.inl ⟨a16, a15b⟩⟩, fun k hk => (hWk k hk).2⟩, 0, 0, 0, 0, fun _ => g.1 132, ⟨?_, ?_, ?_, ?_, ?_, ?_⟩, ?_⟩
  · rw [a2 k hk]; decide
  · rw [a9]
    unfold fL_findWatch_127
    rw [if_pos (hg'.trans a8)]
  · exact ⟨⟨by omega, f0⟩, ⟨by omega, f1⟩, ⟨q_c (k := 10) (by omega) f2, q_c (k := 2) (by omega) f3, q_c (k := 1) (by omega) f4, q_c (k := 0) (by omega) f5⟩, fun k hk => q_c (k := 3) (by omega) (f6 k hk), fun b hb => by omega, fun e he => by omega⟩
  · exact ⟨⟨c0.trans f0.symm, c1.trans f1.symm, c8.trans f2.symm, c9.trans f3.symm, c10.trans f4.symm, c11.trans f5.symm⟩, fun k hk => (t9 k hk).trans (f6 k hk).symm, fun b hb => by omega, fun e he => by omega⟩
  · exact ⟨fun b hb => by omega, fun e he => by omega⟩
  · refine ⟨⟨s5.trans (fz 50 (by omega) (by omega)).symm, s6.trans f48.symm, s7.trans f49.symm, s8.trans f47.symm, s9.trans (fz 51 (by omega) (by omega)).symm⟩, fun b e hb he => (z18 _ (by omega)).trans (fz _ (by omega) (by omega)).symm, fun b hb => (z19 b hb).trans (hld b hb).symm, fun k hk => (z20 k hk).trans (fz _ (by omega) (by omega)).symm, fun b hb => (z21 b hb).trans (fz _ (by omega) (by omega)).symm⟩
  · exact ⟨fun b e hb he => q_c (k := 0) (by omega) (fz _ (by omega) (by omega)), fun b e hb he _ => fz _ (by omega) (by omega), q_c (k := 0) (by omega) f47, q_c (k := 10) (by omega) f48, q_c (k := 2) (by omega) f49⟩
  · exact ⟨fun k hk => (hWk k hk).1, Or.inl ⟨n6, f133⟩⟩
  · exact ⟨⟨⟨by omega, by omega⟩, ⟨h1, h2⟩, fun j hj => by omega⟩, ⟨h25, fun j k hj => by omega⟩, fun j hj => by omega⟩
