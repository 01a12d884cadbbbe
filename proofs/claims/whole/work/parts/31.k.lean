-- FEED
theorem e_by8 (x : Int32) (s : Nat) (hs : s = 0 ∨ s = 8 ∨ s = 16 ∨ s = 24) : (x >>> (Int32.ofNat s &&& 31)).toInt8 = (((x.toUInt32 >>> ((Int32.ofNat s).toUInt32 &&& Int32.toUInt32 31)).toInt32) &&& 255).toInt8 := by
  apply Int8.toBitVec_inj.mp
  rw [Int32.toBitVec_toInt8, Int32.toBitVec_toInt8, Int32.toBitVec_and]
  apply BitVec.eq_of_getLsbD_eq
  intro i hi
  rw [BitVec.getLsbD_signExtend, BitVec.getLsbD_signExtend]
  have h255 : ∀ i, i < 8 → (255 : Int32).toBitVec.getLsbD i = true := by decide
  rcases hs with rfl | rfl | rfl | rfl
  · have e1 : (x >>> (Int32.ofNat 0 &&& 31)).toBitVec = x.toBitVec.sshiftRight 0 := rfl
    have e2 : ((x.toUInt32 >>> ((Int32.ofNat 0).toUInt32 &&& Int32.toUInt32 31)).toInt32).toBitVec = x.toBitVec >>> 0 := rfl
    rw [e1, e2, BitVec.getLsbD_and, BitVec.getLsbD_sshiftRight, BitVec.getLsbD_ushiftRight, h255 i hi, if_pos (by omega), if_pos (by omega), if_pos (by omega), Bool.and_true, show decide (32 ≤ i) = false from decide_eq_false (by omega), Bool.not_false, Bool.true_and]
  · have e1 : (x >>> (Int32.ofNat 8 &&& 31)).toBitVec = x.toBitVec.sshiftRight 8 := rfl
    have e2 : ((x.toUInt32 >>> ((Int32.ofNat 8).toUInt32 &&& Int32.toUInt32 31)).toInt32).toBitVec = x.toBitVec >>> 8 := rfl
    rw [e1, e2, BitVec.getLsbD_and, BitVec.getLsbD_sshiftRight, BitVec.getLsbD_ushiftRight, h255 i hi, if_pos (by omega), if_pos (by omega), if_pos (by omega), Bool.and_true, show decide (32 ≤ i) = false from decide_eq_false (by omega), Bool.not_false, Bool.true_and]
  · have e1 : (x >>> (Int32.ofNat 16 &&& 31)).toBitVec = x.toBitVec.sshiftRight 16 := rfl
    have e2 : ((x.toUInt32 >>> ((Int32.ofNat 16).toUInt32 &&& Int32.toUInt32 31)).toInt32).toBitVec = x.toBitVec >>> 16 := rfl
    rw [e1, e2, BitVec.getLsbD_and, BitVec.getLsbD_sshiftRight, BitVec.getLsbD_ushiftRight, h255 i hi, if_pos (by omega), if_pos (by omega), if_pos (by omega), Bool.and_true, show decide (32 ≤ i) = false from decide_eq_false (by omega), Bool.not_false, Bool.true_and]
  · have e1 : (x >>> (Int32.ofNat 24 &&& 31)).toBitVec = x.toBitVec.sshiftRight 24 := rfl
    have e2 : ((x.toUInt32 >>> ((Int32.ofNat 24).toUInt32 &&& Int32.toUInt32 31)).toInt32).toBitVec = x.toBitVec >>> 24 := rfl
    rw [e1, e2, BitVec.getLsbD_and, BitVec.getLsbD_sshiftRight, BitVec.getLsbD_ushiftRight, h255 i hi, if_pos (by omega), if_pos (by omega), if_pos (by omega), Bool.and_true, show decide (32 ≤ i) = false from decide_eq_false (by omega), Bool.not_false, Bool.true_and]
theorem e_and255 (x : Int32) : ∃ u, u < 256 ∧ x &&& 255 = Int32.ofNat u := by
  have h0 : (x &&& 255).toBitVec.toNat < 256 := by
    rw [Int32.toBitVec_and, BitVec.toNat_and]
    exact Nat.lt_succ_of_le (Nat.and_le_right (n := x.toBitVec.toNat) (m := 255))
  refine ⟨(x &&& 255).toBitVec.toNat, h0, ?_⟩
  apply Int32.toBitVec_inj.mp
  rw [Int32.toBitVec_ofNat']
  apply BitVec.eq_of_toNat_eq
  rw [BitVec.toNat_ofNat, Nat.mod_eq_of_lt (by omega)]
theorem e_i8 (x : Int32) : x.toInt8.toInt32.toInt8.toInt32 = x.toInt8.toInt32 := by
  rw [Int8.toInt8_toInt32]
/-- what the class writes, and what the reference does -/
def e_wC (x s : Int32) : Int32 := ((x >>> (s &&& 31)).toInt8.toInt32).toInt8.toInt32
def e_wM (x s : Int32) : Int32 := ((x.toUInt32 >>> (s.toUInt32 &&& Int32.toUInt32 31)).toInt32) &&& 255
theorem e_wCM (x : Int32) (s : Nat) (hs : s = 0 ∨ s = 8 ∨ s = 16 ∨ s = 24) : ∃ u, u < 256 ∧ e_wM x (Int32.ofNat s) = Int32.ofNat u ∧ e_wC x (Int32.ofNat s) = (Int32.ofNat u).toInt8.toInt32 := by
  obtain ⟨u, h1, h2⟩ := e_and255 ((x.toUInt32 >>> ((Int32.ofNat s).toUInt32 &&& Int32.toUInt32 31)).toInt32)
  refine ⟨u, h1, h2, ?_⟩
  unfold e_wC
  rw [e_i8, e_by8 x s hs, h2]
def e_rC (x : Int32) (n : Nat) (r : Nat → Int32) : Nat → Int32 := va_up (va_up (va_up (va_up r n (e_wC x 24)) (n + 1) (e_wC x 16)) (n + 2) (e_wC x 8)) (n + 3) (e_wC x 0)
def e_rM (x : Int32) (n : Nat) (r : Nat → Int32) : Nat → Int32 := va_up (va_up (va_up (va_up r n (e_wM x 24)) (n + 1) (e_wM x 16)) (n + 2) (e_wM x 8)) (n + 3) (e_wM x 0)
theorem e_by_up {r r' : Nat → Int32} {x y : Int32} (k : Nat) (h : e_by r r') (hu : ∃ u, u < 256 ∧ y = Int32.ofNat u ∧ x = (Int32.ofNat u).toInt8.toInt32) : e_by (va_up r k x) (va_up r' k y) := by
  intro j hj
  by_cases hq : j = k
  · subst hq; rw [e_ve, e_ve]; exact hu
  · rw [e_vn _ _ hq, e_vn _ _ hq]; exact h j hj
theorem e_by_4 {r r' : Nat → Int32} (x : Int32) (n : Nat) (h : e_by r r') : e_by (e_rC x n r) (e_rM x n r') := e_by_up _ (e_by_up _ (e_by_up _ (e_by_up _ h (e_wCM x 24 (by omega))) (e_wCM x 16 (by omega))) (e_wCM x 8 (by omega))) (e_wCM x 0 (by omega))
def e_pC (x s : Int32) (n : Nat) (g : s_G) : s_G := s_si (s_si g 2 n (e_wC x s)) 1 1 (Int32.ofNat (n + 1))
def e_pM (x s : Int32) (n : Nat) (g : s_G) : s_G := s_si (s_si g 131 n (e_wM x s)) 130 2 (Int32.ofNat (n + 1))
theorem e_pC_1 {x s : Int32} {n : Nat} {g : s_G} (h : g.1 1 1 = Int32.ofNat n) (hn : n < 940) (hs : ¬ s < 0) : fQ_putNumber_1_3 x s g = some (.inl (s + -8, e_pC x s n g)) := by
  unfold fQ_putNumber_1_3
  rw [if_neg hs, h, if_pos (show Int32.ofNat n < 940 from e_T (b := 940) hn (by omega)), e_ix hn (by omega), s_b1_s, e_inc]
  rfl
theorem e_pM_1 {x s : Int32} {n : Nat} {g : s_G} (h : g.1 130 2 = Int32.ofNat n) (hn : n < 940) (hs : ¬ s < 0) : fM_come_130_3 x s g = some (.inl (s + -8, e_pM x s n g)) := by
  unfold fM_come_130_3
  rw [if_neg hs, h, e_ix hn (by omega), s_b1_s, e_inc]
  rfl
theorem e_lpC {x s : Int32} {n : Nat} {g : s_G} (h : g.1 1 1 = Int32.ofNat n) (hn : n < 940) (hs : ¬ s < 0) : s_lp (fun (y : Int32 × s_G) => fQ_putNumber_1_3 x y.1 y.2) (s, g) = s_lp (fun (y : Int32 × s_G) => fQ_putNumber_1_3 x y.1 y.2) (s + -8, e_pC x s n g) := s_lp_in (e_pC_1 h hn hs)
theorem e_lpM2 {x s : Int32} {n : Nat} {g : s_G} (h : g.1 130 2 = Int32.ofNat n) (hn : n < 940) (hs : ¬ s < 0) : s_lp (fun (y : Int32 × s_G) => fM_come_130_3 x y.1 y.2) (s, g) = s_lp (fun (y : Int32 × s_G) => fM_come_130_3 x y.1 y.2) (s + -8, e_pM x s n g) := s_lp_in (e_pM_1 h hn hs)
theorem e_putNumber {x : Int32} {n : Nat} {g : s_G} (h : g.1 1 1 = Int32.ofNat n) (hn : n + 4 ≤ 940) : ∃ g', fQ_putNumber_1 x g = some g' ∧ g'.1 2 = e_rC x n (g.1 2) ∧ g'.1 1 1 = Int32.ofNat (n + 4) ∧ e_fr (fun a => ¬ a = 1 ∧ ¬ a = 2) g g' := by
  refine ⟨e_pC x 0 (n + 3) (e_pC x 8 (n + 2) (e_pC x 16 (n + 1) (e_pC x 24 n g))), ?_, rfl, rfl, ?_⟩
  · unfold fQ_putNumber_1
    rw [e_lpC h (by omega) (by decide), show (24 : Int32) + -8 = 16 from rfl, e_lpC (n := n + 1) rfl (by omega) (by decide), show (16 : Int32) + -8 = 8 from rfl, e_lpC (n := n + 2) rfl (by omega) (by decide), show (8 : Int32) + -8 = 0 from rfl, e_lpC (n := n + 3) rfl (by omega) (by decide)]
    exact s_lp_out rfl
  · refine ⟨fun a ha => ?_, rfl⟩
    simp (disch := omega) only [e_pC, e_sN]
theorem e_come {x : Int32} {n : Nat} {g : s_G} (h : g.1 130 2 = Int32.ofNat n) (hn : n + 4 ≤ 940) : ∃ g', fM_come_130 x g = some g' ∧ g'.1 131 = e_rM x n (g.1 131) ∧ g'.1 130 = va_up (g.1 130) 2 (Int32.ofNat (n + 4)) ∧ e_fr (fun a => ¬ a = 130 ∧ ¬ a = 131) g g' := by
  refine ⟨e_pM x 0 (n + 3) (e_pM x 8 (n + 2) (e_pM x 16 (n + 1) (e_pM x 24 n g))), ?_, rfl, ?_, ?_⟩
  · unfold fM_come_130
    rw [e_lpM2 h (by omega) (by decide), show (24 : Int32) + -8 = 16 from rfl, e_lpM2 (n := n + 1) rfl (by omega) (by decide), show (16 : Int32) + -8 = 8 from rfl, e_lpM2 (n := n + 2) rfl (by omega) (by decide), show (8 : Int32) + -8 = 0 from rfl, e_lpM2 (n := n + 3) rfl (by omega) (by decide)]
    exact s_lp_out rfl
  · simp (disch := omega) only [e_pM, e_sN, e_sS]
    funext k
    by_cases hk : k = 2
    · subst hk; rw [e_ve, e_ve]
    · simp (disch := omega) only [e_vn]
  · refine ⟨fun a ha => ?_, rfl⟩
    simp (disch := omega) only [e_pM, e_sN]
theorem k_feed {g : s_G} (h : e_I g) (x1 x2 x3 x4 x5 : Int32) : e_k1 (fC_feed_0 x1 x2 x3 x4 x5 g) (fM_feed_130 x1 x2 x3 x4 x5) := by
  obtain ⟨hR, nb, ne, n, p, hs, hJ⟩ := id h
  obtain ⟨⟨m, hm, t1, t2⟩, hby⟩ := hR.1.1
  have e20 : Int32.ofNat m + 20 = Int32.ofNat (m + 20) := by rw [Int32.ofNat_add]; rfl
  unfold fC_feed_0
  rw [t1, e20]
  by_cases h0 : 940 < m + 20
  · rw [if_pos (show 940 < Int32.ofNat (m + 20) from e_T (a := 940) h0 (by omega))]
    refine e_no h (-1) rfl ?_
    unfold fM_feed_130
    rw [t2, e20, if_pos (show 940 < Int32.ofNat (m + 20) from e_T (a := 940) h0 (by omega))]
  · rw [if_neg (show ¬ 940 < Int32.ofNat (m + 20) from e_F (a := 940) (by omega) (by omega))]
    obtain ⟨g1, a1, a2, a3, a4⟩ := e_putNumber (x := x1) t1 (by omega)
    obtain ⟨g2, b1, b2, b3, b4⟩ := e_putNumber (x := x2) a3 (by omega)
    obtain ⟨g3, c1, c2, c3, c4⟩ := e_putNumber (x := x3) b3 (by omega)
    obtain ⟨g4, d1, d2, d3, d4⟩ := e_putNumber (x := x4) c3 (by omega)
    obtain ⟨g5, f1, f2, f3, f4⟩ := e_putNumber (x := x5) d3 (by omega)
    have fr := (((a4.tr b4).tr c4).tr d4).tr f4
    rw [a1, s_b1_s, b1, s_b1_s, c1, s_b1_s, d1, s_b1_s, f1, s_b1_s, f3]
    have u2 : (s_si g5 130 0 0).1 130 2 = Int32.ofNat m := by rw [e_sS, e_vn _ _ (by omega), fr.1 130 (by omega), t2]
    obtain ⟨G1, p1, p2, p3, p4⟩ := e_come (x := x1) u2 (by omega)
    obtain ⟨G2, q1, q2, q3, q4⟩ := e_come (x := x2) (g := G1) (n := m + 4) (by rw [p3, e_ve]) (by omega)
    obtain ⟨G3, r1, r2, r3, r4⟩ := e_come (x := x3) (g := G2) (n := m + 4 + 4) (by rw [q3, e_ve]) (by omega)
    obtain ⟨G4, v1, v2, v3, v4⟩ := e_come (x := x4) (g := G3) (n := m + 4 + 4 + 4) (by rw [r3, e_ve]) (by omega)
    obtain ⟨G5, w1, w2, w3, w4⟩ := e_come (x := x5) (g := G4) (n := m + 4 + 4 + 4 + 4) (by rw [v3, e_ve]) (by omega)
    have Fr := (((p4.tr q4).tr r4).tr v4).tr w4
    refine ⟨_, g5, G5, rfl, ?_, ?_⟩
    · unfold fM_feed_130
      rw [fr.1 130 (by omega), t2, e20, if_neg (show ¬ 940 < Int32.ofNat (m + 20) from e_F (a := 940) (by omega) (by omega)), p1, s_b1_s, q1, s_b1_s, r1, s_b1_s, v1, s_b1_s, w1, s_b1_s, w3, e_ve]
    · have q0 : ∀ a, ¬ a = 130 ∧ ¬ a = 131 ∧ ¬ a = 1 ∧ ¬ a = 2 → G5.1 a = g.1 a := by
        intro a ha
        rw [Fr.1 a ⟨ha.1, ha.2.1⟩, e_sN ha.1, fr.1 a ⟨ha.2.2.1, ha.2.2.2⟩]
      have q130 : ∀ k, ¬ k = 0 ∧ ¬ k = 2 → G5.1 130 k = g.1 130 k := by
        intro k hk
        rw [w3, e_vn _ _ hk.2, v3, e_vn _ _ hk.2, r3, e_vn _ _ hk.2, q3, e_vn _ _ hk.2, p3, e_vn _ _ hk.2, e_sS, e_vn _ _ hk.1, fr.1 130 (by omega)]
      have h2 : G5.2 = g.2 := Fr.2.trans fr.2
      refine ⟨e_R_tp hR (fun a ha => ?_) ?_ h2 ?_, nb, ne, n, p, hs, e_J_cg hJ (fun a ha => q0 a (by omega)) (q130 25 (by omega)) h2⟩
      · have := ha.1
        unfold e_rc at this
        by_cases ha0 : a = 130
        · omega
        · exact q0 a (by omega)
      · refine ⟨⟨by rw [e_ve], ?_, ?_, ?_⟩, ?_, ?_, ?_, ?_, ?_⟩ <;> rw [e_vn _ _ (by omega)] <;> exact q130 _ (by omega)
      · refine ⟨⟨m + 4 + 4 + 4 + 4 + 4, by omega, ?_, ?_⟩, ?_⟩
        · rw [Fr.1 1 (by omega), e_sN (by omega), f3]
        · rw [w3, e_ve]
        · rw [Fr.1 2 (by omega), e_sN (by omega), f2, d2, c2, b2, a2, w2, v2, r2, q2, p2, e_sN (by omega), fr.1 131 (by omega)]
          exact e_by_4 _ _ (e_by_4 _ _ (e_by_4 _ _ (e_by_4 _ _ (e_by_4 _ _ hby))))
