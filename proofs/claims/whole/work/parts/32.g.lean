-- IMAGES
def e_cpC (d s : Nat) (g : s_G) : s_G := s_si (s_si (s_si (s_si (s_ci (s_ci (s_ci (s_ci (s_ci (s_cL (s_si (s_si g d 0 (g.1 s 0)) d 1 (g.1 s 1)) (s + 1) (d + 1) 0 0 17) (s + 2) (d + 2) 0 0 7) (s + 3) (d + 3) 0 0 10) (s + 4) (d + 4) 0 0 10) (s + 5) (d + 5) 0 0 10) (s + 6) (d + 6) 0 0 4) d 8 (g.1 s 8)) d 9 (g.1 s 9)) d 10 (g.1 s 10)) d 11 (g.1 s 11)
theorem e_cpC_fr (d s : Nat) (g : s_G) : (∀ a, a < d ∨ d + 6 < a → (e_cpC d s g).1 a = g.1 a) ∧ (∀ a, ¬ a = d + 1 → (e_cpC d s g).2.1 a = g.2.1 a) ∧ (e_cpC d s g).2.2 = g.2.2 := by
  refine ⟨fun a ha => ?_, fun a ha => ?_, rfl⟩
  · simp (disch := omega) only [e_cpC, s_si, s_ci, s_cL, e_ua, e_ra]
  · show s_row g.2.1 (d + 1) _ a = _
    exact e_ra _ _ ha
theorem e_cpC_CR {d s nb ne : Nat} {g : s_G} {f : Nat → Int32} (h : d + 6 < s ∨ s + 6 < d) (hn : nb ≤ 7) (hm : ne ≤ 10) (hC : e_CR nb ne (g.1 s) (g.1 (s + 2)) (g.1 (s + 3)) (g.1 (s + 4)) (g.1 (s + 5)) (g.1 (s + 6)) f) : e_CR nb ne ((e_cpC d s g).1 d) ((e_cpC d s g).1 (d + 2)) ((e_cpC d s g).1 (d + 3)) ((e_cpC d s g).1 (d + 4)) ((e_cpC d s g).1 (d + 5)) ((e_cpC d s g).1 (d + 6)) f := by
  obtain ⟨⟨h1, h2, h3, h4, h5, h6⟩, h7, h8, h9⟩ := hC
  simp (disch := omega) only [e_cpC, s_si, s_ci, s_cL, e_ua, e_ra, e_us, e_rs]
  refine ⟨⟨?_, ?_, ?_, ?_, ?_, ?_⟩, ?_, ?_, ?_⟩
  · simp (disch := omega) only [e_vn, e_ve]; exact h1
  · simp (disch := omega) only [e_vn, e_ve]; exact h2
  · simp (disch := omega) only [e_vn, e_ve]; exact h3
  · simp (disch := omega) only [e_vn, e_ve]; exact h4
  · simp (disch := omega) only [e_vn, e_ve]; exact h5
  · simp (disch := omega) only [e_ve]; exact h6
  · intro k hk; rw [e_cpy _ _ (by omega)]; exact h7 k hk
  · intro k hk; rw [e_cpy _ _ (by omega)]; exact h8 k hk
  · intro k hk; rw [e_cpy _ _ (by omega), e_cpy _ _ (by omega), e_cpy _ _ (by omega)]; exact h9 k hk
theorem e_cpC_NM {d s nb ne : Nat} {g : s_G} {mn : Nat → Int64} (h : d + 6 < s ∨ s + 6 < d) (hn : nb ≤ 7) (hm : ne ≤ 10) (hN : e_NM nb ne (g.2.1 (s + 1)) mn) : e_NM nb ne ((e_cpC d s g).2.1 (d + 1)) mn := by
  have e1 : (e_cpC d s g).2.1 (d + 1) = va_cpy (g.2.1 (s + 1)) (g.2.1 (d + 1)) 0 0 17 := by
    show s_row g.2.1 (d + 1) _ (d + 1) = _
    exact e_rs _ _ _
  rw [e1]
  refine ⟨fun b hb => ?_, fun e he => ?_⟩
  · rw [e_cpy _ _ (by omega)]; exact hN.1 b hb
  · rw [e_cpy _ _ (by omega)]; exact hN.2 e he
def e_cpS2 (d s : Nat) (x2 : Int32) (g : s_G) : Option ((Int32 × s_G) ⊕ (s_G)) :=
  if x2 < 40 then (s_b1 (s_ix 40 x2) fun k2 => if s_okw (g.2.2 (s + 1) k2) = true then s_b1 (s_ix 40 x2) fun k4 => some (.inl (x2 + 1, (s_sr g (d + 1) k4 (g.2.2 (s + 1) k2))))
  else none)
  else s_in (if (g.1 s 6) = 0 ∨ (g.1 s 6) = 1 then (some (s_si (s_si (s_si (s_ci (s_ci g (s + 2) (d + 2) 0 0 40) (s + 3) (d + 3) 0 0 40) d 4 (g.1 s 4)) d 5 (g.1 s 5)) d 6 (g.1 s 6)))
  else none)
theorem e_SE_o {ne : Nat} {o o' : Nat → Int32} {st : Nat → Option Nat} {sg nu f : Nat → Int32} (h : e_SE ne o st sg nu f) (h4 : o' 4 = o 4) (h6 : o' 6 = o 6) : e_SE ne o' st sg nu f := by
  unfold e_SE
  rw [h4, h6]
  exact h
theorem e_rN {g : s_G} {a b k : Nat} {v : Option Nat} (h : b ≠ a) : (s_sr g a k v).2.2 b = g.2.2 b := e_ua _ _ _ h
theorem e_rS {g : s_G} {a k : Nat} {v : Option Nat} : (s_sr g a k v).2.2 a = va_up (g.2.2 a) k v := s_up_s _ _ _ _
theorem e_cpS {d s : Nat} {g : s_G} (hds : d + 4 < s ∨ s + 4 < d) (h0 : ∀ k, k < 40 → s_okw (g.2.2 (s + 1) k) = true) (h6 : g.1 s 6 = 0 ∨ g.1 s 6 = 1) : ∃ g', s_lp (fun (x : Int32 × s_G) => e_cpS2 d s x.1 x.2) (0, g) = some g' ∧ (∀ k, k < 40 → g'.2.2 (d + 1) k = g.2.2 (s + 1) k ∧ g'.1 (d + 2) k = g.1 (s + 2) k ∧ g'.1 (d + 3) k = g.1 (s + 3) k) ∧ (g'.1 d 4 = g.1 s 4 ∧ g'.1 d 5 = g.1 s 5 ∧ g'.1 d 6 = g.1 s 6) ∧ (∀ a, a < d ∨ d + 3 < a ∨ a = d + 1 → g'.1 a = g.1 a) ∧ (∀ a, ¬ a = d + 1 → g'.2.2 a = g.2.2 a) ∧ g'.2.1 = g.2.1 := by
  obtain ⟨w, ⟨h1, h2, h3, h4, h5⟩, h7⟩ := e_lpN (B := fun (x : Int32 × s_G) => e_cpS2 d s x.1 x.2) (fun k (x : Int32 × s_G) => x.1 = Int32.ofNat k ∧ (∀ j, j < k → x.2.2.2 (d + 1) j = g.2.2 (s + 1) j) ∧ (∀ a, ¬ a = d + 1 → x.2.2.2 a = g.2.2 a) ∧ x.2.1 = g.1 ∧ x.2.2.1 = g.2.1) 40 (x := (0, g)) (by
    intro k x hk hI
    obtain ⟨x1, x2⟩ := x
    obtain ⟨h1, h2, h3, h4, h5⟩ := hI
    dsimp only at h1 h2 h3 h4 h5
    subst h1
    refine ⟨(Int32.ofNat (k + 1), s_sr x2 (d + 1) k (g.2.2 (s + 1) k)), ?_, rfl, ?_, ?_, h4, h5⟩
    · dsimp only
      unfold e_cpS2
      rw [if_pos (show Int32.ofNat k < 40 from e_T (b := 40) hk (by omega)), e_ix (by omega) (by omega), s_b1_s, h3 (s + 1) (by omega), if_pos (h0 k hk), s_b1_s, e_inc]
    · intro j hj
      dsimp only
      rw [e_rS]
      by_cases hq : j = k
      · subst hq; rw [e_ve]
      · rw [e_vn _ _ hq]; exact h2 j (by omega)
    · intro a ha
      dsimp only
      rw [e_rN ha]; exact h3 a ha) ⟨rfl, fun j hj => absurd hj (by omega), fun _ _ => rfl, rfl, rfl⟩
  obtain ⟨x1, x2⟩ := w
  dsimp only at h1 h2 h3 h4 h5
  subst h1
  have eo : x2.1 s = g.1 s := by rw [h4]
  refine ⟨s_si (s_si (s_si (s_ci (s_ci x2 (s + 2) (d + 2) 0 0 40) (s + 3) (d + 3) 0 0 40) d 4 (g.1 s 4)) d 5 (g.1 s 5)) d 6 (g.1 s 6), ?_, ?_, ?_, ?_, ?_, ?_⟩
  · rw [h7]
    apply s_lp_out
    dsimp only
    unfold e_cpS2
    rw [if_neg (show ¬ Int32.ofNat 40 < 40 by decide), eo, if_pos h6]
    rfl
  · intro k hk
    refine ⟨h2 k hk, ?_, ?_⟩
    · simp (disch := omega) only [s_si, s_ci, e_ua, e_ra, e_rs]
      rw [e_cpy _ _ hk, h4]
    · simp (disch := omega) only [s_si, s_ci, e_ua, e_ra, e_rs]
      rw [e_cpy _ _ hk, h4]
  · refine ⟨?_, ?_, ?_⟩
    · simp (disch := omega) only [s_si, e_us, e_vn, e_ve]
    · simp (disch := omega) only [s_si, e_us, e_vn, e_ve]
    · simp (disch := omega) only [s_si, e_us, e_ve]
  · intro a ha
    simp (disch := omega) only [s_si, s_ci, e_ua, e_ra]
    rw [h4]
  · exact h3
  · exact h5
/-- the three copies -/
noncomputable def e_cp3 (cd td sd cs ts ss : Nat) (g : s_G) : Option s_G := s_b1 (some (e_cpC cd cs g)) fun g1 => s_b1 (some (e_cpA td ts g1)) fun g2 => s_b1 (s_lp (fun (x : Int32 × s_G) => e_cpS2 sd ss x.1 x.2) (0, g2)) fun g3 => some g3
theorem e_cp3_c {cd td sd cs ts ss nb ne : Nat} {g : s_G} {f : Nat → Int32} {mn : Nat → Int64} (hd : td = cd + 7 ∨ td = cd + 14) (hd2 : sd = td + 5 ∨ sd = td + 10) (hs : ts = cs + 7 ∨ ts = cs + 14) (hs2 : ss = ts + 5 ∨ ss = ts + 10) (hds : sd + 4 < cs ∨ ss + 4 < cd) (h : e_core cs ts ss nb ne g f mn) : ∃ g', e_cp3 cd td sd cs ts ss g = some g' ∧ e_core cd td sd nb ne g' f mn ∧ (∀ a, (a < cd ∨ cd + 6 < a) ∧ (a < td ∨ td + 4 < a) ∧ (a < sd ∨ sd + 3 < a) → g'.1 a = g.1 a) ∧ (∀ a, ¬ a = cd + 1 → g'.2.1 a = g.2.1 a) ∧ (∀ a, ¬ a = sd + 1 → g'.2.2 a = g.2.2 a) := by
  obtain ⟨h1, h2, h3, h4, h5, h6⟩ := h
  have hn := h1.1.1
  have hm := h1.2.1.1
  obtain ⟨c1, c2, c3⟩ := e_cpC_fr cd cs g
  have f2 := e_cpA_fx td ts (e_cpC cd cs g)
  have q1 : ∀ a, (a < cd ∨ cd + 6 < a) ∧ (a < td ∨ td + 4 < a) → (e_cpA td ts (e_cpC cd cs g)).1 a = g.1 a := fun a ha => by rw [f2.1 a ha.2, c1 a ha.1]
  have q2 : (e_cpA td ts (e_cpC cd cs g)).2.2 = g.2.2 := c3
  have hok : g.1 ss 6 = 0 ∨ g.1 ss 6 = 1 := by
    rcases h6.2 with h | h
    · exact Or.inl h.1
    · exact Or.inr h.1
  obtain ⟨g3, a1, a2, a3, a4, a5, a6⟩ := e_cpS (d := sd) (s := ss) (g := e_cpA td ts (e_cpC cd cs g)) (by omega) (by rw [q2]; exact h6.1) (by rw [q1 ss (by omega)]; exact hok)
  refine ⟨g3, ?_, ⟨h1, ?_, ?_, ?_, h5, ?_⟩, ?_, ?_, ?_⟩
  · unfold e_cp3
    rw [s_b1_s, s_b1_s, a1, s_b1_s]
  · have := e_cpC_CR (d := cd) (s := cs) (by omega) hn hm h2
    have q3 : ∀ a, cd ≤ a → a ≤ cd + 6 → g3.1 a = (e_cpC cd cs g).1 a := fun a ha hb => by rw [a4 a (by omega), f2.1 a (by omega)]
    rw [q3 cd (by omega) (by omega), q3 (cd + 2) (by omega) (by omega), q3 (cd + 3) (by omega) (by omega), q3 (cd + 4) (by omega) (by omega), q3 (cd + 5) (by omega) (by omega), q3 (cd + 6) (by omega) (by omega)]
    exact this
  · rw [a6]
    exact e_cpC_NM (d := cd) (s := cs) (by omega) hn hm h3
  · have hT : e_TA ts (e_cpC cd cs g) f := e_TA_cg h4 (fun b hb1 hb2 => c1 b (by omega)) (fun _ _ _ => rfl)
    exact e_TA_cg (e_cpA_TA (by omega) hT) (fun b hb1 hb2 => a4 b (by omega)) (fun _ _ _ => rfl)
  · have := e_SE_cg (f' := f) (st' := g3.2.2 (sd + 1)) (sg' := g3.1 (sd + 2)) (nu' := g3.1 (sd + 3)) h6 (fun _ _ _ => rfl) (fun k hk => by
      obtain ⟨b1, b2, b3⟩ := a2 k hk
      rw [b1, b2, b3, q2, q1 (ss + 2) (by omega), q1 (ss + 3) (by omega)]
      exact ⟨rfl, rfl, rfl⟩)
    refine e_SE_o this ?_ ?_
    · rw [a3.1, q1 ss (by omega)]
    · rw [a3.2.2, q1 ss (by omega)]
  · intro a ha
    rw [a4 a (by omega), q1 a ⟨ha.1, ha.2.1⟩]
  · intro a ha
    rw [a6]
    exact c2 a ha
  · intro a ha
    rw [a5 a ha, q2]
theorem e_lN {g : s_G} {a b k : Nat} {v : Int64} (h : b ≠ a) : (s_sl g a k v).2.1 b = g.2.1 b := e_ua _ _ _ h
theorem e_lS {g : s_G} {a k : Nat} {v : Int64} : (s_sl g a k v).2.1 a = va_up (g.2.1 a) k v := s_up_s _ _ _ _
theorem e_mImage {G : s_G} {k : Nat} (hk : k < 2) : ∃ G', s_lp (fun (x : Int32 × s_G) => fM_image_130_18 (Int32.ofNat k) x.1 x.2) (0, G) = some (1, G') ∧ (∀ i, i < 375 → G'.1 134 (375 * k + i) = G.1 132 i) ∧ (∀ j, (j < 375 * k ∨ 375 * k + 375 ≤ j) → G'.1 134 j = G.1 134 j) ∧ (∀ i, i < 17 → G'.2.1 139 (17 * k + i) = G.2.1 137 i) ∧ (∀ j, (j < 17 * k ∨ 17 * k + 17 ≤ j) → G'.2.1 139 j = G.2.1 139 j) ∧ G'.1 140 = va_up (G.1 140) k 1 ∧ (∀ a, ¬ a = 134 ∧ ¬ a = 140 → G'.1 a = G.1 a) ∧ (∀ a, ¬ a = 139 → G'.2.1 a = G.2.1 a) ∧ G'.2.2 = G.2.2 := by
  obtain ⟨w, ⟨h1, h2, h3, h4⟩, h5⟩ := e_lpN (B := fun (x : Int32 × s_G) => fM_image_130_18 (Int32.ofNat k) x.1 x.2) (fun i (x : Int32 × s_G) => x.1 = Int32.ofNat i ∧ (∀ j, j < i → x.2.1 134 (375 * k + j) = G.1 132 j) ∧ (∀ j, (j < 375 * k ∨ 375 * k + 375 ≤ j) → x.2.1 134 j = G.1 134 j) ∧ e_fx 134 134 G x.2) 375 (x := (0, G)) (by
    intro i x hi hI
    obtain ⟨x1, x2⟩ := x
    obtain ⟨h1, h2, h3, h4⟩ := hI
    dsimp only at h1 h2 h3 h4
    subst h1
    refine ⟨(Int32.ofNat (i + 1), s_si x2 134 (375 * k + i) (G.1 132 i)), ?_, rfl, ?_, ?_, h4.tr (e_fx.si (by omega) (by omega))⟩
    · dsimp only
      unfold fM_image_130_18
      simp (disch := omega) only [e_375, e_lt, hi, ↓reduceIte, ← Int32.ofNat_mul, ← Int32.ofNat_add, e_ix, s_b1_s, e_inc]
      rw [h4.1 132 (by omega)]
    · intro j hj
      dsimp only
      rw [e_sS]
      by_cases hq : j = i
      · subst hq; rw [e_ve]
      · rw [e_vn _ _ (by omega)]; exact h2 j (by omega)
    · intro j hj
      dsimp only
      rw [e_sS, e_vn _ _ (by omega)]; exact h3 j hj) ⟨rfl, fun j hj => absurd hj (by omega), fun _ _ => rfl, e_fx.rf _ _ _⟩
  obtain ⟨x1, x2⟩ := w
  dsimp only at h1 h2 h3 h4
  subst h1
  obtain ⟨w, ⟨m1, m2, m3, m4, m5, m6⟩, m7⟩ := e_lpN (B := fun (x : Int32 × s_G) => fM_image_130_51 (Int32.ofNat k) x.1 x.2) (fun i (x : Int32 × s_G) => x.1 = Int32.ofNat i ∧ (∀ j, j < i → x.2.2.1 139 (17 * k + j) = G.2.1 137 j) ∧ (∀ j, (j < 17 * k ∨ 17 * k + 17 ≤ j) → x.2.2.1 139 j = G.2.1 139 j) ∧ (∀ a, ¬ a = 139 → x.2.2.1 a = G.2.1 a) ∧ x.2.1 = x2.1 ∧ x.2.2.2 = G.2.2) 17 (x := (0, x2)) (by
    intro i x hi hI
    obtain ⟨y1, y2⟩ := x
    obtain ⟨h1, h2, h3, h4, h5, h6⟩ := hI
    dsimp only at h1 h2 h3 h4 h5 h6
    subst h1
    refine ⟨(Int32.ofNat (i + 1), s_sl y2 139 (17 * k + i) (G.2.1 137 i)), ?_, rfl, ?_, ?_, ?_, h5, h6⟩
    · dsimp only
      unfold fM_image_130_51
      simp (disch := omega) only [e_17, e_lt, hi, ↓reduceIte, ← Int32.ofNat_mul, ← Int32.ofNat_add, e_ix, s_b1_s, e_inc]
      rw [h4 137 (by omega)]
    · intro j hj
      dsimp only
      rw [e_lS]
      by_cases hq : j = i
      · subst hq; rw [e_ve]
      · rw [e_vn _ _ (by omega)]; exact h2 j (by omega)
    · intro j hj
      dsimp only
      rw [e_lS, e_vn _ _ (by omega)]; exact h3 j hj
    · intro a ha
      dsimp only
      rw [e_lN ha]; exact h4 a ha) ⟨rfl, fun j hj => absurd hj (by omega), fun j _ => by dsimp only; rw [h4.2], fun a _ => by dsimp only; rw [h4.2], rfl, by dsimp only; rw [h4.2]⟩
  obtain ⟨y1, y2⟩ := w
  dsimp only at m1 m2 m3 m4 m5 m6
  subst m1
  refine ⟨s_si y2 140 k 1, ?_, ?_, ?_, m2, m3, ?_, ?_, m4, m6⟩
  · rw [h5, s_lp_out (r := (1, s_si y2 140 k 1)) ?_]
    dsimp only
    unfold fM_image_130_18
    rw [if_neg (show ¬ Int32.ofNat 375 < 375 by decide), m7, s_lp_out (r := (1, s_si y2 140 k 1)) ?_]
    · rfl
    · dsimp only
      unfold fM_image_130_51
      rw [if_neg (show ¬ Int32.ofNat 17 < 17 by decide), e_ix (by omega) (by omega), s_b1_s]
      rfl
  · intro i hi
    rw [e_sN (by omega), m5]; exact h2 i hi
  · intro j hj
    rw [e_sN (by omega), m5]; exact h3 j hj
  · rw [e_sS, m5, h4.1 140 (by omega)]
  · intro a ha
    rw [e_sN ha.2, m5, h4.1 a (by omega)]
noncomputable def e_kI (k : Nat) (g : s_G) : Option s_G := s_b1 (e_cp3 (87 + 18 * k) (94 + 18 * k) (99 + 18 * k) 3 17 27 g) fun g3 => some (s_si g3 (86 + 18 * k) 3 1)
theorem e_b1_as {α β γ : Type} (o : Option α) (F : α → Option β) (H : β → Option γ) : s_b1 (s_b1 o F) H = s_b1 o (fun a => s_b1 (F a) H) := by cases o <;> rfl
theorem e_kI_0 (g : s_G) : fI_keep_86_3_17_27 g = e_kI 0 g := by
  unfold e_kI e_cp3
  rw [e_b1_as, s_b1_s, s_b1_s, e_b1_as]
  rfl
theorem e_kI_1 (g : s_G) : fI_keep_104_3_17_27 g = e_kI 1 g := by
  unfold e_kI e_cp3
  rw [e_b1_as, s_b1_s, s_b1_s, e_b1_as]
  rfl
theorem e_image_k {g : s_G} {k : Nat} (h : e_I g) (hk : k < 2) : ∃ g1 g2, e_kI k g = some g1 ∧ fM_image_130 (Int32.ofNat k) g1 = some (1, g2) ∧ e_I g2 := by
  obtain ⟨hR, nb, ne, n, p, hs, hJ⟩ := id h
  obtain ⟨g3, a1, a2, a3, a4, a5⟩ := e_cp3_c (cd := 87 + 18 * k) (td := 94 + 18 * k) (sd := 99 + 18 * k) (by omega) (by omega) (by omega) (by omega) (by omega) hJ.1
  have q3 : ∀ a, (a < 86 + 18 * k ∨ 103 + 18 * k < a) → g3.1 a = g.1 a := fun a ha => a3 a (by omega)
  generalize hg1 : s_si g3 (86 + 18 * k) 3 1 = g1
  have q1 : ∀ a, (a < 86 + 18 * k ∨ 103 + 18 * k < a) → g1.1 a = g.1 a := fun a ha => by rw [← hg1, e_sN (by omega), q3 a ha]
  have l1 : g1.2 = g3.2 := by rw [← hg1]; rfl
  obtain ⟨g2, b1, b2, b3, b4, b5, b6, b7, b8, b9⟩ := e_mImage (G := s_si g1 130 0 0) hk
  have e132 : (s_si g1 130 0 0).1 132 = g.1 132 := by rw [e_sN (by omega), q1 132 (by omega)]
  have e134 : (s_si g1 130 0 0).1 134 = g.1 134 := by rw [e_sN (by omega), q1 134 (by omega)]
  have e140 : (s_si g1 130 0 0).1 140 = g.1 140 := by rw [e_sN (by omega), q1 140 (by omega)]
  have el : ∀ a, ¬ a = 88 + 18 * k → (s_si g1 130 0 0).2.1 a = g.2.1 a := fun a ha => by
    show g1.2.1 a = _
    rw [l1]; exact a4 a (by omega)
  rw [e132] at b2
  rw [e134] at b3
  rw [el 137 (by omega)] at b4
  rw [el 139 (by omega)] at b5
  rw [e140] at b6
  refine ⟨g1, g2, by unfold e_kI; rw [a1, s_b1_s, hg1], ?_, ?_⟩
  · unfold fM_image_130
    rw [show (1 : Int32) = Int32.ofNat 2 - 1 from rfl, e_isIn_0 (by omega), s_b1_s, e_bi_t (e_hs_of (by omega) hk), e_i1, b1]
    rfl
  · have q : ∀ a, (a < 86 + 18 * k ∨ 103 + 18 * k < a) ∧ ¬ a = 130 ∧ ¬ a = 134 ∧ ¬ a = 140 → g2.1 a = g.1 a := fun a ha => by rw [b7 a ⟨ha.2.2.1, ha.2.2.2⟩, e_sN ha.2.1, q1 a ha.1]
    have q1c : ∀ a, ¬ a = 86 + 18 * k ∧ ¬ a = 130 ∧ ¬ a = 134 ∧ ¬ a = 140 → g2.1 a = g3.1 a := fun a ha => by rw [b7 a ⟨ha.2.2.1, ha.2.2.2⟩, e_sN ha.2.1, ← hg1, e_sN ha.1]
    have e86 : g2.1 (86 + 18 * k) 3 = 1 := by rw [b7 _ (by omega), e_sN (by omega), ← hg1, e_sS, e_ve]
    have o0 : ∀ j, j < 1000 → g2.1 0 j = g.1 0 j := fun j _ => by rw [q 0 (by omega)]
    have o1 : ∀ j, j < 1000 → g2.1 1 j = g.1 1 j := fun j _ => by rw [q 1 (by omega)]
    have o122 : ∀ j, j < 1000 → g2.1 122 j = g.1 122 j := fun j _ => by rw [q 122 (by omega)]
    have o130 : ∀ j, ¬ j = 0 → g2.1 130 j = g.1 130 j := fun j hj => by rw [b7 130 (by omega), e_sS, e_vn _ _ hj, q1 130 (by omega)]
    have lo : ∀ a, ¬ a = 88 + 18 * k ∧ ¬ a = 139 → g2.2.1 a = g.2.1 a := fun a ha => by rw [b8 a ha.2, el a ha.1]
    have lr : ∀ a, ¬ a = 100 + 18 * k → g2.2.2 a = g.2.2 a := fun a ha => by
      rw [b9]
      show g1.2.2 a = _
      rw [l1]; exact a5 a (by omega)
    have lr3 : g2.2.2 = g3.2.2 := by
      rw [b9]
      show g1.2.2 = _
      rw [l1]
    have lo3 : ∀ a, ¬ a = 139 → g2.2.1 a = g3.2.1 a := fun a ha => by
      rw [b8 a ha]
      show g1.2.1 a = _
      rw [l1]
    have new : e_im k g2 := by
      refine Or.inr ⟨e86, by rw [b6, e_ve], nb, ne, ?_⟩
      refine e_core_cg a2 (fun a h1 h2 => q1c a (by omega)) (lo3 _ (by omega)) (fun a h1 h2 => q1c a (by omega)) ⟨q1c _ (by omega), by rw [lr3], q1c _ (by omega), q1c _ (by omega)⟩ (fun i hi => b2 i hi) (fun i hi => b4 i hi)
    have old : ∀ j, j < 2 → ¬ j = k → e_im j g → e_im j g2 := by
      intro j hj hjk hi
      rcases hi with ⟨c1, c2⟩ | ⟨c1, c2, nb', ne', c3⟩
      · exact Or.inl ⟨by rw [q _ (by omega)]; exact c1, by rw [b6, e_vn _ _ hjk]; exact c2⟩
      · refine Or.inr ⟨by rw [q _ (by omega)]; exact c1, by rw [b6, e_vn _ _ hjk]; exact c2, nb', ne', ?_⟩
        refine e_core_cg c3 (fun a h1 h2 => q a (by omega)) (lo _ (by omega)) (fun a h1 h2 => q a (by omega)) ⟨q _ (by omega), lr _ (by omega), q _ (by omega), q _ (by omega)⟩ (fun i hi => b3 _ (by omega)) (fun i hi => b5 _ (by omega))
    have hi0 : e_im 0 g2 := by
      by_cases hq : k = 0
      · subst hq; exact new
      · exact old 0 (by omega) (by omega) hR.2.2.2.1.1
    have hi1 : e_im 1 g2 := by
      by_cases hq : k = 1
      · subst hq; exact new
      · exact old 1 (by omega) (by omega) hR.2.2.2.1.2
    refine ⟨?_, nb, ne, n, p, hs, ?_, ?_⟩
    · refine ⟨⟨?_, ?_⟩, ⟨?_, ?_, ?_⟩, ⟨?_, ?_, ?_⟩, ⟨?_, ?_⟩, ?_⟩
      · rw [o1 1 (by omega), q 2 (by omega), q 131 (by omega), o130 2 (by omega)]; exact hR.1.1
      · rw [o0 1 (by omega), o130 10 (by omega)]; exact hR.1.2
      · rw [o122 1 (by omega), q 123 (by omega), q 144 (by omega), o130 28 (by omega)]; exact hR.2.1.1
      · rw [o122 3 (by omega), q 124 (by omega), q 145 (by omega), o130 30 (by omega), o130 31 (by omega)]; exact hR.2.1.2.1
      · rw [o122 4 (by omega), o130 32 (by omega)]; exact hR.2.1.2.2
      · rw [q 127 (by omega), o130 34 (by omega)]; exact hR.2.2.1.1
      · rw [o0 15 (by omega), q 129 (by omega), q 148 (by omega), o130 37 (by omega)]; exact hR.2.2.1.2.1
      · rw [q 37 (by omega), q 150 (by omega), o130 42 (by omega)]; exact hR.2.2.1.2.2
      · exact hi0
      · exact hi1
      · rw [lr 33 (by omega)]; exact hR.2.2.2.2
    · refine e_core_cg hJ.1 (fun a h1 h2 => q a (by omega)) (lo _ (by omega)) (fun a h1 h2 => q a (by omega)) ⟨q _ (by omega), lr _ (by omega), q _ (by omega), q _ (by omega)⟩ (fun i hi => by rw [q 132 (by omega)]) (fun i hi => by rw [lo 137 (by omega)])
    · exact e_H_cg hJ.2 (fun a h1 h2 => q a (by omega)) (o130 25 (by omega)) (q 135 (by omega))
theorem k_image {g : s_G} (h : e_I g) (x : Int32) : e_k1 (fC_image_0 x g) (fM_image_130 x) := by
  unfold fC_image_0
  by_cases hs : e_hs 2 x
  · obtain ⟨k, hk, rfl⟩ := e_hs_k (by omega) hs
    obtain ⟨g1, g2, a1, a2, a3⟩ := e_image_k h hk
    rw [if_neg hs.1, if_pos (show Int32.ofNat k < 2 from hs.2)]
    refine ⟨1, g1, g2, ?_, a2, a3⟩
    have : k = 0 ∨ k = 1 := by omega
    rcases this with rfl | rfl
    · rw [if_pos (by decide), e_kI_0, a1, s_b1_s]
    · rw [if_neg (by decide), if_pos (by decide), e_kI_1, a1, s_b1_s]
  · refine e_no h 0 ?_ ?_
    · by_cases h0 : x < 0
      · rw [if_pos h0]
      · rw [if_neg h0, if_neg (show ¬ x < 2 from fun h1 => hs ⟨h0, h1⟩)]
    · unfold fM_image_130
      rw [show (1 : Int32) = Int32.ofNat 2 - 1 from rfl, e_isIn_0 (by omega), s_b1_s, e_bi_f hs, e_i0]
