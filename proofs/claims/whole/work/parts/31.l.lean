-- DRAWS
theorem e_u32 (v : UInt32) : v.toInt32 = Int32.ofNat v.toNat := by
  apply Int32.toBitVec_inj.mp
  rw [Int32.toBitVec_ofNat']
  apply BitVec.eq_of_toNat_eq
  rw [BitVec.toNat_ofNat, Nat.mod_eq_of_lt (UInt32.toNat_lt v)]
  rfl
theorem e_dq_ex (s : Int32) : ∃ y, y = s * 1103515245 + 12345 := ⟨_, rfl⟩
noncomputable def e_dq (s : Int32) : Int32 := Classical.choose (e_dq_ex s)
theorem e_dq_sp (s : Int32) : e_dq s = s * 1103515245 + 12345 := Classical.choose_spec (e_dq_ex s)
noncomputable def e_dy (s : Int32) : Int32 := ((e_dq s).toUInt32 >>> (Int32.toUInt32 8 &&& Int32.toUInt32 31)).toInt32
noncomputable def e_dv (s m : Int32) : Int32 := e_dy s - e_dy s / m * m
theorem e_dy_c (s : Int32) : ∃ y, y < 16777216 ∧ e_dy s = Int32.ofNat y := by
  refine ⟨((e_dq s).toUInt32 >>> (Int32.toUInt32 8 &&& Int32.toUInt32 31)).toNat, ?_, e_u32 _⟩
  rw [show Int32.toUInt32 8 &&& Int32.toUInt32 31 = (8 : UInt32) from rfl, UInt32.toNat_shiftRight, show (8 : UInt32).toNat % 32 = 8 from rfl, Nat.shiftRight_eq_div_pow]
  have := UInt32.toNat_lt (e_dq s).toUInt32
  omega
theorem e_mod {y m : Nat} (hy : y < 2147483648) (hm : m < 2147483648) : Int32.ofNat y - Int32.ofNat y / Int32.ofNat m * Int32.ofNat m = Int32.ofNat (y % m) := by
  rw [← Int32.ofNat_div hy hm, ← Int32.ofNat_mul, ← Int32.ofNat_sub _ _ (Nat.div_mul_le_self y m)]
  congr 1
  have := Nat.div_add_mod y m
  rw [Nat.mul_comm] at this
  omega
theorem e_dv_c (s : Int32) {m : Nat} (h0 : 0 < m) (hm : m ≤ 1000) : ∃ k, k < m ∧ e_dv s (Int32.ofNat m) = Int32.ofNat k := by
  obtain ⟨y, hy, ey⟩ := e_dy_c s
  refine ⟨y % m, Nat.mod_lt _ h0, ?_⟩
  unfold e_dv
  rw [ey, e_mod (by omega) (by omega)]
theorem e_nt {k : Nat} (hk : k < 2147483648) : (Int32.ofNat k).toNatClampNeg = k := Int32.toNatClampNeg_ofNat_of_lt (by omega)
noncomputable def e_de (ne : Nat) (s : Int32) : Nat := (e_dv s (Int32.ofNat ne)).toNatClampNeg
theorem e_de_c {ne : Nat} (s : Int32) (h0 : 0 < ne) (hm : ne ≤ 10) : e_de ne s < ne ∧ e_dv s (Int32.ofNat ne) = Int32.ofNat (e_de ne s) := by
  obtain ⟨k, hk, ek⟩ := e_dv_c s h0 (by omega)
  unfold e_de
  rw [ek, e_nt (by omega)]
  exact ⟨hk, rfl⟩
/-- one tells, by the happening's kind -/
def e_tl (f : Nat → Int32) (b e : Nat) : Nat → Int32 := e_tell f b e (f (27 + e)).toNatClampNeg
theorem e_kd {nb ne e : Nat} {f : Nat → Int32} (hH : e_HW nb ne f) (he : e < ne) : (f (27 + e)).toNatClampNeg < 4 ∧ f (27 + e) = Int32.ofNat (f (27 + e)).toNatClampNeg := by
  obtain ⟨k, hk, ek⟩ := (hH.2.2.2.2.2 e he).2.1
  rw [ek, e_nt (by omega)]
  exact ⟨hk, rfl⟩
noncomputable def e_da (ne b : Nat) (x : (Nat → Int32) × Int32) : (Nat → Int32) × Int32 := if e_dv x.2 4 = 3 then (x.1, e_dq x.2) else if ne = 0 then (x.1, e_dq x.2) else if e_why x.1 b (e_de ne (e_dq x.2)) = 0 then (if e_dv x.2 4 = 2 then e_lie x.1 b (e_de ne (e_dq x.2)) else e_tl x.1 b (e_de ne (e_dq x.2)), e_dq (e_dq x.2)) else (x.1, e_dq (e_dq x.2))
noncomputable def e_das (ne : Nat) (x : (Nat → Int32) × Int32) : Nat → (Nat → Int32) × Int32
  | 0 => x
  | n + 1 => e_da ne n (e_das ne x n)
noncomputable def e_d0 (x : (Nat → Int32) × Int32) : (Nat → Int32) × Int32 := (if e_dv x.2 4 = 0 then (if e_why3 x.1 = 0 then e_log x.1 else x.1) else x.1, e_dq x.2)
noncomputable def e_d1 (nb ne : Nat) (x : (Nat → Int32) × Int32) : (Nat → Int32) × Int32 := (e_day (e_das ne (e_d0 x) nb).1 nb, (e_das ne (e_d0 x) nb).2)
noncomputable def e_dd (nb ne : Nat) (x : (Nat → Int32) × Int32) : Nat → (Nat → Int32) × Int32
  | 0 => x
  | n + 1 => e_d1 nb ne (e_dd nb ne x n)
/-- bounds, and what stays -/
def e_ok (nb ne : Nat) (f f' : Nat → Int32) : Prop := e_so f f' ∧ e_SW nb ne f' ∧ e_HW nb ne f'
theorem e_ok.rf {nb ne : Nat} {f : Nat → Int32} (hH : e_HW nb ne f) (hS : e_SW nb ne f) : e_ok nb ne f f := ⟨fun _ _ => rfl, hS, hH⟩
theorem e_ok.mk' {nb ne : Nat} {f f' f'' : Nat → Int32} (h : e_ok nb ne f f') (h1 : e_so f' f'') (h2 : e_SW nb ne f'') : e_ok nb ne f f'' := ⟨h.1.tr h1, h2, e_HW_cg h.2.2 (fun k hk => h1 k (by omega))⟩
theorem e_so_tl {nb ne b e : Nat} {f : Nat → Int32} (hH : e_HW nb ne f) (hb : b < nb) (he : e < ne) : e_so f (e_tl f b e) := by
  have hn := hH.1.1
  have hm := hH.2.1.1
  exact e_so_tell (by omega) (by omega) (e_kd hH he).1
theorem e_tl_SW {nb ne b e : Nat} {f : Nat → Int32} (hH : e_HW nb ne f) (hS : e_SW nb ne f) (hb : b < nb) (he : e < ne) (h0 : ¬ f 48 = 0) : e_SW nb ne (e_tl f b e) := e_tell_SW hH hS hb he (e_kd hH he).1 h0
theorem e_tl_47 {nb ne b e : Nat} {f : Nat → Int32} (hH : e_HW nb ne f) (hb : b < nb) (he : e < ne) : e_tl f b e 47 = f 47 := by
  have hn := hH.1.1
  have hm := hH.2.1.1
  have hk := (e_kd hH he).1
  unfold e_tl e_tell
  rw [e_vn _ _ (by omega), e_vn _ _ (by omega), e_vn _ _ (by omega), e_vn _ _ (by omega)]
theorem e_lie_47 {b e : Nat} {f : Nat → Int32} : e_lie f b e 47 = f 47 := by
  unfold e_lie e_hsh
  rw [e_vn _ _ (by omega), e_vn _ _ (by omega), e_vn _ _ (by omega), e_vn _ _ (by omega)]
theorem e_da_ok {nb ne b : Nat} {f : Nat → Int32} {x : (Nat → Int32) × Int32} (hb : b < nb) (h : e_ok nb ne f x.1) : e_ok nb ne f (e_da ne b x).1 ∧ (e_da ne b x).1 47 = x.1 47 := by
  have hn := h.2.2.1.1
  have hm := h.2.2.2.1.1
  unfold e_da
  split
  · exact ⟨h, rfl⟩
  · split
    · exact ⟨h, rfl⟩
    · rename_i h0
      obtain ⟨he, _⟩ := e_de_c (e_dq x.2) (show 0 < ne by omega) hm
      split
      · rename_i hw
        have h48 := (e_why_0 hw).2
        dsimp only
        split
        · exact ⟨h.mk' (e_so_lie (by omega) (by omega)) (e_lie_SW h.2.2 h.2.1 hb he h48), e_lie_47⟩
        · exact ⟨h.mk' (e_so_tl h.2.2 hb he) (e_tl_SW h.2.2 h.2.1 hb he h48), e_tl_47 h.2.2 hb he⟩
      · exact ⟨h, rfl⟩
theorem e_das_ok {nb ne : Nat} {f : Nat → Int32} {x : (Nat → Int32) × Int32} (h : e_ok nb ne f x.1) : ∀ n, n ≤ nb → e_ok nb ne f (e_das ne x n).1 ∧ (e_das ne x n).1 47 = x.1 47 := by
  intro n
  induction n with
  | zero => intro _; exact ⟨h, rfl⟩
  | succ n ih =>
    intro hn
    have h1 := ih (by omega)
    have h2 := e_da_ok (b := n) (by omega) h1.1
    exact ⟨h2.1, h2.2.trans h1.2⟩
theorem e_d0_ok {nb ne : Nat} {f : Nat → Int32} {x : (Nat → Int32) × Int32} (h : e_ok nb ne f x.1) : e_ok nb ne f (e_d0 x).1 ∧ (e_d0 x).1 47 = x.1 47 := by
  unfold e_d0
  dsimp only
  split
  · split
    · rename_i hw
      refine ⟨h.mk' e_so_log (e_log_SW h.2.1 hw), ?_⟩
      unfold e_log
      rw [e_vn _ _ (by omega), e_vn _ _ (by omega)]
    · exact ⟨h, rfl⟩
  · exact ⟨h, rfl⟩
theorem e_dd_ok {nb ne d : Nat} {f : Nat → Int32} {x : (Nat → Int32) × Int32} (h : e_ok nb ne f x.1) (hd : x.1 47 = Int32.ofNat d) : ∀ n, d + n ≤ 400 → e_ok nb ne f (e_dd nb ne x n).1 ∧ (e_dd nb ne x n).1 47 = Int32.ofNat (d + n) := by
  intro n
  induction n with
  | zero => intro _; exact ⟨h, hd⟩
  | succ n ih =>
    intro hn
    obtain ⟨h1, h2⟩ := ih (by omega)
    obtain ⟨h3, h4⟩ := e_d0_ok h1
    obtain ⟨h5, h6⟩ := e_das_ok h3 nb (Nat.le_refl _)
    have e47 : (e_das ne (e_d0 (e_dd nb ne x n)) nb).1 47 = Int32.ofNat (d + n) := by rw [h6, h4, h2]
    refine ⟨?_, ?_⟩
    · exact h5.mk' (e_so_day h5.2.2.1.1) (e_day_SW h5.2.2 h5.2.1 ⟨d + n, by omega, e47⟩)
    · show e_day _ nb 47 = _
      rw [e_day_47, e47, e_inc]
      rfl
-- the class
theorem e_draw_128 {g : s_G} {m : Nat} (h0 : 0 < m) (hm : m ≤ 1000) : fD_draw_128 (Int32.ofNat m) g = some (e_dv (g.1 128 0) (Int32.ofNat m), s_si g 128 0 (e_dq (g.1 128 0))) := by
  unfold fD_draw_128
  rw [if_pos (show (0 : Int32) < Int32.ofNat m from e_T (a := 0) h0 (by omega)), if_neg (show ¬ Int32.ofNat m = 0 from fun h => absurd (e_in (b := 0) (by omega) (by omega) h) (by omega))]
  unfold e_dv e_dy
  rw [e_dq_sp]
/-- a trial with draws -/
def e_TD (g : s_G) (x : (Nat → Int32) × Int32) : Prop := e_T22 g x.1 ∧ g.1 128 0 = x.2
def e_nd (a : Nat) : Prop := (a < 22 ∨ 26 < a) ∧ ¬ a = 128
theorem e_nd_fx {g g' : s_G} (h : e_fx 22 26 g g') : e_fr e_nd g g' := h.fr (fun a ha => ha.1)
theorem e_nd_si {g : s_G} {k : Nat} {v : Int32} : e_fr e_nd g (s_si g 128 k v) := ⟨fun a ha => e_sN ha.2, rfl⟩
theorem e_drawAct {g : s_G} {nb ne b : Nat} {x : (Nat → Int32) × Int32} (hC : e_C3 nb ne g x.1) (hH : e_HW nb ne x.1) (hS : e_SW nb ne x.1) (hb : b < nb) (hT : e_TD g x) : ∃ g', fT_drawAct_22_128 (Int32.ofNat b) g = some g' ∧ e_TD g' (e_da ne b x) ∧ e_fr e_nd g g' := by
  have hn := hH.1.1
  have hm := hH.2.1.1
  unfold fT_drawAct_22_128 e_da
  rw [show fD_draw_128 4 g = _ from e_draw_128 (m := 4) (by omega) (by omega), s_b2_s, hT.2]
  have f1 : e_fr e_nd g (s_si g 128 0 (e_dq x.2)) := e_nd_si
  have T1 : e_T22 (s_si g 128 0 (e_dq x.2)) x.1 := e_TA_cg (a := 22) hT.1 (fun c _ _ => e_sN (by omega)) (fun _ _ _ => rfl)
  have e3 : (s_si g 128 0 (e_dq x.2)).1 3 1 = Int32.ofNat ne := by rw [e_sN (by omega), hC.1.2.1, hH.2.1.2]
  rw [show Int32.ofNat 4 = (4 : Int32) from rfl]
  by_cases h3 : e_dv x.2 4 = 3
  · rw [if_pos h3, if_pos h3]
    exact ⟨_, rfl, ⟨T1, by rw [e_sS, e_ve]⟩, f1⟩
  · rw [if_neg h3, if_neg h3, e3]
    by_cases h0 : ne = 0
    · rw [if_pos (show Int32.ofNat ne = 0 by rw [h0]; rfl), if_pos h0]
      exact ⟨_, rfl, ⟨T1, by rw [e_sS, e_ve]⟩, f1⟩
    · rw [if_neg (show ¬ Int32.ofNat ne = 0 from fun h => h0 (e_in (b := 0) (by omega) (by omega) h)), if_neg h0, e_draw_128 (by omega) (by omega), s_b2_s, e_sS, e_ve]
      obtain ⟨he, ee⟩ := e_de_c (e_dq x.2) (show 0 < ne by omega) hm
      rw [ee]
      generalize hG : s_si (s_si g 128 0 (e_dq x.2)) 128 0 (e_dq (e_dq x.2)) = G
      have f2 : e_fr e_nd g G := by rw [← hG]; exact f1.tr e_nd_si
      have T2 : e_T22 G x.1 := by rw [← hG]; exact e_TA_cg (a := 22) T1 (fun c _ _ => e_sN (by omega)) (fun _ _ _ => rfl)
      have s2 : G.1 128 0 = e_dq (e_dq x.2) := by rw [← hG, e_sS, e_ve]
      have C2 : e_C3 nb ne G x.1 := e_C3_cg hn hm hC (fun a ha => f2.1 a ⟨by omega, by omega⟩) (fun _ _ => rfl)
      by_cases h2 : e_dv x.2 4 = 2
      · rw [if_pos h2, if_pos h2]
        obtain ⟨g', a1, a2, a3, a4⟩ := e_lieAbout_22 (b := b) (e := e_de ne (e_dq x.2)) C2 T2 hS (by omega) (by omega)
        rw [a1, s_b2_s]
        have fr := f2.tr (e_nd_fx a2)
        by_cases hw : e_why x.1 b (e_de ne (e_dq x.2)) = 0
        · rw [if_pos hw]
          exact ⟨g', rfl, ⟨a3 hw, by rw [a2.1 128 (by omega)]; exact s2⟩, fr⟩
        · rw [if_neg hw, a4 hw]
          exact ⟨G, rfl, ⟨T2, s2⟩, f2⟩
      · rw [if_neg h2, if_neg h2]
        obtain ⟨hk, ek⟩ := e_kd hH he
        obtain ⟨g', a1, a2, a3, a4⟩ := e_tellEvent_22 (b := b) (e := e_de ne (e_dq x.2)) C2 T2 (by omega) he hm hk ek
        rw [a1, s_b2_s]
        have fr := f2.tr (e_nd_fx a2)
        by_cases hw : e_why x.1 b (e_de ne (e_dq x.2)) = 0
        · rw [if_pos hw]
          exact ⟨g', rfl, ⟨a3 hw, by rw [a2.1 128 (by omega)]; exact s2⟩, fr⟩
        · rw [if_neg hw, a4 hw]
          exact ⟨G, rfl, ⟨T2, s2⟩, f2⟩
theorem e_drawDay {g : s_G} {nb ne : Nat} {x : (Nat → Int32) × Int32} {y z : Int32} (hC : e_C3 nb ne g x.1) (hH : e_HW nb ne x.1) (hS : e_SW nb ne x.1) (hT : e_TD g x) (hyz : z < y) : ∃ g', fT_drawDays_22_128_12 y z g = some (.inl (z + 1, g')) ∧ e_TD g' (e_d1 nb ne x) ∧ e_fr e_nd g g' := by
  have hn := hH.1.1
  have hm := hH.2.1.1
  have hok := e_ok.rf hH hS
  have key : ∀ G, e_TD G (e_d0 x) → e_fr e_nd g G → ∃ g', fT_drawDays_22_128_31 y z G = some (.inl (z + 1, g')) ∧ e_TD g' (e_d1 nb ne x) ∧ e_fr e_nd g g' := by
    intro G hG hf
    unfold fT_drawDays_22_128_31
    obtain ⟨h0, _⟩ := e_d0_ok hok
    obtain ⟨w, ⟨h1, h2, h3⟩, h4⟩ := e_lpN (B := fun (x : Int32 × s_G) => fT_drawDays_22_128_34 y z x.1 x.2) (fun k (w : Int32 × s_G) => w.1 = Int32.ofNat k ∧ e_TD w.2 (e_das ne (e_d0 x) k) ∧ e_fr e_nd g w.2) nb (x := (0, G)) (by
      intro k w hk hw
      obtain ⟨w1, w2⟩ := w
      obtain ⟨h1, h2, h3⟩ := hw
      dsimp only at h1 h2 h3
      subst h1
      obtain ⟨ok, _⟩ := e_das_ok h0 k (by omega)
      have C2 : e_C3 nb ne w2 (e_das ne (e_d0 x) k).1 := e_C3_cg hn hm hC (fun a ha => h3.1 a ⟨by omega, by omega⟩) (fun j hj => ok.1 j (by omega))
      obtain ⟨g', a1, a2, a3⟩ := e_drawAct C2 ok.2.2 ok.2.1 hk h2
      refine ⟨(Int32.ofNat (k + 1), g'), ?_, rfl, a2, h3.tr a3⟩
      unfold fT_drawDays_22_128_34
      rw [C2.1.1, ok.2.2.1.2, if_pos (e_T hk (by omega)), a1, s_b1_s, e_inc]) ⟨rfl, hG, hf⟩
    obtain ⟨w1, w2⟩ := w
    dsimp only at h1 h2 h3
    subst h1
    obtain ⟨ok, _⟩ := e_das_ok h0 nb (Nat.le_refl _)
    have C2 : e_C3 nb ne w2 (e_das ne (e_d0 x) nb).1 := e_C3_cg hn hm hC (fun a ha => h3.1 a ⟨by omega, by omega⟩) (fun j hj => ok.1 j (by omega))
    obtain ⟨g', a1, a2, a3⟩ := e_passDay_22 C2 ok.2.2 h2.1
    refine ⟨g', ?_, ⟨a2, by rw [a3.1 128 (by omega)]; exact h2.2⟩, h3.tr (e_nd_fx a3)⟩
    rw [h4]
    apply s_lp_out
    dsimp only
    unfold fT_drawDays_22_128_34
    rw [C2.1.1, ok.2.2.1.2, if_neg (e_F (Nat.le_refl nb) (by omega)), a1, s_b1_s]
    rfl
  unfold fT_drawDays_22_128_12
  rw [if_pos hyz, show fD_draw_128 4 g = _ from e_draw_128 (m := 4) (by omega) (by omega), s_b2_s, hT.2, show Int32.ofNat 4 = (4 : Int32) from rfl]
  have f1 : e_fr e_nd g (s_si g 128 0 (e_dq x.2)) := e_nd_si
  have T1 : e_T22 (s_si g 128 0 (e_dq x.2)) x.1 := e_TA_cg (a := 22) hT.1 (fun c _ _ => e_sN (by omega)) (fun _ _ _ => rfl)
  have s1 : (s_si g 128 0 (e_dq x.2)).1 128 0 = e_dq x.2 := by rw [e_sS, e_ve]
  by_cases h0 : e_dv x.2 4 = 0
  · rw [if_pos h0]
    obtain ⟨g', a1, a2, a3, a4⟩ := e_putLogOn_22 T1
    rw [a1, s_b2_s]
    refine key g' ⟨?_, ?_⟩ (f1.tr (e_nd_fx a2))
    · unfold e_d0
      dsimp only
      rw [if_pos h0]
      by_cases hw : e_why3 x.1 = 0
      · rw [if_pos hw]; exact a3 hw
      · rw [if_neg hw, a4 hw]; exact T1
    · rw [a2.1 128 (by omega)]; exact s1
  · rw [if_neg h0]
    refine key _ ⟨?_, s1⟩ f1
    unfold e_d0
    dsimp only
    rw [if_neg h0]; exact T1
theorem e_drawDays {g : s_G} {nb ne n d : Nat} {x : (Nat → Int32) × Int32} (hC : e_C3 nb ne g x.1) (hH : e_HW nb ne x.1) (hS : e_SW nb ne x.1) (hT : e_TD g x) (hd : x.1 47 = Int32.ofNat d) (hd4 : d ≤ 400) (hN : n ≤ 1000) : ∃ g', fT_drawDays_22_128 (Int32.ofNat n) g = some (Int32.ofNat (min n (400 - d)), g') ∧ e_TD g' (e_dd nb ne x (min n (400 - d))) ∧ e_fr e_nd g g' := by
  have hn := hH.1.1
  have hm := hH.2.1.1
  unfold fT_drawDays_22_128 fT_daysLeft_22
  have e1 : (400 : Int32) - Int32.ofNat d = Int32.ofNat (400 - d) := (Int32.ofNat_sub 400 d hd4).symm
  have e2 : (if Int32.ofNat (400 - d) < Int32.ofNat n then Int32.ofNat (400 - d) else Int32.ofNat n) = Int32.ofNat (min n (400 - d)) := by
    by_cases h : 400 - d < n
    · rw [if_pos (e_T h (by omega)), Nat.min_eq_right (by omega)]
    · rw [if_neg (e_F (by omega) (by omega)), Nat.min_eq_left (by omega)]
  rw [hT.1.1.2.2.2.1, hd, e1, s_b1_s, e2]
  generalize hmm : min n (400 - d) = m
  have hm4 : d + m ≤ 400 := by omega
  obtain ⟨w, ⟨h1, h2, h3⟩, h4⟩ := e_lpN (B := fun (x : Int32 × s_G) => fT_drawDays_22_128_12 (Int32.ofNat m) x.1 x.2) (fun k (w : Int32 × s_G) => w.1 = Int32.ofNat k ∧ e_TD w.2 (e_dd nb ne x k) ∧ e_fr e_nd g w.2) m (x := (0, g)) (by
    intro k w hk hw
    obtain ⟨w1, w2⟩ := w
    obtain ⟨h1, h2, h3⟩ := hw
    dsimp only at h1 h2 h3
    subst h1
    obtain ⟨ok, _⟩ := e_dd_ok (e_ok.rf hH hS) hd k (by omega)
    have C2 : e_C3 nb ne w2 (e_dd nb ne x k).1 := e_C3_cg hn hm hC (fun a ha => h3.1 a ⟨by omega, by omega⟩) (fun j hj => ok.1 j (by omega))
    obtain ⟨g', a1, a2, a3⟩ := e_drawDay C2 ok.2.2 ok.2.1 h2 (e_T hk (by omega))
    exact ⟨(Int32.ofNat (k + 1), g'), by dsimp only; rw [a1, e_inc], rfl, a2, h3.tr a3⟩) ⟨rfl, hT, ⟨fun _ _ => rfl, rfl⟩⟩
  obtain ⟨w1, w2⟩ := w
  dsimp only at h1 h2 h3
  subst h1
  refine ⟨w2, ?_, h2, h3⟩
  rw [h4]
  apply s_lp_out
  dsimp only
  unfold fT_drawDays_22_128_12
  rw [if_neg (e_F (Nat.le_refl m) (by omega))]
  rfl
