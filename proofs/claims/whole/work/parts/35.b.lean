-- SENTENCES: ones with 'and' or 'or' between them
noncomputable def t_bC (w : Nat) (KC : s_G → Option (Int32 × s_G)) (x4 : Int32) (g : s_G) : Option ((Int32 × s_G) ⊕ (Int32 × s_G)) :=
  if x4 < (20 : Int32) then (s_b1 (if (g.1 1 5) = (2 : Int32) then (if s_okw (g.2.2 1 9) = true then (if (g.2.2 1 9) = some (1000 + w) then (some (1 : Int32)) else some (0 : Int32)) else none) else some (0 : Int32)) fun v3 => if v3 = 0 then (s_in (some ((1 : Int32), g)))
  else s_b1 (fQ_next_1 g) fun g4 => s_b2 (KC g4) fun v6 g5 => if v6 = 0 then (s_in (some ((0 : Int32), g5)))
  else s_b1 (fS_addStep_32 (some (1000 + w)) (0 : Int32) (0 : Int32) g5) fun g7 => some (.inl (x4 + (1 : Int32), g7)))
  else s_in (some ((1 : Int32), g))
noncomputable def t_bM (w c : Nat) (KM : s_G → Option (Int32 × s_G)) (x1 : Int32) (g : s_G) : Option ((Int32 × s_G) ⊕ (Int32 × s_G)) :=
  s_b1 (fM_isWord_130 (Int32.ofNat w) g) fun v3 => if v3 = 0 then (s_in (some ((1 : Int32), (s_si g 130 47 x1))))
  else s_b1 (fM_go_130 g) fun g4 => s_b2 (KM g4) fun v6 g5 => if v6 = 0 then (s_in (some ((0 : Int32), g5)))
  else s_b2 (fM_saysOne_130 (Int32.ofNat c) x1 (g5.1 130 47) (0 : Int32) g5) fun v8 g7 => some (.inl (v8, g7))
theorem t_loop {n m ne d w c : Nat} (hw : (w = 17 ∧ c = 3) ∨ (w = 18 ∧ c = 2)) {KC KM : s_G → Option (Int32 × s_G)} (hK : t_KS n m ne d KC KM) : ∀ (f i : Nat) (C M : s_G) (t : t_Tk) (a p o s o0 s0 : Nat) (x : Int32), 21 ≤ f + o → t_P n m t a p C M → t_S ne o s d C M → i + 1 ≤ o → s0 ≤ 2 * o0 → (s + 2 * o0 + 1 ≤ s0 + 2 * o ∧ o0 < o ∧ s0 < s) → t_X ne s0 s x C M →
    t_OS n m ne d a o0 s0 C M (s_lp (fun (y : Int32 × s_G) => t_bC w KC y.1 y.2) (Int32.ofNat i, C)) (s_lp (fun (y : Int32 × s_G) => t_bM w c KM y.1 y.2) (x, M)) := by
  intro f
  induction f with
  | zero => intro i C M t a p o s o0 s0 x hf h hS; have := hS.1.1.1; omega
  | succ f ih =>
    intro i C M t a p o s o0 s0 x hf h hS hi hs0 hb hX
    obtain ⟨hB, ha, hp, ho, hC, hM⟩ := id h
    have ho20 := hS.1.1.1
    have hs2 := hS.1.1.2
    have hwo : s_okw (some (1000 + w)) = true := by rcases hw with ⟨rfl, -⟩ | ⟨rfl, -⟩ <;> rfl
    have eC : t_bC w KC (Int32.ofNat i) C = if e_bi (t_is t w) = 0 then (s_in (some ((1 : Int32), C))) else s_b1 (fQ_next_1 C) fun g4 => s_b2 (KC g4) fun v6 g5 => if v6 = 0 then (s_in (some ((0 : Int32), g5))) else s_b1 (fS_addStep_32 (some (1000 + w)) (0 : Int32) (0 : Int32) g5) fun g7 => some (.inl (Int32.ofNat (i + 1), g7)) := by
      unfold t_bC
      rw [if_pos (show Int32.ofNat i < 20 from e_T (b := 20) (by omega) (by omega)), t_isWC ho hC w, s_b1_s, e_inc]
    have eM : t_bM w c KM x M = if e_bi (t_is t w) = 0 then (s_in (some ((1 : Int32), (s_si M 130 47 x)))) else s_b1 (fM_go_130 M) fun g4 => s_b2 (KM g4) fun v6 g5 => if v6 = 0 then (s_in (some ((0 : Int32), g5))) else s_b2 (fM_saysOne_130 (Int32.ofNat c) x (g5.1 130 47) (0 : Int32) g5) fun v8 g7 => some (.inl (v8, g7)) := by
      unfold t_bM
      rw [t_isWM ho hM (by omega), s_b1_s]
    by_cases hq : t_is t w
    · rw [e_bi_t hq, if_neg (by decide)] at eC eM
      obtain ⟨C1, M1, t1, a1, p1, n1, n2, n3, n4, n5, n6⟩ := t_next h (by have := hq.1; omega)
      rw [n1, s_b1_s] at eC
      rw [n2, s_b1_s] at eM
      have hS1 := t_S_w hS n5.w n6.w
      rcases hK C1 M1 t1 a1 p1 o s n3 hS1 with ⟨C2, M2, t2, a2, p2, o2, s2, k1, k2, k3, k4, k5, k6, k7, k8, k9⟩ | ⟨C2, M2, k1, k2, k3, k4, k5, k6⟩
      · have ho2 := k4.1.1.1
        have hs40 : s2 < 40 := by omega
        have eC2 : s_lp (fun (y : Int32 × s_G) => t_bC w KC y.1 y.2) (Int32.ofNat i, C) = s_lp (fun (y : Int32 × s_G) => t_bC w KC y.1 y.2) (Int32.ofNat (i + 1), t_aC (1000 + w) 0 0 s2 C2) := s_lp_in (by
          dsimp only
          rw [eC, k1, s_b2_s, if_neg (by decide), t_addC hwo hs40 k4.1.2.2.2.1, s_b1_s])
        have eM2 : s_lp (fun (y : Int32 × s_G) => t_bM w c KM y.1 y.2) (x, M) = s_lp (fun (y : Int32 × s_G) => t_bM w c KM y.1 y.2) (Int32.ofNat s2, t_aM (Int32.ofNat c) x (M2.1 130 47) 0 s2 M2) := s_lp_in (by
          dsimp only
          rw [eM, k2, s_b2_s, if_neg (by decide), t_addM hs40 k4.1.2.2.2.2, s_b2_s])
        rw [eC2, eM2]
        have hA02 : t_A s C M C2 M2 := (t_A_w (s := s) n5.w n6.w).tr k7 (Nat.le_refl s)
        have hA3 : t_A s2 C2 M2 (t_aC (1000 + w) 0 0 s2 C2) (t_aM (Int32.ofNat c) x (M2.1 130 47) 0 s2 M2) := t_aCM_A
        have hX3 : t_X ne s0 (s2 + 1) (Int32.ofNat s2) (t_aC (1000 + w) 0 0 s2 C2) (t_aM (Int32.ofNat c) x (M2.1 130 47) 0 s2 M2) := by
          obtain ⟨kx, hx1, hx2⟩ := hX
          obtain ⟨ky, hy1, hy2⟩ := k6
          refine ⟨s2, rfl, ?_⟩
          obtain ⟨d1, d2, d3, d4⟩ := t_aM_nd (M := M2) (s := s2) (x1 := Int32.ofNat c) (x2 := x) (x3 := M2.1 130 47) (x4 := 0)
          obtain ⟨c1, c2, c3⟩ := t_aC_st (C := C2) (w := 1000 + w) (s := s2) (x2 := 0) (x3 := 0)
          rw [show s2 + 1 - s0 = (s2 - s0) + 1 by omega]
          refine ⟨by omega, by omega, Or.inr (Or.inr ⟨kx, ky, s, ?_, ?_, ?_, ?_, ?_⟩)⟩
          · rw [d1, Nat.add_sub_cancel, c1]
            rcases hw with ⟨rfl, rfl⟩ | ⟨rfl, rfl⟩
            · exact Or.inr ⟨rfl, rfl⟩
            · exact Or.inl ⟨rfl, rfl⟩
          · rw [d2]; exact hx1
          · rw [d3]; exact hy1
          · refine t_tr_cg (B := s) (J := s) (by omega) (fun k hk => ?_) (fun k hk => ?_) (s - s0) _ kx s0 s (by omega) (Nat.le_refl _) hx2
            · rw [hA3.2 k (by omega), hA02.2 k hk]
            · obtain ⟨r1, r2, r3⟩ := hA3.1 k (by omega)
              obtain ⟨z1, z2, z3⟩ := hA02.1 k hk
              exact ⟨r1.trans z1, r2.trans z2, r3.trans z3⟩
          · rw [Nat.add_sub_cancel]
            exact t_tr_cg (B := s2) (J := s2) (by omega) (fun k hk => hA3.2 k hk) (fun k hk => hA3.1 k hk) (s2 - s) _ ky s s2 (by omega) (Nat.le_refl _) hy2
        rcases ih (i + 1) _ _ t2 a2 p2 o2 (s2 + 1) o0 s0 _ (by omega) (t_a_P k3) (t_a_S k4 hwo (by omega)) (by omega) hs0 (by omega) hX3 with ⟨C3, M3, t3, a3, p3, o3, s3, y1, y2, y3, y4, y5, y6, y7, y8, y9⟩ | ⟨C3, M3, y1, y2, y3, y4, y5, y6⟩
        · refine Or.inl ⟨C3, M3, t3, a3, p3, o3, s3, y1, y2, y3, y4, y5, y6, ?_, ((n5.w.y.tr k8).tr t_aC_y).tr y8, ((n6.w.y.tr k9).tr t_aM_y).tr y9⟩
          have b1 : t_A s0 C M C2 M2 := (t_A.rf s0 C M).tr hA02 (by omega)
          have b2 := b1.tr hA3 (show s0 ≤ s2 by omega)
          exact b2.tr y7 (Nat.le_refl _)
        · exact Or.inr ⟨C3, M3, y1, y2, y3, y4, ((n5.w.y.tr k8).tr t_aC_y).tr y5, ((n6.w.y.tr k9).tr t_aM_y).tr y6⟩
      · refine Or.inr ⟨C2, M2, s_lp_out ?_, s_lp_out ?_, k3, k4, n5.w.y.tr k5, n6.w.y.tr k6⟩
        · dsimp only
          rw [eC, k1, s_b2_s, if_pos rfl]; rfl
        · dsimp only
          rw [eM, k2, s_b2_s, if_pos rfl]; rfl
    · rw [e_bi_f hq, if_pos rfl] at eC eM
      refine Or.inl ⟨C, s_si M 130 47 x, t, a, p, o, s, s_lp_out eC, s_lp_out eM, t_P_hi h (by omega), t_S_47 hS, hb, ?_, ⟨fun _ _ => ⟨rfl, rfl, rfl⟩, fun k _ => by rw [e_sN (by omega)]⟩, t_yC.rf C, t_yM.s0 (by omega)⟩
      rw [e_sS, e_ve]
      exact t_X_cg hX ⟨fun _ _ => ⟨rfl, rfl, rfl⟩, fun k _ => by rw [e_sN (by omega)]⟩
/-- one, then others -/
theorem t_many {n m ne d w c : Nat} (hw : (w = 17 ∧ c = 3) ∨ (w = 18 ∧ c = 2)) {KC KM : s_G → Option (Int32 × s_G)} (hK : t_KS n m ne d KC KM) : t_KS n m ne d (fun C => s_b2 (KC C) fun v2 g1 => if v2 = 0 then (some ((0 : Int32), g1)) else s_lp (fun (y : Int32 × s_G) => t_bC w KC y.1 y.2) ((0 : Int32), g1)) (fun M => s_b2 (KM M) fun v2 g1 => if v2 = 0 then (some ((0 : Int32), g1)) else s_lp (fun (y : Int32 × s_G) => t_bM w c KM y.1 y.2) (g1.1 130 47, g1)) := by
  intro C M t a p o s h hS
  dsimp only
  have hs2 := hS.1.1.2
  rcases hK C M t a p o s h hS with ⟨C2, M2, t2, a2, p2, o2, s2, k1, k2, k3, k4, k5, k6, k7, k8, k9⟩ | ⟨C2, M2, k1, k2, k3, k4, k5, k6⟩
  · have ho2 := k4.1.1.1
    rw [k1, s_b2_s, if_neg (by decide), k2, s_b2_s, if_neg (by decide)]
    rcases t_loop hw hK (21 - o2) 0 C2 M2 t2 a2 p2 o2 s2 o s _ (by omega) k3 k4 (by omega) hs2 k5 k6 with ⟨C3, M3, t3, a3, p3, o3, s3, y1, y2, y3, y4, y5, y6, y7, y8, y9⟩ | ⟨C3, M3, y1, y2, y3, y4, y5, y6⟩
    · exact Or.inl ⟨C3, M3, t3, a3, p3, o3, s3, y1, y2, y3, y4, y5, y6, k7.tr y7 (Nat.le_refl _), k8.tr y8, k9.tr y9⟩
    · exact Or.inr ⟨C3, M3, y1, y2, y3, y4, k8.tr y5, k9.tr y6⟩
  · rw [k1, s_b2_s, if_pos rfl, k2, s_b2_s, if_pos rfl]
    exact Or.inr ⟨C2, M2, rfl, rfl, k3, k4, k5, k6⟩
theorem t_all {n m ne d : Nat} {KC : Int32 → s_G → Option (Int32 × s_G)} {KM : s_G → Option (Int32 × s_G)} {x3 : Int32} (hK : t_KS n m ne d (KC x3) KM) : t_KS n m ne d (fS_readAll_32_1_3 KC x3) (fM_readAnd_130 KM) := t_many (w := 18) (c := 2) (Or.inr ⟨rfl, rfl⟩) hK
theorem t_cond {n m ne d : Nat} {KC : Int32 → s_G → Option (Int32 × s_G)} {KM : s_G → Option (Int32 × s_G)} {x3 : Int32} (hK : t_KS n m ne d (KC x3) KM) : t_KS n m ne d (fS_readCond_32_1_3 KC x3) (fM_readOr_130 KM) := t_many (w := 17) (c := 3) (Or.inl ⟨rfl, rfl⟩) (t_all hK)
