def q_g (h : s_H) (xs : Nat → Int32) (Ln : Nat) : s_G := (fun a => if a = 1200 then xs else if a = 1201 then va_up (h.2.2.2.1 1201) 0 (Int32.ofNat Ln) else h.2.2.2.1 a, h.2.2.2.2.1, h.2.2.2.2.2)
theorem q_g_n {h : s_H} {xs : Nat → Int32} {Ln a : Nat} (ha : a < 1200) : (q_g h xs Ln).1 a = h.2.2.2.1 a := by
  show (if a = 1200 then xs else if a = 1201 then va_up (h.2.2.2.1 1201) 0 (Int32.ofNat Ln) else h.2.2.2.1 a) = _
  rw [if_neg (by omega), if_neg (by omega)]
theorem q_rf {h : s_H} (hc : q_ckR h = true) {a j : Nat} (ha : a < 153) (hj : j < q_sz a) : s_hrf h.2.2.2.2.2 a j = h.2.2.2.2.2 a j := by
  unfold q_ckR at hc
  have h1 := List.all_eq_true.mp (List.all_eq_true.mp hc a (List.mem_range.mpr ha)) j (List.mem_range.mpr hj)
  rw [Bool.or_eq_true] at h1
  rcases h1 with h1 | h1
  · unfold s_hrf
    rw [h1]
  · exact (of_decide_eq_true h1).symm
theorem q_HR {base : Nat} {ρ : Nat → Nat} {D : va_G} {cid : Nat → ClassId} {xs : Nat → Int32} {Ln : Nat} {H : Heap} {h : s_H} (h153 : h.1 = 153) (hc : q_ckR h = true) (hH : s_HR base ρ D cid xs Ln h H) : s_HR base ρ D cid xs Ln (s_hg (q_g h xs Ln)) H := by
  refine ⟨fun k q hq => ?_, fun _ => ⟨?_, ?_⟩⟩
  · obtain ⟨hk, rfl⟩ := s_w_inv hq
    have hk : k < 153 := hk
    have h1 := hH.1 k _ (s_w_at (h := h) (by rw [h153]; exact hk))
    have ei : (s_hg (q_g h xs Ln)).2.2.2.1 k = h.2.2.2.1 k := q_g_n (by omega)
    have el : (s_hg (q_g h xs Ln)).2.2.2.2.1 k = h.2.2.2.2.1 k := rfl
    have er : ∀ j, j < q_sz k → (s_hg (q_g h xs Ln)).2.2.2.2.2 k j = h.2.2.2.2.2 k j := fun j hj => q_rf hc hk hj
    generalize s_hg (q_g h xs Ln) = h2 at ei el er ⊢
    unfold q_sz at er
    unfold s_E at h1 ⊢
    cases hg : s_Gs[k]? with
    | none => rw [hg] at h1; exact h1
    | some z =>
      obtain ⟨c, n⟩ := z
      rw [hg] at h1 er
      dsimp only at h1 er ⊢
      by_cases hc : c < 100
      · rw [if_pos hc] at h1 er ⊢
        have ef : s_fs ρ h2 k c = s_fs ρ h k c := by
          unfold s_fs
          refine List.map_congr_left (fun j hj => ?_)
          have hj := List.mem_range.mp hj
          unfold s_pv
          rw [ei, el, er j hj]
        rw [ef]
        exact h1
      · rw [if_neg hc] at h1 er ⊢
        by_cases h102 : c = 102
        · have ef : s_ar ρ h2 k c = s_ar ρ h k c := by
            unfold s_ar
            rw [if_pos h102, if_pos h102, el]
          rw [ef]
          exact h1
        · by_cases h104 : 104 ≤ c
          · rw [if_pos h104] at er
            have e1 : ∀ h : s_H, s_ar ρ h k c = .inr (.inr (.inr (.inr (fun j => (h.2.2.2.2.2 k j).map ρ)))) := by
              intro h
              unfold s_ar
              rw [if_neg h102, if_pos h104]
            have e2 : vp_cell (cid c) (n, s_ar ρ h2 k c) = vp_cell (cid c) (n, s_ar ρ h k c) := by
              rw [e1, e1, vp_cell_q, vp_cell_q]
              unfold arrV
              congr 1
              congr 1
              funext j
              dsimp only
              rw [er j.val j.isLt]
            show H[base + k]? = some (vp_cell (cid c) (n, s_ar ρ h2 k c))
            rw [e2]
            exact h1
          · have ef : s_ar ρ h2 k c = s_ar ρ h k c := by
              unfold s_ar
              rw [if_neg h102, if_neg h104, if_neg h102, if_neg h104, ei]
            rw [ef]
            exact h1
  · show (if (1200 : Nat) = 1200 then xs else if (1200 : Nat) = 1201 then va_up (h.2.2.2.1 1201) 0 (Int32.ofNat Ln) else h.2.2.2.1 1200) = _
    rw [if_pos rfl]
  · show (if (1201 : Nat) = 1200 then xs else if (1201 : Nat) = 1201 then va_up (h.2.2.2.1 1201) 0 (Int32.ofNat Ln) else h.2.2.2.1 1201) 0 = _
    rw [if_neg (by decide), if_pos rfl]
    unfold va_up
    rw [if_pos rfl]
theorem q_L12 : ∀ y ∈ q_L, y.1 < 1200 := by decide
theorem q_at {h : s_H} (hc : q_ckI h = true) {xs : Nat → Int32} {Ln : Nat} (i : Nat) {x : Nat × Nat × Nat × Int32} (hx : q_L[i]? = some x) : ∀ j, j < x.2.2.1 → (q_g h xs Ln).1 x.1 (x.2.1 + j) = x.2.2.2 := by
  intro j hj
  unfold q_ckI at hc
  have hm := List.mem_of_getElem? hx
  have h1 := List.all_eq_true.mp (List.all_eq_true.mp hc x hm) j (List.mem_range.mpr hj)
  rw [q_g_n (q_L12 x hm)]
  exact of_decide_eq_true h1
