def q_g0 (xs : Nat → Int32) (Ln : Nat) : s_G := (fun a => if a = 1200 then xs else if a = 1201 then va_up (s_h1.2.2.2.1 1201) 0 (Int32.ofNat Ln) else s_h1.2.2.2.1 a, s_h1.2.2.2.2.1, s_h1.2.2.2.2.2)
theorem q_g0_n {xs : Nat → Int32} {Ln a : Nat} (h : a < 1200) : (q_g0 xs Ln).1 a = s_h1.2.2.2.1 a := by
  show (if a = 1200 then xs else if a = 1201 then va_up (s_h1.2.2.2.1 1201) 0 (Int32.ofNat Ln) else s_h1.2.2.2.1 a) = _
  rw [if_neg (by omega), if_neg (by omega)]
theorem q_rf {a j : Nat} (ha : a < 153) (hj : j < q_sz a) : s_hrf s_h1.2.2.2.2.2 a j = s_h1.2.2.2.2.2 a j := by
  have h := q_ok1.2.1
  unfold q_ckR at h
  have h1 := List.all_eq_true.mp (List.all_eq_true.mp h a (List.mem_range.mpr ha)) j (List.mem_range.mpr hj)
  rw [Bool.or_eq_true] at h1
  rcases h1 with h1 | h1
  · unfold s_hrf
    rw [h1]
  · exact (of_decide_eq_true h1).symm
theorem q_HR {base : Nat} {ρ : Nat → Nat} {D : va_G} {cid : Nat → ClassId} {xs : Nat → Int32} {Ln : Nat} {H : Heap} (hH : s_HR base ρ D cid xs Ln s_h1 H) : s_HR base ρ D cid xs Ln (s_hg (q_g0 xs Ln)) H := by
  refine ⟨fun k q hq => ?_, fun _ => ⟨if_pos rfl, ?_⟩⟩
  · obtain ⟨hk, rfl⟩ := s_w_inv hq
    have hk : k < 153 := hk
    have h1 := hH.1 k _ (s_w_at (h := s_h1) (by rw [s_x1_eq.2.1]; exact hk))
    have ei : (s_hg (q_g0 xs Ln)).2.2.2.1 k = s_h1.2.2.2.1 k := q_g0_n (by omega)
    have el : (s_hg (q_g0 xs Ln)).2.2.2.2.1 k = s_h1.2.2.2.2.1 k := rfl
    have er : ∀ j, j < q_sz k → (s_hg (q_g0 xs Ln)).2.2.2.2.2 k j = s_h1.2.2.2.2.2 k j := fun j hj => q_rf hk hj
    generalize s_hg (q_g0 xs Ln) = h2 at ei el er ⊢
    unfold q_sz at er
    unfold s_E at h1 ⊢
    cases hg : s_Gs[k]? with
    | none => rw [hg] at h1; exact h1
    | some z =>
      obtain ⟨c, n⟩ := z
      rw [hg] at h1 er
      dsimp only at h1 er ⊢
      by_cases hc : c < 100
      · rw [if_pos hc] at h1 er ⊢
        have ef : s_fs ρ h2 k c = s_fs ρ s_h1 k c := by
          unfold s_fs
          refine List.map_congr_left (fun j hj => ?_)
          have hj := List.mem_range.mp hj
          unfold s_pv
          rw [ei, el, er j hj]
        rw [ef]
        exact h1
      · rw [if_neg hc] at h1 er ⊢
        by_cases h102 : c = 102
        · have ef : s_ar ρ h2 k c = s_ar ρ s_h1 k c := by
            unfold s_ar
            rw [if_pos h102, if_pos h102, el]
          rw [ef]
          exact h1
        · by_cases h104 : 104 ≤ c
          · rw [if_pos h104] at er
            have e1 : ∀ h : s_H, s_ar ρ h k c = .inr (.inr (.inr (.inr (fun j => (h.2.2.2.2.2 k j).map ρ)))) := by
              intro h
              unfold s_ar
              rw [if_neg h102, if_pos h104]
            have e2 : vp_cell (cid c) (n, s_ar ρ h2 k c) = vp_cell (cid c) (n, s_ar ρ s_h1 k c) := by
              rw [e1, e1, vp_cell_q, vp_cell_q]
              unfold arrV
              congr 1
              congr 1
              funext j
              rw [er j.val j.isLt]
            show H[base + k]? = some (vp_cell (cid c) (n, s_ar ρ h2 k c))
            rw [e2]
            exact h1
          · have ef : s_ar ρ h2 k c = s_ar ρ s_h1 k c := by
              unfold s_ar
              rw [if_neg h102, if_neg h104, if_neg h102, if_neg h104, ei]
            rw [ef]
            exact h1
  · show (if (1201 : Nat) = 1200 then xs else if (1201 : Nat) = 1201 then va_up (s_h1.2.2.2.1 1201) 0 (Int32.ofNat Ln) else s_h1.2.2.2.1 1201) 0 = _
    rw [if_neg (by decide), if_pos rfl]
    unfold va_up
    rw [if_pos rfl]
theorem q_at {xs : Nat → Int32} {Ln : Nat} (i : Nat) {x : Nat × Nat × Nat × Int32} (hx : q_L[i]? = some x) : ∀ j, j < x.2.2.1 → (q_g0 xs Ln).1 x.1 (x.2.1 + j) = x.2.2.2 := by
  intro j hj
  have h := q_ok1.1
  unfold q_ckI at h
  have hm := List.mem_of_getElem? hx
  have h1 := List.all_eq_true.mp (List.all_eq_true.mp h x hm) j (List.mem_range.mpr hj)
  have hlt : ∀ y ∈ q_L, y.1 < 1200 := by decide
  rw [q_g0_n (hlt x hm)]
  exact of_decide_eq_true h1
