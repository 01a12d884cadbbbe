theorem s_own11a : ((List.range 17).all fun o => Nat.beq o 11 || (match s_cps[o]? with
    | some cq => cq.2.2.2.2.all (fun z => match z.2 with
      | .ref _ => false
      | _ => true)
    | none => true)) = true := by decide +kernel
theorem s_own11 {own : Nat} {cp : s_C} (hcp : s_cps[own]? = some cp) {x a : Nat} (hm : (x, (Value.ref a)) ∈ cp.2.2.2.2) : own = 11 := by
  have h2 : own < 17 := (List.getElem?_eq_some_iff.mp hcp).1
  have h3 := List.all_eq_true.mp s_own11a own (List.mem_range.mpr h2)
  rw [Bool.or_eq_true] at h3
  rcases h3 with h3 | h3
  · exact Nat.eq_of_beq_eq_true h3
  · rw [hcp] at h3
    have h4 := List.all_eq_true.mp h3 _ hm
    cases h4
