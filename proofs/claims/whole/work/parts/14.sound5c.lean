theorem j_tx8 : ∀ tx ∈ s_txs, tx.length < 2 ^ 31 ∧ ∀ b ∈ tx, b &&& 255 = b := by decide +kernel
section SNJ
variable {p : Program} {l : Launch} {e : Env} {R : Room} {s : State} {m : MethodId} {args : Array Value} {below : List Frame} {meth : Method} {c : Code} {Q : State → Prop}
variable {base : Nat} {ρ : Nat → Nat} {D : va_G} {cid : Nat → ClassId} {xs : Nat → Int32} {Ln : Nat}
/-- a text's length and its signs: calls of the JDK -/
theorem s_k_str {cp : s_C} {q : s_M} {pc x t w : Nat} {H : Heap} {locs : List Loc} {ls : Array Slot} {rest : List Value} {cells slots : Nat} {tx : List Int32}
    (cx : s_Cx p s m args meth c base ρ D cid xs Ln q) (hS : va_S (s_A base) s.heap H locs) (hls : ls.size = q.2.2.1) (hR1 : 6 ≤ R.frames) (hR2 : 240 ≤ R.locals) (hc : cells ≤ R.cells) (hs : slots ≤ R.slots)
    (hdg : decode q.2.1 pc = .ok (.invokevirtual x, 3)) (ht : s_txs[t]? = some tx) (hcat : (rest.map fun v => v.category).sum ≤ 8)
    (hlo : (w = 0 ∧ Cond.methodLink (s_R q.2.2.2.2.1) x yJ0_length_8abf5 ∈ s_gw) ∨ (w = 1 ∧ Cond.methodLink (s_R q.2.2.2.2.1) x yJ0_charAt_5068e ∈ s_gw))
    (st : List Value) (v : Int32) (hst : (w = 0 ∧ st = .ref (ρ (1300 + t)) :: rest ∧ v = Int32.ofNat tx.length) ∨ (w = 1 ∧ ∃ i : Int32, ¬ (i < 0 ∨ tx.length ≤ i.toNatClampNeg) ∧ st = .int i :: .ref (ρ (1300 + t)) :: rest ∧ v = tx.getD i.toNatClampNeg 0))
    (kk : W p l e R s m args below meth c H locs cells slots Q (F0 m (pc + 3) ls (.int v :: rest))) : W p l e R s m args below meth c H locs cells slots Q (F0 m pc ls st) := by
  obtain ⟨hx, hb, hml, hown, hts, hin, hSR, hρ, hinj, hdc, hck⟩ := cx
  have hmem := List.mem_of_getElem? ht
  obtain ⟨hL, h8⟩ := j_tx8 tx hmem
  have ht3 : t < 3 := (List.getElem?_eq_some_iff.mp ht).1
  obtain ⟨u, o1, o2, o3, o4⟩ := hSR.2.2.2.2.2.2.2.1.2.1 t ht3
  have hgd : s_txs.getD t [] = tx := by rw [List.getD_eq_getElem?_getD, ht]; rfl
  rw [hgd] at o4
  have hSS : j_SS (s_A base) (ρ (1300 + t)) u tx s := ⟨o1, o2, o3, o4, hSR.2.2.2.2.2.2.2.1.2.2.1, hSR.2.2.2.2.2.2.2.1.2.2.2⟩
  rcases hst with ⟨rfl, rfl, rfl⟩ | ⟨rfl, i, hi, rfl, rfl⟩
  · rcases hlo with ⟨-, hlk⟩ | ⟨h, -⟩
    · exact j_callV (As := []) (rest := rest) (n := 1) (na := 0) hx hb hml hown hts hSS hS (j_length hL) (by omega) (by omega) hc hs j_L4 j_i0 (by decide +kernel) (by decide +kernel) hlk j_L2 j_L3 rfl hls hcat hdg kk
    · cases h
  · rcases hlo with ⟨h, -⟩ | ⟨-, hlk⟩
    · cases h
    · obtain ⟨n, hn, rfl⟩ := nI_of (fun h => hi (Or.inl h))
      have hn2 : n < tx.length := by
        rw [nI_clamp hn] at hi
        exact Nat.not_le.mp fun z => hi (Or.inr z)
      have hb8 : tx.getD (nI n).toNatClampNeg 0 &&& 255 = tx.getD (nI n).toNatClampNeg 0 := by
        rw [nI_clamp hn, List.getD_eq_getElem?_getD, List.getElem?_eq_getElem hn2]
        exact h8 _ (List.getElem_mem hn2)
      exact j_callV (As := [.int (nI n)]) (rest := rest) (n := 3) (na := 1) hx hb hml hown hts hSS hS (j_ch hL hi (nI_lt hn2 hL) hb8) (by omega) (by omega) hc hs j_A4 j_i0 (by decide +kernel) (by decide +kernel) hlk j_A2 j_A3 rfl hls hcat hdg kk
end SNJ
