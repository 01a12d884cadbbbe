theorem j_i0 : Cond.initialized RJ0 ∈ s_gw := j_gw 136 (by decide +kernel) rfl
theorem j_i1 : Cond.initialized RJ1 ∈ s_gw := j_gw 137 (by decide +kernel) rfl
theorem j_i3 : Cond.initialized RJ3 ∈ s_gw := j_gw 138 (by decide +kernel) rfl
theorem j_L2 : Cond.instanceMethod yJ0_length_8abf5 ∈ s_gw := j_gw 1022 (by decide +kernel) rfl
theorem j_L3 : Cond.selects RJ0 yJ0_length_8abf5 yJ0_length_8abf5 ∈ s_gw := j_gw 1023 (by decide +kernel) rfl
theorem j_L4 : Cond.code yJ0_length_8abf5 cJ0_length_8abf5 1 (some .int) ∈ s_gw := j_gw 1024 (by decide +kernel) rfl
theorem j_C1 : Cond.methodLink RJ0 335 yJ0_coder_7d493 ∈ s_gw := j_gw 1025 (by decide +kernel) rfl
theorem j_C2 : Cond.instanceMethod yJ0_coder_7d493 ∈ s_gw := j_gw 1026 (by decide +kernel) rfl
theorem j_C3 : Cond.selects RJ0 yJ0_coder_7d493 yJ0_coder_7d493 ∈ s_gw := j_gw 1027 (by decide +kernel) rfl
theorem j_C4 : Cond.code yJ0_coder_7d493 cJ0_coder_7d493 1 (some .byte) ∈ s_gw := j_gw 1028 (by decide +kernel) rfl
theorem j_F38 : Cond.fieldLink RJ0 38 "java/lang/String" "COMPACT_STRINGS" "Z" ∈ s_gw := j_gw 1029 (by decide +kernel) rfl
theorem j_A2 : Cond.instanceMethod yJ0_charAt_5068e ∈ s_gw := j_gw 1032 (by decide +kernel) rfl
theorem j_A3 : Cond.selects RJ0 yJ0_charAt_5068e yJ0_charAt_5068e ∈ s_gw := j_gw 1033 (by decide +kernel) rfl
theorem j_A4 : Cond.code yJ0_charAt_5068e cJ0_charAt_5068e 2 (some .char) ∈ s_gw := j_gw 1034 (by decide +kernel) rfl
theorem j_T1 : Cond.methodLink RJ0 492 yJ0_isLatin1_aae02 ∈ s_gw := j_gw 1035 (by decide +kernel) rfl
theorem j_T2 : Cond.instanceMethod yJ0_isLatin1_aae02 ∈ s_gw := j_gw 1036 (by decide +kernel) rfl
theorem j_T3 : Cond.selects RJ0 yJ0_isLatin1_aae02 yJ0_isLatin1_aae02 ∈ s_gw := j_gw 1037 (by decide +kernel) rfl
theorem j_T4 : Cond.code yJ0_isLatin1_aae02 cJ0_isLatin1_aae02 1 (some .boolean) ∈ s_gw := j_gw 1038 (by decide +kernel) rfl
theorem j_B1 : Cond.methodLink RJ0 495 yJ1_charAt_3b067 ∈ s_gw := j_gw 1039 (by decide +kernel) rfl
theorem j_B2 : Cond.static yJ1_charAt_3b067 ∈ s_gw := j_gw 1040 (by decide +kernel) rfl
theorem j_B4 : Cond.code yJ1_charAt_3b067 cJ1_charAt_3b067 2 (some .char) ∈ s_gw := j_gw 1041 (by decide +kernel) rfl
theorem j_D1 : Cond.methodLink RJ1 9 yJ0_checkIndex_df160 ∈ s_gw := j_gw 1042 (by decide +kernel) rfl
theorem j_D2 : Cond.static yJ0_checkIndex_df160 ∈ s_gw := j_gw 1043 (by decide +kernel) rfl
theorem j_D4 : Cond.code yJ0_checkIndex_df160 cJ0_checkIndex_df160 2 none ∈ s_gw := j_gw 1044 (by decide +kernel) rfl
theorem j_F1053 : Cond.fieldLink RJ0 1053 "jdk/internal/util/Preconditions" "SIOOBE_FORMATTER" "Ljava/util/function/BiFunction;" ∈ s_gw := j_gw 1045 (by decide +kernel) rfl
theorem j_E1 : Cond.methodLink RJ0 1059 yJ3_checkIndex_8e157 ∈ s_gw := j_gw 1047 (by decide +kernel) rfl
theorem j_E2 : Cond.static yJ3_checkIndex_8e157 ∈ s_gw := j_gw 1048 (by decide +kernel) rfl
theorem j_E4 : Cond.code yJ3_checkIndex_8e157 cJ3_checkIndex_8e157 3 (some .int) ∈ s_gw := j_gw 1049 (by decide +kernel) rfl
theorem j_F9 : Cond.fieldLink RJ0 9 "java/lang/String" "value" "[B" ∈ s_gw := j_gw 2034 (by decide +kernel) rfl
theorem j_F15 : Cond.fieldLink RJ0 15 "java/lang/String" "coder" "B" ∈ s_gw := j_gw 2035 (by decide +kernel) rfl
section JK
variable {l : Launch} {A : Nat → Prop} {x t : Nat} {tx : List Int32}
theorem j_coder : Met l yJ0_coder_7d493 (j_ws yJ0_coder_7d493 cJ0_coder_7d493 1 (some .byte)) (j_rm 0) (j_P A x t tx [.ref x]) (j_Q (some (.int 0))) 0 0 (fun _ => False) := by
  refine j_met (by decide +kernel) (Nat.le_refl _) ?_
  intro p e R s m below meth c ls hR1 hR2 hx hb hml hown hts hr hlk hSS hl
  have l0 : ls[0]? = some (.val (.ref x)) := hl.2.2 (0, .ref x) List.mem_cons_self
  refine va_gets hx hb hSS.2.2.2.2.1 va_S.rf hown (hts _ j_F38) (fun _ h => h) (by decide +kernel : decode cJ0_coder_7d493 0 = .ok (.getstatic 38, 3)) ?_
  refine lv_if_eq (tgt := 13) hx hb (by decide +kernel : decode cJ0_coder_7d493 3 = .ok (.ifCond .eq 10, 3)) (by decide) (fun h => absurd h (by decide)) (fun _ => ?_)
  refine lv_aload_n hx hb (by decide +kernel : decode cJ0_coder_7d493 6 = .ok (.aload_n 0, 1)) rfl l0 ?_
  refine vk_getf hx hb hSS.2.1 va_S.rf hown (hts _ j_F15) (fun _ h => h) (by decide +kernel : decode cJ0_coder_7d493 7 = .ok (.getfield 15, 3)) ?_
  refine lv_goto (tgt := 14) hx hb (by decide +kernel : decode cJ0_coder_7d493 10 = .ok (.goto 4, 3)) (by decide) ?_
  exact W.zret hx hb hr rfl (fun t ht _ => ⟨rfl, ht⟩) (fun q h => by cases h) (by decide +kernel : decode cJ0_coder_7d493 14 = .ok (.ireturn, 1)) hlk
theorem j_isLatin1 : Met l yJ0_isLatin1_aae02 (j_ws yJ0_isLatin1_aae02 cJ0_isLatin1_aae02 1 (some .boolean)) (j_rm 0) (j_P A x t tx [.ref x]) (j_Q (some (.int 1))) 0 0 (fun _ => False) := by
  refine j_met (by decide +kernel) (Nat.le_refl _) ?_
  intro p e R s m below meth c ls hR1 hR2 hx hb hml hown hts hr hlk hSS hl
  have l0 : ls[0]? = some (.val (.ref x)) := hl.2.2 (0, .ref x) List.mem_cons_self
  refine va_gets hx hb hSS.2.2.2.2.1 va_S.rf hown (hts _ j_F38) (fun _ h => h) (by decide +kernel : decode cJ0_isLatin1_aae02 0 = .ok (.getstatic 38, 3)) ?_
  refine lv_if_eq (tgt := 17) hx hb (by decide +kernel : decode cJ0_isLatin1_aae02 3 = .ok (.ifCond .eq 14, 3)) (by decide) (fun h => absurd h (by decide)) (fun _ => ?_)
  refine lv_aload_n hx hb (by decide +kernel : decode cJ0_isLatin1_aae02 6 = .ok (.aload_n 0, 1)) rfl l0 ?_
  refine vk_getf hx hb hSS.2.1 va_S.rf hown (hts _ j_F15) (fun _ h => h) (by decide +kernel : decode cJ0_isLatin1_aae02 7 = .ok (.getfield 15, 3)) ?_
  refine lv_if_ne (tgt := 17) hx hb (by decide +kernel : decode cJ0_isLatin1_aae02 10 = .ok (.ifCond .ne 7, 3)) (by decide) (fun h => absurd rfl h) (fun _ => ?_)
  refine lv_iconst hx hb (by decide +kernel : decode cJ0_isLatin1_aae02 13 = .ok (.iconst 1, 1)) rfl ?_
  refine lv_goto (tgt := 18) hx hb (by decide +kernel : decode cJ0_isLatin1_aae02 14 = .ok (.goto 4, 3)) (by decide) ?_
  exact W.zret hx hb hr rfl (fun t ht _ => ⟨rfl, ht⟩) (fun q h => by cases h) (by decide +kernel : decode cJ0_isLatin1_aae02 18 = .ok (.ireturn, 1)) hlk
theorem j_length (hL : tx.length < 2 ^ 31) : Met l yJ0_length_8abf5 (j_ws yJ0_length_8abf5 cJ0_length_8abf5 1 (some .int)) (j_rm 1) (j_P A x t tx [.ref x]) (j_Q (some (.int (Int32.ofNat tx.length)))) 0 0 (fun _ => False) := by
  refine j_met (by decide +kernel) (Nat.le_refl _) ?_
  intro p e R s m below meth c ls hR1 hR2 hx hb hml hown hts hr hlk hSS hl
  have l0 : ls[0]? = some (.val (.ref x)) := hl.2.2 (0, .ref x) List.mem_cons_self
  refine lv_aload_n hx hb (by decide +kernel : decode cJ0_length_8abf5 0 = .ok (.aload_n 0, 1)) rfl l0 ?_
  refine vk_getf hx hb hSS.2.2.1 va_S.rf hown (hts _ j_F9) (fun _ h => h) (by decide +kernel : decode cJ0_length_8abf5 1 = .ok (.getfield 9, 3)) ?_
  refine va_tlen hx hb hSS.2.2.2.1 va_S.rf rfl (by decide +kernel : decode cJ0_length_8abf5 4 = .ok (.arraylength, 1)) ?_
  refine lv_aload_n hx hb (by decide +kernel : decode cJ0_length_8abf5 5 = .ok (.aload_n 0, 1)) rfl l0 ?_
  refine j_callV (As := []) (n := 0) (na := 0) hx hb hml hown hts hSS va_S.rf j_coder (by omega) (by omega) (Nat.zero_le _) (Nat.zero_le _) j_C4 j_i0 (by decide +kernel) (by decide +kernel) j_C1 j_C2 j_C3 rfl hl.1 (by show 1 + 0 ≤ 8; decide) (by decide +kernel : decode cJ0_length_8abf5 6 = .ok (.invokevirtual 335, 3)) ?_
  refine lv_ishr hx hb (by decide +kernel : decode cJ0_length_8abf5 9 = .ok (.ishr, 1)) ?_
  have e0 : Int32.ofNat tx.length >>> ((0 : Int32) &&& 31) = Int32.ofNat tx.length := sc_shr0 hL
  rw [e0]
  exact W.iret hx hb hr (fun t ht _ => ⟨rfl, ht⟩) (fun q h => by cases h) (by decide +kernel : decode cJ0_length_8abf5 10 = .ok (.ireturn, 1)) hlk
theorem j_pck {i n : Int32} {f : Value} (h0 : ¬ i < 0) (h1 : i < n) (hf : f.category = 1) : Met l yJ3_checkIndex_8e157 (j_ws yJ3_checkIndex_8e157 cJ3_checkIndex_8e157 3 (some .int)) (j_rm 0) (j_P A x t tx [.int i, .int n, f]) (j_Q (some (.int i))) 0 0 (fun _ => False) := by
  refine j_met (by decide +kernel) (by cases f <;> first | exact Nat.le_refl _ | cases hf) ?_
  intro p e R s m below meth c ls hR1 hR2 hx hb hml hown hts hr hlk hSS hl
  have l0 : ls[0]? = some (.val (.int i)) := hl.2.2 (0, .int i) List.mem_cons_self
  have l1 : ls[1]? = some (.val (.int n)) := hl.2.2 (1, .int n) (List.mem_cons_of_mem _ List.mem_cons_self)
  refine lv_iload_n hx hb (by decide +kernel : decode cJ3_checkIndex_8e157 0 = .ok (.iload_n 0, 1)) rfl l0 ?_
  refine lv_if_lt (tgt := 9) hx hb (by decide +kernel : decode cJ3_checkIndex_8e157 1 = .ok (.ifCond .lt 8, 3)) (by decide) (fun h => absurd h h0) (fun _ => ?_)
  refine lv_iload_n hx hb (by decide +kernel : decode cJ3_checkIndex_8e157 4 = .ok (.iload_n 0, 1)) rfl l0 ?_
  refine lv_iload_n hx hb (by decide +kernel : decode cJ3_checkIndex_8e157 5 = .ok (.iload_n 1, 1)) rfl l1 ?_
  refine lv_icmp_lt (tgt := 16) hx hb (by decide +kernel : decode cJ3_checkIndex_8e157 6 = .ok (.if_icmp .lt 10, 3)) (by decide) (fun _ => ?_) (fun h => absurd h1 h)
  refine lv_iload_n hx hb (by decide +kernel : decode cJ3_checkIndex_8e157 16 = .ok (.iload_n 0, 1)) rfl l0 ?_
  exact W.iret hx hb hr (fun t ht _ => ⟨rfl, ht⟩) (fun q h => by cases h) (by decide +kernel : decode cJ3_checkIndex_8e157 17 = .ok (.ireturn, 1)) hlk
theorem j_ck {i n : Int32} (h0 : ¬ i < 0) (h1 : i < n) : Met l yJ0_checkIndex_df160 (j_ws yJ0_checkIndex_df160 cJ0_checkIndex_df160 2 none) (j_rm 1) (j_P A x t tx [.int i, .int n]) (j_Q none) 0 0 (fun _ => False) := by
  refine j_met (by decide +kernel) (Nat.le_refl _) ?_
  intro p e R s m below meth c ls hR1 hR2 hx hb hml hown hts hr hlk hSS hl
  have l0 : ls[0]? = some (.val (.int i)) := hl.2.2 (0, .int i) List.mem_cons_self
  have l1 : ls[1]? = some (.val (.int n)) := hl.2.2 (1, .int n) (List.mem_cons_of_mem _ List.mem_cons_self)
  have key : ∀ f : Value, f.category = 1 → W p l e R s m [Value.int i, .int n].toArray below meth c s.heap [] 0 0 (MQ below (j_Q none) [Value.int i, .int n].toArray s 0 0 (fun _ => False)) (F0 m 5 ls [f, .int n, .int i]) := by
    intro f hf
    refine j_callS (As := [.int i, .int n, f]) (rest := []) (n := 0) (na := 3) hx hb hml hown hts hSS va_S.rf (j_pck h0 h1 hf) (by omega) (by omega) (Nat.zero_le _) (Nat.zero_le _) j_E4 j_i3 (by decide +kernel) (by decide +kernel) j_E1 j_E2 rfl hl.1 (by decide) (by decide +kernel : decode cJ0_checkIndex_df160 5 = .ok (.invokestatic 1059, 3)) ?_
    refine lv_pop hx hb (by decide +kernel : decode cJ0_checkIndex_df160 8 = .ok (.pop, 1)) rfl ?_
    exact W.vret hx hb hr (fun t ht _ => ⟨rfl, ht⟩) (fun q h => by cases h) (by decide +kernel : decode cJ0_checkIndex_df160 9 = .ok (.return_, 1)) hlk
  refine lv_iload_n hx hb (by decide +kernel : decode cJ0_checkIndex_df160 0 = .ok (.iload_n 0, 1)) rfl l0 ?_
  refine lv_iload_n hx hb (by decide +kernel : decode cJ0_checkIndex_df160 1 = .ok (.iload_n 1, 1)) rfl l1 ?_
  rcases hSS.2.2.2.2.2 with hz | ⟨f, hz⟩
  · exact va_gets hx hb hz va_S.rf hown (hts _ j_F1053) (fun _ h => h) (by decide +kernel : decode cJ0_checkIndex_df160 2 = .ok (.getstatic 1053, 3)) (key _ rfl)
  · exact va_gets hx hb hz va_S.rf hown (hts _ j_F1053) (fun _ h => h) (by decide +kernel : decode cJ0_checkIndex_df160 2 = .ok (.getstatic 1053, 3)) (key _ rfl)
theorem j_ch1 {i : Int32} (hL : tx.length < 2 ^ 31) (hi : vp_in i tx.length) (h1 : i < Int32.ofNat tx.length) (hb8 : tx.getD i.toNatClampNeg 0 &&& 255 = tx.getD i.toNatClampNeg 0) : Met l yJ1_charAt_3b067 (j_ws yJ1_charAt_3b067 cJ1_charAt_3b067 2 (some .char)) (j_rm 2) (j_P A x t tx [.ref t, .int i]) (j_Q (some (.int (tx.getD i.toNatClampNeg 0)))) 0 0 (fun _ => False) := by
  refine j_met (by decide +kernel) (Nat.le_refl _) ?_
  intro p e R s m below meth c ls hR1 hR2 hx hb hml hown hts hr hlk hSS hl
  have l0 : ls[0]? = some (.val (.ref t)) := hl.2.2 (0, .ref t) List.mem_cons_self
  have l1 : ls[1]? = some (.val (.int i)) := hl.2.2 (1, .int i) (List.mem_cons_of_mem _ List.mem_cons_self)
  refine lv_iload_n hx hb (by decide +kernel : decode cJ1_charAt_3b067 0 = .ok (.iload_n 1, 1)) rfl l1 ?_
  refine lv_aload_n hx hb (by decide +kernel : decode cJ1_charAt_3b067 1 = .ok (.aload_n 0, 1)) rfl l0 ?_
  refine va_tlen hx hb hSS.2.2.2.1 va_S.rf rfl (by decide +kernel : decode cJ1_charAt_3b067 2 = .ok (.arraylength, 1)) ?_
  refine j_callS (As := [.int i, .int (Int32.ofNat tx.length)]) (rest := []) (v := none) (n := 1) (na := 2) hx hb hml hown hts hSS va_S.rf (j_ck (fun h => hi (Or.inl h)) h1) (by omega) (by omega) (Nat.zero_le _) (Nat.zero_le _) j_D4 j_i0 (by decide +kernel) (by decide +kernel) j_D1 j_D2 rfl hl.1 (by decide) (by decide +kernel : decode cJ1_charAt_3b067 3 = .ok (.invokestatic 9, 3)) ?_
  refine lv_aload_n hx hb (by decide +kernel : decode cJ1_charAt_3b067 6 = .ok (.aload_n 0, 1)) rfl l0 ?_
  refine lv_iload_n hx hb (by decide +kernel : decode cJ1_charAt_3b067 7 = .ok (.iload_n 1, 1)) rfl l1 ?_
  refine va_tb hx hb hSS.2.2.2.1 va_S.rf hi rfl (by decide +kernel : decode cJ1_charAt_3b067 8 = .ok (.baload, 1)) ?_
  refine lv_sipush (v := 255) hx hb (by decide +kernel : decode cJ1_charAt_3b067 9 = .ok (.sipush 255, 3)) (by decide) ?_
  refine lv_iand hx hb (by decide +kernel : decode cJ1_charAt_3b067 12 = .ok (.iand, 1)) ?_
  refine lv_i2c hx hb (by decide +kernel : decode cJ1_charAt_3b067 13 = .ok (.i2c, 1)) (sc_c2 _) ?_
  rw [hb8]
  exact W.zret hx hb hr (by rw [← hb8]; exact sc_nar _) (fun t ht _ => ⟨rfl, ht⟩) (fun q h => by cases h) (by decide +kernel : decode cJ1_charAt_3b067 14 = .ok (.ireturn, 1)) hlk
theorem j_ch {i : Int32} (hL : tx.length < 2 ^ 31) (hi : vp_in i tx.length) (h1 : i < Int32.ofNat tx.length) (hb8 : tx.getD i.toNatClampNeg 0 &&& 255 = tx.getD i.toNatClampNeg 0) : Met l yJ0_charAt_5068e (j_ws yJ0_charAt_5068e cJ0_charAt_5068e 2 (some .char)) (j_rm 3) (j_P A x t tx [.ref x, .int i]) (j_Q (some (.int (tx.getD i.toNatClampNeg 0)))) 0 0 (fun _ => False) := by
  refine j_met (by decide +kernel) (Nat.le_refl _) ?_
  intro p e R s m below meth c ls hR1 hR2 hx hb hml hown hts hr hlk hSS hl
  have l0 : ls[0]? = some (.val (.ref x)) := hl.2.2 (0, .ref x) List.mem_cons_self
  have l1 : ls[1]? = some (.val (.int i)) := hl.2.2 (1, .int i) (List.mem_cons_of_mem _ List.mem_cons_self)
  refine lv_aload_n hx hb (by decide +kernel : decode cJ0_charAt_5068e 0 = .ok (.aload_n 0, 1)) rfl l0 ?_
  refine j_callV (As := []) (rest := []) (n := 0) (na := 0) hx hb hml hown hts hSS va_S.rf j_isLatin1 (by omega) (by omega) (Nat.zero_le _) (Nat.zero_le _) j_T4 j_i0 (by decide +kernel) (by decide +kernel) j_T1 j_T2 j_T3 rfl hl.1 (by decide) (by decide +kernel : decode cJ0_charAt_5068e 1 = .ok (.invokevirtual 492, 3)) ?_
  refine lv_if_eq (tgt := 16) hx hb (by decide +kernel : decode cJ0_charAt_5068e 4 = .ok (.ifCond .eq 12, 3)) (by decide) (fun h => absurd h (by decide)) (fun _ => ?_)
  refine lv_aload_n hx hb (by decide +kernel : decode cJ0_charAt_5068e 7 = .ok (.aload_n 0, 1)) rfl l0 ?_
  refine vk_getf hx hb hSS.2.2.1 va_S.rf hown (hts _ j_F9) (fun _ h => h) (by decide +kernel : decode cJ0_charAt_5068e 8 = .ok (.getfield 9, 3)) ?_
  refine lv_iload_n hx hb (by decide +kernel : decode cJ0_charAt_5068e 11 = .ok (.iload_n 1, 1)) rfl l1 ?_
  refine j_callS (As := [.ref t, .int i]) (rest := []) (n := 2) (na := 2) hx hb hml hown hts hSS va_S.rf (j_ch1 hL hi h1 hb8) (by omega) (by omega) (Nat.zero_le _) (Nat.zero_le _) j_B4 j_i1 (by decide +kernel) (by decide +kernel) j_B1 j_B2 rfl hl.1 (by decide) (by decide +kernel : decode cJ0_charAt_5068e 12 = .ok (.invokestatic 495, 3)) ?_
  exact W.zret hx hb hr (by rw [← hb8]; exact sc_nar _) (fun t ht _ => ⟨rfl, ht⟩) (fun q h => by cases h) (by decide +kernel : decode cJ0_charAt_5068e 15 = .ok (.ireturn, 1)) hlk
end JK
