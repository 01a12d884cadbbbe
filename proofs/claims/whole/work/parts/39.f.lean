set_option maxRecDepth 100000 in
theorem q_c20 {xs : Nat → Int32} {Ln : Nat} : q_Cs xs Ln 799 := by
  intro i g hi hI hr
  obtain ⟨v, g2, hF, hG, hI2⟩ := k_spreadOf hI (xs (i + 1).toNatClampNeg)
  refine ⟨809, v, g, g2, ?_, fun hr1 => ?_, hI2⟩
  · refine s_To.sg 1 (y := (800, s_L1 i, [.ref 0], s_hg g)) rfl ?_
    refine q_arg (j := i + 1) 1 (by omega) hi hr rfl rfl rfl ?_
    exact s_To.cl (d := 199) (q1 := s_m95) (md := 95) (vs := [.ref 0, .int (xs (i + 1).toNatClampNeg)]) (rest := []) rfl rfl rfl (Nat.le_of_ble_eq_true rfl) (s_Ev.up (by omega) (fC_spreadOf_0_s hF)) s_To.rf
  · refine s_To.sg 1 (y := (810, s_L1 i, [.ref 130, .int v], s_hg g)) rfl ?_
    refine q_arg (j := i + 1) 1 (by omega) hi hr1 rfl rfl rfl ?_
    exact s_To.cl (d := 199) (q1 := s_m236) (md := 236) (vs := [.ref 130, .int (xs (i + 1).toNatClampNeg)]) (rest := [.int v]) rfl rfl rfl (Nat.le_of_ble_eq_true rfl) (s_Ev.up (by omega) (fM_spreadOf_130_s hG)) (q_end rfl)
set_option maxRecDepth 100000 in
theorem q_c21 {xs : Nat → Int32} {Ln : Nat} : q_Cs xs Ln 824 := by
  intro i g hi hI hr
  obtain ⟨v, g1, g2, hF, hG, hI2⟩ := k_says hI (xs (i + 1).toNatClampNeg) (xs (i + 2).toNatClampNeg)
  refine ⟨840, v, g1, g2, ?_, fun hr1 => ?_, hI2⟩
  · refine s_To.sg 1 (y := (825, s_L1 i, [.ref 0], s_hg g)) rfl ?_
    refine q_arg (j := i + 1) 1 (by omega) hi hr rfl rfl rfl ?_
    refine q_arg (j := i + 2) 2 (by omega) hi hr rfl rfl rfl ?_
    exact s_To.cl (d := 199) (q1 := s_m96) (md := 96) (vs := [.ref 0, .int (xs (i + 1).toNatClampNeg), .int (xs (i + 2).toNatClampNeg)]) (rest := []) rfl rfl rfl (Nat.le_of_ble_eq_true rfl) (s_Ev.up (by omega) (fC_says_0_s hF)) s_To.rf
  · refine s_To.sg 1 (y := (841, s_L1 i, [.ref 130, .int v], s_hg g1)) rfl ?_
    refine q_arg (j := i + 1) 1 (by omega) hi hr1 rfl rfl rfl ?_
    refine q_arg (j := i + 2) 2 (by omega) hi hr1 rfl rfl rfl ?_
    exact s_To.cl (d := 199) (q1 := s_m237) (md := 237) (vs := [.ref 130, .int (xs (i + 1).toNatClampNeg), .int (xs (i + 2).toNatClampNeg)]) (rest := [.int v]) rfl rfl rfl (Nat.le_of_ble_eq_true rfl) (s_Ev.up (by omega) (fM_says_130_s hG)) (q_end rfl)
set_option maxRecDepth 100000 in
theorem q_c22 {xs : Nat → Int32} {Ln : Nat} : q_Cs xs Ln 861 := by
  intro i g hi hI hr
  obtain ⟨v, g2, hF, hG, hI2⟩ := k_saying hI
  refine ⟨865, v, g, g2, ?_, fun hr1 => ?_, hI2⟩
  · refine s_To.sg 1 (y := (862, s_L1 i, [.ref 0], s_hg g)) rfl ?_
    exact s_To.cl (d := 199) (q1 := s_m100) (md := 100) (vs := [.ref 0]) (rest := []) rfl rfl rfl (Nat.le_of_ble_eq_true rfl) (s_Ev.up (by omega) (fC_saying_0_s hF)) s_To.rf
  · refine s_To.sg 1 (y := (866, s_L1 i, [.ref 130, .int v], s_hg g)) rfl ?_
    exact s_To.cl (d := 199) (q1 := s_m238) (md := 238) (vs := [.ref 130]) (rest := [.int v]) rfl rfl rfl (Nat.le_of_ble_eq_true rfl) (s_Ev.up (by omega) (fM_saying_130_s hG)) (q_end rfl)
set_option maxRecDepth 100000 in
theorem q_c23 {xs : Nat → Int32} {Ln : Nat} : q_Cs xs Ln 874 := by
  intro i g hi hI hr
  obtain ⟨v, g1, g2, hF, hG, hI2⟩ := k_tents hI (xs (i + 1).toNatClampNeg)
  refine ⟨884, v, g1, g2, ?_, fun hr1 => ?_, hI2⟩
  · refine s_To.sg 1 (y := (875, s_L1 i, [.ref 0], s_hg g)) rfl ?_
    refine q_arg (j := i + 1) 1 (by omega) hi hr rfl rfl rfl ?_
    exact s_To.cl (d := 199) (q1 := s_m101) (md := 101) (vs := [.ref 0, .int (xs (i + 1).toNatClampNeg)]) (rest := []) rfl rfl rfl (Nat.le_of_ble_eq_true rfl) (s_Ev.up (by omega) (fC_tents_0_s hF)) s_To.rf
  · refine s_To.sg 1 (y := (885, s_L1 i, [.ref 130, .int v], s_hg g1)) rfl ?_
    refine q_arg (j := i + 1) 1 (by omega) hi hr1 rfl rfl rfl ?_
    exact s_To.cl (d := 199) (q1 := s_m239) (md := 239) (vs := [.ref 130, .int (xs (i + 1).toNatClampNeg)]) (rest := [.int v]) rfl rfl rfl (Nat.le_of_ble_eq_true rfl) (s_Ev.up (by omega) (fM_tents_130_s hG)) (q_end rfl)
set_option maxRecDepth 100000 in
theorem q_c24 {xs : Nat → Int32} {Ln : Nat} : q_Cs xs Ln 899 := by
  intro i g hi hI hr
  obtain ⟨v, g1, g2, hF, hG, hI2⟩ := k_laws hI
  refine ⟨903, v, g1, g2, ?_, fun hr1 => ?_, hI2⟩
  · refine s_To.sg 1 (y := (900, s_L1 i, [.ref 0], s_hg g)) rfl ?_
    exact s_To.cl (d := 199) (q1 := s_m104) (md := 104) (vs := [.ref 0]) (rest := []) rfl rfl rfl (Nat.le_of_ble_eq_true rfl) (s_Ev.up (by omega) (fC_laws_0_s hF)) s_To.rf
  · refine s_To.sg 1 (y := (904, s_L1 i, [.ref 130, .int v], s_hg g1)) rfl ?_
    exact s_To.cl (d := 199) (q1 := s_m241) (md := 241) (vs := [.ref 130]) (rest := [.int v]) rfl rfl rfl (Nat.le_of_ble_eq_true rfl) (s_Ev.up (by omega) (fM_laws_130_s hG)) (q_end rfl)
set_option maxRecDepth 100000 in
theorem q_c25 {xs : Nat → Int32} {Ln : Nat} : q_Cs xs Ln 912 := by
  intro i g hi hI hr
  obtain ⟨v, g2, hF, hG, hI2⟩ := k_watch hI
  refine ⟨916, v, g, g2, ?_, fun hr1 => ?_, hI2⟩
  · refine s_To.sg 1 (y := (913, s_L1 i, [.ref 0], s_hg g)) rfl ?_
    exact s_To.cl (d := 199) (q1 := s_m107) (md := 107) (vs := [.ref 0]) (rest := []) rfl rfl rfl (Nat.le_of_ble_eq_true rfl) (s_Ev.up (by omega) (fC_watch_0_s hF)) s_To.rf
  · refine s_To.sg 1 (y := (917, s_L1 i, [.ref 130, .int v], s_hg g)) rfl ?_
    exact s_To.cl (d := 199) (q1 := s_m244) (md := 244) (vs := [.ref 130]) (rest := [.int v]) rfl rfl rfl (Nat.le_of_ble_eq_true rfl) (s_Ev.up (by omega) (fM_watch_130_s hG)) (q_end rfl)
set_option maxRecDepth 100000 in
theorem q_c26 {xs : Nat → Int32} {Ln : Nat} : q_Cs xs Ln 925 := by
  intro i g hi hI hr
  obtain ⟨v, g1, g2, hF, hG, hI2⟩ := k_calm hI (xs (i + 1).toNatClampNeg)
  refine ⟨935, v, g1, g2, ?_, fun hr1 => ?_, hI2⟩
  · refine s_To.sg 1 (y := (926, s_L1 i, [.ref 0], s_hg g)) rfl ?_
    refine q_arg (j := i + 1) 1 (by omega) hi hr rfl rfl rfl ?_
    exact s_To.cl (d := 199) (q1 := s_m110) (md := 110) (vs := [.ref 0, .int (xs (i + 1).toNatClampNeg)]) (rest := []) rfl rfl rfl (Nat.le_of_ble_eq_true rfl) (s_Ev.up (by omega) (fC_calm_0_s hF)) s_To.rf
  · refine s_To.sg 1 (y := (936, s_L1 i, [.ref 130, .int v], s_hg g1)) rfl ?_
    refine q_arg (j := i + 1) 1 (by omega) hi hr1 rfl rfl rfl ?_
    exact s_To.cl (d := 199) (q1 := s_m245) (md := 245) (vs := [.ref 130, .int (xs (i + 1).toNatClampNeg)]) (rest := [.int v]) rfl rfl rfl (Nat.le_of_ble_eq_true rfl) (s_Ev.up (by omega) (fM_calm_130_s hG)) (q_end rfl)
set_option maxRecDepth 100000 in
theorem q_c27 {xs : Nat → Int32} {Ln : Nat} : q_Cs xs Ln 950 := by
  intro i g hi hI hr
  obtain ⟨v, g1, g2, hF, hG, hI2⟩ := k_tag hI (xs (i + 1).toNatClampNeg)
  refine ⟨960, v, g1, g2, ?_, fun hr1 => ?_, hI2⟩
  · refine s_To.sg 1 (y := (951, s_L1 i, [.ref 0], s_hg g)) rfl ?_
    refine q_arg (j := i + 1) 1 (by omega) hi hr rfl rfl rfl ?_
    exact s_To.cl (d := 199) (q1 := s_m113) (md := 113) (vs := [.ref 0, .int (xs (i + 1).toNatClampNeg)]) (rest := []) rfl rfl rfl (Nat.le_of_ble_eq_true rfl) (s_Ev.up (by omega) (fC_tag_0_s hF)) s_To.rf
  · refine s_To.sg 1 (y := (961, s_L1 i, [.ref 130, .int v], s_hg g1)) rfl ?_
    refine q_arg (j := i + 1) 1 (by omega) hi hr1 rfl rfl rfl ?_
    exact s_To.cl (d := 199) (q1 := s_m248) (md := 248) (vs := [.ref 130, .int (xs (i + 1).toNatClampNeg)]) (rest := [.int v]) rfl rfl rfl (Nat.le_of_ble_eq_true rfl) (s_Ev.up (by omega) (fM_tag_130_s hG)) (q_end rfl)
set_option maxRecDepth 100000 in
theorem q_c28 {xs : Nat → Int32} {Ln : Nat} : q_Cs xs Ln 975 := by
  intro i g hi hI hr
  obtain ⟨v, g2, hF, hG, hI2⟩ := k_byteAt hI (xs (i + 1).toNatClampNeg)
  refine ⟨985, v, g, g2, ?_, fun hr1 => ?_, hI2⟩
  · refine s_To.sg 1 (y := (976, s_L1 i, [.ref 0], s_hg g)) rfl ?_
    refine q_arg (j := i + 1) 1 (by omega) hi hr rfl rfl rfl ?_
    exact s_To.cl (d := 199) (q1 := s_m118) (md := 118) (vs := [.ref 0, .int (xs (i + 1).toNatClampNeg)]) (rest := []) rfl rfl rfl (Nat.le_of_ble_eq_true rfl) (s_Ev.up (by omega) (fC_byteAt_0_s hF)) s_To.rf
  · refine s_To.sg 1 (y := (986, s_L1 i, [.ref 130, .int v], s_hg g)) rfl ?_
    refine q_arg (j := i + 1) 1 (by omega) hi hr1 rfl rfl rfl ?_
    exact s_To.cl (d := 199) (q1 := s_m253) (md := 253) (vs := [.ref 130, .int (xs (i + 1).toNatClampNeg)]) (rest := [.int v]) rfl rfl rfl (Nat.le_of_ble_eq_true rfl) (s_Ev.up (by omega) (fM_byteAt_130_s hG)) (q_end rfl)
set_option maxRecDepth 100000 in
theorem q_c29 {xs : Nat → Int32} {Ln : Nat} : q_Cs xs Ln 1000 := by
  intro i g hi hI hr
  obtain ⟨v, g1, g2, hF, hG, hI2⟩ := k_drawn hI (xs (i + 1).toNatClampNeg) (xs (i + 2).toNatClampNeg)
  refine ⟨1016, v, g1, g2, ?_, fun hr1 => ?_, hI2⟩
  · refine s_To.sg 1 (y := (1001, s_L1 i, [.ref 0], s_hg g)) rfl ?_
    refine q_arg (j := i + 1) 1 (by omega) hi hr rfl rfl rfl ?_
    refine q_arg (j := i + 2) 2 (by omega) hi hr rfl rfl rfl ?_
    exact s_To.cl (d := 199) (q1 := s_m119) (md := 119) (vs := [.ref 0, .int (xs (i + 1).toNatClampNeg), .int (xs (i + 2).toNatClampNeg)]) (rest := []) rfl rfl rfl (Nat.le_of_ble_eq_true rfl) (s_Ev.up (by omega) (fC_drawn_0_s hF)) s_To.rf
  · refine s_To.sg 1 (y := (1017, s_L1 i, [.ref 130, .int v], s_hg g1)) rfl ?_
    refine q_arg (j := i + 1) 1 (by omega) hi hr1 rfl rfl rfl ?_
    refine q_arg (j := i + 2) 2 (by omega) hi hr1 rfl rfl rfl ?_
    exact s_To.cl (d := 199) (q1 := s_m254) (md := 254) (vs := [.ref 130, .int (xs (i + 1).toNatClampNeg), .int (xs (i + 2).toNatClampNeg)]) (rest := [.int v]) rfl rfl rfl (Nat.le_of_ble_eq_true rfl) (s_Ev.up (by omega) (fM_drawn_130_s hG)) (q_end rfl)
set_option maxRecDepth 100000 in
theorem q_c30 {xs : Nat → Int32} {Ln : Nat} : q_Cs xs Ln 1037 := by
  intro i g hi hI hr
  obtain ⟨v, g1, g2, hF, hG, hI2⟩ := k_odds hI (xs (i + 1).toNatClampNeg) (xs (i + 2).toNatClampNeg) (xs (i + 3).toNatClampNeg)
  refine ⟨1059, v, g1, g2, ?_, fun hr1 => ?_, hI2⟩
  · refine s_To.sg 1 (y := (1038, s_L1 i, [.ref 0], s_hg g)) rfl ?_
    refine q_arg (j := i + 1) 1 (by omega) hi hr rfl rfl rfl ?_
    refine q_arg (j := i + 2) 2 (by omega) hi hr rfl rfl rfl ?_
    refine q_arg (j := i + 3) 3 (by omega) hi hr rfl rfl rfl ?_
    exact s_To.cl (d := 199) (q1 := s_m124) (md := 124) (vs := [.ref 0, .int (xs (i + 1).toNatClampNeg), .int (xs (i + 2).toNatClampNeg), .int (xs (i + 3).toNatClampNeg)]) (rest := []) rfl rfl rfl (Nat.le_of_ble_eq_true rfl) (s_Ev.up (by omega) (fC_odds_0_s hF)) s_To.rf
  · refine s_To.sg 1 (y := (1060, s_L1 i, [.ref 130, .int v], s_hg g1)) rfl ?_
    refine q_arg (j := i + 1) 1 (by omega) hi hr1 rfl rfl rfl ?_
    refine q_arg (j := i + 2) 2 (by omega) hi hr1 rfl rfl rfl ?_
    refine q_arg (j := i + 3) 3 (by omega) hi hr1 rfl rfl rfl ?_
    exact s_To.cl (d := 199) (q1 := s_m258) (md := 258) (vs := [.ref 130, .int (xs (i + 1).toNatClampNeg), .int (xs (i + 2).toNatClampNeg), .int (xs (i + 3).toNatClampNeg)]) (rest := [.int v]) rfl rfl rfl (Nat.le_of_ble_eq_true rfl) (s_Ev.up (by omega) (fM_odds_130_s hG)) (q_end rfl)
set_option maxRecDepth 100000 in
theorem q_c31 {xs : Nat → Int32} {Ln : Nat} : q_Cs xs Ln 1086 := by
  intro i g hi hI hr
  obtain ⟨v, g1, g2, hF, hG, hI2⟩ := k_book hI (xs (i + 1).toNatClampNeg)
  refine ⟨1096, v, g1, g2, ?_, fun hr1 => ?_, hI2⟩
  · refine s_To.sg 1 (y := (1087, s_L1 i, [.ref 0], s_hg g)) rfl ?_
    refine q_arg (j := i + 1) 1 (by omega) hi hr rfl rfl rfl ?_
    exact s_To.cl (d := 199) (q1 := s_m125) (md := 125) (vs := [.ref 0, .int (xs (i + 1).toNatClampNeg)]) (rest := []) rfl rfl rfl (Nat.le_of_ble_eq_true rfl) (s_Ev.up (by omega) (fC_book_0_s hF)) s_To.rf
  · refine s_To.sg 1 (y := (1097, s_L1 i, [.ref 130, .int v], s_hg g1)) rfl ?_
    refine q_arg (j := i + 1) 1 (by omega) hi hr1 rfl rfl rfl ?_
    exact s_To.cl (d := 199) (q1 := s_m259) (md := 259) (vs := [.ref 130, .int (xs (i + 1).toNatClampNeg)]) (rest := [.int v]) rfl rfl rfl (Nat.le_of_ble_eq_true rfl) (s_Ev.up (by omega) (fM_book_130_s hG)) (q_end rfl)
set_option maxRecDepth 100000 in
theorem q_c32 {xs : Nat → Int32} {Ln : Nat} : q_Cs xs Ln 1111 := by
  intro i g hi hI hr
  obtain ⟨v, g2, hF, hG, hI2⟩ := k_told hI (xs (i + 1).toNatClampNeg)
  refine ⟨1121, v, g, g2, ?_, fun hr1 => ?_, hI2⟩
  · refine s_To.sg 1 (y := (1112, s_L1 i, [.ref 0], s_hg g)) rfl ?_
    refine q_arg (j := i + 1) 1 (by omega) hi hr rfl rfl rfl ?_
    exact s_To.cl (d := 199) (q1 := s_m134) (md := 134) (vs := [.ref 0, .int (xs (i + 1).toNatClampNeg)]) (rest := []) rfl rfl rfl (Nat.le_of_ble_eq_true rfl) (s_Ev.up (by omega) (fC_told_0_s hF)) s_To.rf
  · refine s_To.sg 1 (y := (1122, s_L1 i, [.ref 130, .int v], s_hg g)) rfl ?_
    refine q_arg (j := i + 1) 1 (by omega) hi hr1 rfl rfl rfl ?_
    exact s_To.cl (d := 199) (q1 := s_m266) (md := 266) (vs := [.ref 130, .int (xs (i + 1).toNatClampNeg)]) (rest := [.int v]) rfl rfl rfl (Nat.le_of_ble_eq_true rfl) (s_Ev.up (by omega) (fM_told_130_s hG)) (q_end rfl)
set_option maxRecDepth 100000 in
theorem q_c33 {xs : Nat → Int32} {Ln : Nat} : q_Cs xs Ln 1136 := by
  intro i g hi hI hr
  obtain ⟨v, g1, g2, hF, hG, hI2⟩ := k_sentence hI
  refine ⟨1140, v, g1, g2, ?_, fun hr1 => ?_, hI2⟩
  · refine s_To.sg 1 (y := (1137, s_L1 i, [.ref 0], s_hg g)) rfl ?_
    exact s_To.cl (d := 199) (q1 := s_m135) (md := 135) (vs := [.ref 0]) (rest := []) rfl rfl rfl (Nat.le_of_ble_eq_true rfl) (s_Ev.up (by omega) (fC_sentence_0_s hF)) s_To.rf
  · refine s_To.sg 1 (y := (1141, s_L1 i, [.ref 130, .int v], s_hg g1)) rfl ?_
    exact s_To.cl (d := 199) (q1 := s_m267) (md := 267) (vs := [.ref 130]) (rest := [.int v]) rfl rfl rfl (Nat.le_of_ble_eq_true rfl) (s_Ev.up (by omega) (fM_sentence_130_s hG)) (q_end rfl)
set_option maxRecDepth 100000 in
theorem q_c34 {xs : Nat → Int32} {Ln : Nat} : q_Cs xs Ln 1149 := by
  intro i g hi hI hr
  obtain ⟨v, g1, g2, hF, hG, hI2⟩ := k_said hI (xs (i + 1).toNatClampNeg)
  refine ⟨1159, v, g1, g2, ?_, fun hr1 => ?_, hI2⟩
  · refine s_To.sg 1 (y := (1150, s_L1 i, [.ref 0], s_hg g)) rfl ?_
    refine q_arg (j := i + 1) 1 (by omega) hi hr rfl rfl rfl ?_
    exact s_To.cl (d := 199) (q1 := s_m145) (md := 145) (vs := [.ref 0, .int (xs (i + 1).toNatClampNeg)]) (rest := []) rfl rfl rfl (Nat.le_of_ble_eq_true rfl) (s_Ev.up (by omega) (fC_said_0_s hF)) s_To.rf
  · refine s_To.sg 1 (y := (1160, s_L1 i, [.ref 130, .int v], s_hg g1)) rfl ?_
    refine q_arg (j := i + 1) 1 (by omega) hi hr1 rfl rfl rfl ?_
    exact s_To.cl (d := 199) (q1 := s_m277) (md := 277) (vs := [.ref 130, .int (xs (i + 1).toNatClampNeg)]) (rest := [.int v]) rfl rfl rfl (Nat.le_of_ble_eq_true rfl) (s_Ev.up (by omega) (fM_said_130_s hG)) (q_end rfl)
set_option maxRecDepth 100000 in
theorem q_c35 {xs : Nat → Int32} {Ln : Nat} : q_Cs xs Ln 1174 := by
  intro i g hi hI hr
  obtain ⟨v, g1, g2, hF, hG, hI2⟩ := k_image hI (xs (i + 1).toNatClampNeg)
  refine ⟨1184, v, g1, g2, ?_, fun hr1 => ?_, hI2⟩
  · refine s_To.sg 1 (y := (1175, s_L1 i, [.ref 0], s_hg g)) rfl ?_
    refine q_arg (j := i + 1) 1 (by omega) hi hr rfl rfl rfl ?_
    exact s_To.cl (d := 199) (q1 := s_m150) (md := 150) (vs := [.ref 0, .int (xs (i + 1).toNatClampNeg)]) (rest := []) rfl rfl rfl (Nat.le_of_ble_eq_true rfl) (s_Ev.up (by omega) (fC_image_0_s hF)) s_To.rf
  · refine s_To.sg 1 (y := (1185, s_L1 i, [.ref 130, .int v], s_hg g1)) rfl ?_
    refine q_arg (j := i + 1) 1 (by omega) hi hr1 rfl rfl rfl ?_
    exact s_To.cl (d := 199) (q1 := s_m279) (md := 279) (vs := [.ref 130, .int (xs (i + 1).toNatClampNeg)]) (rest := [.int v]) rfl rfl rfl (Nat.le_of_ble_eq_true rfl) (s_Ev.up (by omega) (fM_image_130_s hG)) (q_end rfl)
set_option maxRecDepth 100000 in
theorem q_c36 {xs : Nat → Int32} {Ln : Nat} : q_Cs xs Ln 1199 := by
  intro i g hi hI hr
  obtain ⟨v, g1, g2, hF, hG, hI2⟩ := k_restore hI (xs (i + 1).toNatClampNeg)
  refine ⟨1209, v, g1, g2, ?_, fun hr1 => ?_, hI2⟩
  · refine s_To.sg 1 (y := (1200, s_L1 i, [.ref 0], s_hg g)) rfl ?_
    refine q_arg (j := i + 1) 1 (by omega) hi hr rfl rfl rfl ?_
    exact s_To.cl (d := 199) (q1 := s_m152) (md := 152) (vs := [.ref 0, .int (xs (i + 1).toNatClampNeg)]) (rest := []) rfl rfl rfl (Nat.le_of_ble_eq_true rfl) (s_Ev.up (by omega) (fC_restore_0_s hF)) s_To.rf
  · refine s_To.sg 1 (y := (1210, s_L1 i, [.ref 130, .int v], s_hg g1)) rfl ?_
    refine q_arg (j := i + 1) 1 (by omega) hi hr1 rfl rfl rfl ?_
    exact s_To.cl (d := 199) (q1 := s_m280) (md := 280) (vs := [.ref 130, .int (xs (i + 1).toNatClampNeg)]) (rest := [.int v]) rfl rfl rfl (Nat.le_of_ble_eq_true rfl) (s_Ev.up (by omega) (fM_restore_130_s hG)) (q_end rfl)
set_option maxRecDepth 100000 in
theorem q_c37 {xs : Nat → Int32} {Ln : Nat} : q_Cs xs Ln 1224 := by
  intro i g hi hI hr
  obtain ⟨v, g2, hF, hG, hI2⟩ := k_count hI (xs (i + 1).toNatClampNeg)
  refine ⟨1234, v, g, g2, ?_, fun hr1 => ?_, hI2⟩
  · refine s_To.sg 1 (y := (1225, s_L1 i, [.ref 0], s_hg g)) rfl ?_
    refine q_arg (j := i + 1) 1 (by omega) hi hr rfl rfl rfl ?_
    exact s_To.cl (d := 199) (q1 := s_m154) (md := 154) (vs := [.ref 0, .int (xs (i + 1).toNatClampNeg)]) (rest := []) rfl rfl rfl (Nat.le_of_ble_eq_true rfl) (s_Ev.up (by omega) (fC_count_0_s hF)) s_To.rf
  · refine s_To.sg 1 (y := (1235, s_L1 i, [.ref 130, .int v], s_hg g)) rfl ?_
    refine q_arg (j := i + 1) 1 (by omega) hi hr1 rfl rfl rfl ?_
    exact s_To.cl (d := 199) (q1 := s_m281) (md := 281) (vs := [.ref 130, .int (xs (i + 1).toNatClampNeg)]) (rest := [.int v]) rfl rfl rfl (Nat.le_of_ble_eq_true rfl) (s_Ev.up (by omega) (fM_count_130_s hG)) (q_end rfl)
