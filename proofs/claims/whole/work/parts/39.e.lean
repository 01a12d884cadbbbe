set_option maxRecDepth 100000 in
theorem q_c0 {xs : Nat → Int32} {Ln : Nat} : q_Cs xs Ln 208 := by
  intro i g hi hI hr
  obtain ⟨v, g1, g2, hF, hG, hI2⟩ := k_feed hI (xs (i + 1).toNatClampNeg) (xs (i + 2).toNatClampNeg) (xs (i + 3).toNatClampNeg) (xs (i + 4).toNatClampNeg) (xs (i + 5).toNatClampNeg)
  refine ⟨242, v, g1, g2, ?_, fun hr1 => ?_, hI2⟩
  · refine s_To.sg 1 (y := (209, s_L1 i, [.ref 0], s_hg g)) rfl ?_
    refine q_arg (j := i + 1) 1 (by omega) hi hr rfl rfl rfl ?_
    refine q_arg (j := i + 2) 2 (by omega) hi hr rfl rfl rfl ?_
    refine q_arg (j := i + 3) 3 (by omega) hi hr rfl rfl rfl ?_
    refine q_arg (j := i + 4) 4 (by omega) hi hr rfl rfl rfl ?_
    refine q_arg (j := i + 5) 5 (by omega) hi hr rfl rfl rfl ?_
    exact s_To.cl (d := 199) (q1 := s_m15) (md := 15) (vs := [.ref 0, .int (xs (i + 1).toNatClampNeg), .int (xs (i + 2).toNatClampNeg), .int (xs (i + 3).toNatClampNeg), .int (xs (i + 4).toNatClampNeg), .int (xs (i + 5).toNatClampNeg)]) (rest := []) rfl rfl rfl (Nat.le_of_ble_eq_true rfl) (s_Ev.up (by omega) (fC_feed_0_s hF)) s_To.rf
  · refine s_To.sg 1 (y := (243, s_L1 i, [.ref 130, .int v], s_hg g1)) rfl ?_
    refine q_arg (j := i + 1) 1 (by omega) hi hr1 rfl rfl rfl ?_
    refine q_arg (j := i + 2) 2 (by omega) hi hr1 rfl rfl rfl ?_
    refine q_arg (j := i + 3) 3 (by omega) hi hr1 rfl rfl rfl ?_
    refine q_arg (j := i + 4) 4 (by omega) hi hr1 rfl rfl rfl ?_
    refine q_arg (j := i + 5) 5 (by omega) hi hr1 rfl rfl rfl ?_
    exact s_To.cl (d := 199) (q1 := s_m157) (md := 157) (vs := [.ref 130, .int (xs (i + 1).toNatClampNeg), .int (xs (i + 2).toNatClampNeg), .int (xs (i + 3).toNatClampNeg), .int (xs (i + 4).toNatClampNeg), .int (xs (i + 5).toNatClampNeg)]) (rest := [.int v]) rfl rfl rfl (Nat.le_of_ble_eq_true rfl) (s_Ev.up (by omega) (fM_feed_130_s hG)) (q_end rfl)
set_option maxRecDepth 100000 in
theorem q_c1 {xs : Nat → Int32} {Ln : Nat} : q_Cs xs Ln 281 := by
  intro i g hi hI hr
  obtain ⟨v, g1, g2, hF, hG, hI2⟩ := k_end hI (xs (i + 1).toNatClampNeg)
  refine ⟨291, v, g1, g2, ?_, fun hr1 => ?_, hI2⟩
  · refine s_To.sg 1 (y := (282, s_L1 i, [.ref 0], s_hg g)) rfl ?_
    refine q_arg (j := i + 1) 1 (by omega) hi hr rfl rfl rfl ?_
    exact s_To.cl (d := 199) (q1 := s_m17) (md := 17) (vs := [.ref 0, .int (xs (i + 1).toNatClampNeg)]) (rest := []) rfl rfl rfl (Nat.le_of_ble_eq_true rfl) (s_Ev.up (by omega) (fC_end_0_s hF)) s_To.rf
  · refine s_To.sg 1 (y := (292, s_L1 i, [.ref 130, .int v], s_hg g1)) rfl ?_
    refine q_arg (j := i + 1) 1 (by omega) hi hr1 rfl rfl rfl ?_
    exact s_To.cl (d := 199) (q1 := s_m159) (md := 159) (vs := [.ref 130, .int (xs (i + 1).toNatClampNeg)]) (rest := [.int v]) rfl rfl rfl (Nat.le_of_ble_eq_true rfl) (s_Ev.up (by omega) (fM_end_130_s hG)) (q_end rfl)
set_option maxRecDepth 100000 in
theorem q_c2 {xs : Nat → Int32} {Ln : Nat} : q_Cs xs Ln 306 := by
  intro i g hi hI hr
  obtain ⟨v, g1, g2, hF, hG, hI2⟩ := k_camp hI
  refine ⟨310, v, g1, g2, ?_, fun hr1 => ?_, hI2⟩
  · refine s_To.sg 1 (y := (307, s_L1 i, [.ref 0], s_hg g)) rfl ?_
    exact s_To.cl (d := 199) (q1 := s_m18) (md := 18) (vs := [.ref 0]) (rest := []) rfl rfl rfl (Nat.le_of_ble_eq_true rfl) (s_Ev.up (by omega) (fC_camp_0_s hF)) s_To.rf
  · refine s_To.sg 1 (y := (311, s_L1 i, [.ref 130, .int v], s_hg g1)) rfl ?_
    exact s_To.cl (d := 199) (q1 := s_m163) (md := 163) (vs := [.ref 130]) (rest := [.int v]) rfl rfl rfl (Nat.le_of_ble_eq_true rfl) (s_Ev.up (by omega) (fM_camp_130_s hG)) (q_end rfl)
set_option maxRecDepth 100000 in
theorem q_c3 {xs : Nat → Int32} {Ln : Nat} : q_Cs xs Ln 319 := by
  intro i g hi hI hr
  obtain ⟨v, g2, hF, hG, hI2⟩ := k_fault hI
  refine ⟨323, v, g, g2, ?_, fun hr1 => ?_, hI2⟩
  · refine s_To.sg 1 (y := (320, s_L1 i, [.ref 0], s_hg g)) rfl ?_
    exact s_To.cl (d := 199) (q1 := s_m46) (md := 46) (vs := [.ref 0]) (rest := []) rfl rfl rfl (Nat.le_of_ble_eq_true rfl) (s_Ev.up (by omega) (fC_fault_0_s hF)) s_To.rf
  · refine s_To.sg 1 (y := (324, s_L1 i, [.ref 130, .int v], s_hg g)) rfl ?_
    exact s_To.cl (d := 199) (q1 := s_m190) (md := 190) (vs := [.ref 130]) (rest := [.int v]) rfl rfl rfl (Nat.le_of_ble_eq_true rfl) (s_Ev.up (by omega) (fM_fault_130_s hG)) (q_end rfl)
set_option maxRecDepth 100000 in
theorem q_c5 {xs : Nat → Int32} {Ln : Nat} : q_Cs xs Ln 400 := by
  intro i g hi hI hr
  obtain ⟨v, g2, hF, hG, hI2⟩ := k_on hI (xs (i + 1).toNatClampNeg) (xs (i + 2).toNatClampNeg)
  refine ⟨416, v, g, g2, ?_, fun hr1 => ?_, hI2⟩
  · refine s_To.sg 1 (y := (401, s_L1 i, [.ref 0], s_hg g)) rfl ?_
    refine q_arg (j := i + 1) 1 (by omega) hi hr rfl rfl rfl ?_
    refine q_arg (j := i + 2) 2 (by omega) hi hr rfl rfl rfl ?_
    exact s_To.cl (d := 199) (q1 := s_m47) (md := 47) (vs := [.ref 0, .int (xs (i + 1).toNatClampNeg), .int (xs (i + 2).toNatClampNeg)]) (rest := []) rfl rfl rfl (Nat.le_of_ble_eq_true rfl) (s_Ev.up (by omega) (fC_on_0_s hF)) s_To.rf
  · refine s_To.sg 1 (y := (417, s_L1 i, [.ref 130, .int v], s_hg g)) rfl ?_
    refine q_arg (j := i + 1) 1 (by omega) hi hr1 rfl rfl rfl ?_
    refine q_arg (j := i + 2) 2 (by omega) hi hr1 rfl rfl rfl ?_
    exact s_To.cl (d := 199) (q1 := s_m200) (md := 200) (vs := [.ref 130, .int (xs (i + 1).toNatClampNeg), .int (xs (i + 2).toNatClampNeg)]) (rest := [.int v]) rfl rfl rfl (Nat.le_of_ble_eq_true rfl) (s_Ev.up (by omega) (fM_on_130_s hG)) (q_end rfl)
set_option maxRecDepth 100000 in
theorem q_c6 {xs : Nat → Int32} {Ln : Nat} : q_Cs xs Ln 437 := by
  intro i g hi hI hr
  obtain ⟨v, g2, hF, hG, hI2⟩ := k_event hI (xs (i + 1).toNatClampNeg) (xs (i + 2).toNatClampNeg)
  refine ⟨453, v, g, g2, ?_, fun hr1 => ?_, hI2⟩
  · refine s_To.sg 1 (y := (438, s_L1 i, [.ref 0], s_hg g)) rfl ?_
    refine q_arg (j := i + 1) 1 (by omega) hi hr rfl rfl rfl ?_
    refine q_arg (j := i + 2) 2 (by omega) hi hr rfl rfl rfl ?_
    exact s_To.cl (d := 199) (q1 := s_m51) (md := 51) (vs := [.ref 0, .int (xs (i + 1).toNatClampNeg), .int (xs (i + 2).toNatClampNeg)]) (rest := []) rfl rfl rfl (Nat.le_of_ble_eq_true rfl) (s_Ev.up (by omega) (fC_event_0_s hF)) s_To.rf
  · refine s_To.sg 1 (y := (454, s_L1 i, [.ref 130, .int v], s_hg g)) rfl ?_
    refine q_arg (j := i + 1) 1 (by omega) hi hr1 rfl rfl rfl ?_
    refine q_arg (j := i + 2) 2 (by omega) hi hr1 rfl rfl rfl ?_
    exact s_To.cl (d := 199) (q1 := s_m202) (md := 202) (vs := [.ref 130, .int (xs (i + 1).toNatClampNeg), .int (xs (i + 2).toNatClampNeg)]) (rest := [.int v]) rfl rfl rfl (Nat.le_of_ble_eq_true rfl) (s_Ev.up (by omega) (fM_event_130_s hG)) (q_end rfl)
set_option maxRecDepth 100000 in
theorem q_c7 {xs : Nat → Int32} {Ln : Nat} : q_Cs xs Ln 474 := by
  intro i g hi hI hr
  obtain ⟨v, g2, hF, hG, hI2⟩ := k_takes hI (xs (i + 1).toNatClampNeg)
  refine ⟨484, v, g, g2, ?_, fun hr1 => ?_, hI2⟩
  · refine s_To.sg 1 (y := (475, s_L1 i, [.ref 0], s_hg g)) rfl ?_
    refine q_arg (j := i + 1) 1 (by omega) hi hr rfl rfl rfl ?_
    exact s_To.cl (d := 199) (q1 := s_m53) (md := 53) (vs := [.ref 0, .int (xs (i + 1).toNatClampNeg)]) (rest := []) rfl rfl rfl (Nat.le_of_ble_eq_true rfl) (s_Ev.up (by omega) (fC_takes_0_s hF)) s_To.rf
  · refine s_To.sg 1 (y := (485, s_L1 i, [.ref 130, .int v], s_hg g)) rfl ?_
    refine q_arg (j := i + 1) 1 (by omega) hi hr1 rfl rfl rfl ?_
    exact s_To.cl (d := 199) (q1 := s_m203) (md := 203) (vs := [.ref 130, .int (xs (i + 1).toNatClampNeg)]) (rest := [.int v]) rfl rfl rfl (Nat.le_of_ble_eq_true rfl) (s_Ev.up (by omega) (fM_takes_130_s hG)) (q_end rfl)
set_option maxRecDepth 100000 in
theorem q_c8 {xs : Nat → Int32} {Ln : Nat} : q_Cs xs Ln 499 := by
  intro i g hi hI hr
  obtain ⟨v, g2, hF, hG, hI2⟩ := k_ashes hI (xs (i + 1).toNatClampNeg)
  refine ⟨509, v, g, g2, ?_, fun hr1 => ?_, hI2⟩
  · refine s_To.sg 1 (y := (500, s_L1 i, [.ref 0], s_hg g)) rfl ?_
    refine q_arg (j := i + 1) 1 (by omega) hi hr rfl rfl rfl ?_
    exact s_To.cl (d := 199) (q1 := s_m55) (md := 55) (vs := [.ref 0, .int (xs (i + 1).toNatClampNeg)]) (rest := []) rfl rfl rfl (Nat.le_of_ble_eq_true rfl) (s_Ev.up (by omega) (fC_ashes_0_s hF)) s_To.rf
  · refine s_To.sg 1 (y := (510, s_L1 i, [.ref 130, .int v], s_hg g)) rfl ?_
    refine q_arg (j := i + 1) 1 (by omega) hi hr1 rfl rfl rfl ?_
    exact s_To.cl (d := 199) (q1 := s_m206) (md := 206) (vs := [.ref 130, .int (xs (i + 1).toNatClampNeg)]) (rest := [.int v]) rfl rfl rfl (Nat.le_of_ble_eq_true rfl) (s_Ev.up (by omega) (fM_ashes_130_s hG)) (q_end rfl)
set_option maxRecDepth 100000 in
theorem q_c9 {xs : Nat → Int32} {Ln : Nat} : q_Cs xs Ln 524 := by
  intro i g hi hI hr
  obtain ⟨v, g2, hF, hG, hI2⟩ := k_now hI (xs (i + 1).toNatClampNeg)
  refine ⟨534, v, g, g2, ?_, fun hr1 => ?_, hI2⟩
  · refine s_To.sg 1 (y := (525, s_L1 i, [.ref 0], s_hg g)) rfl ?_
    refine q_arg (j := i + 1) 1 (by omega) hi hr rfl rfl rfl ?_
    exact s_To.cl (d := 199) (q1 := s_m56) (md := 56) (vs := [.ref 0, .int (xs (i + 1).toNatClampNeg)]) (rest := []) rfl rfl rfl (Nat.le_of_ble_eq_true rfl) (s_Ev.up (by omega) (fC_now_0_s hF)) s_To.rf
  · refine s_To.sg 1 (y := (535, s_L1 i, [.ref 130, .int v], s_hg g)) rfl ?_
    refine q_arg (j := i + 1) 1 (by omega) hi hr1 rfl rfl rfl ?_
    exact s_To.cl (d := 199) (q1 := s_m207) (md := 207) (vs := [.ref 130, .int (xs (i + 1).toNatClampNeg)]) (rest := [.int v]) rfl rfl rfl (Nat.le_of_ble_eq_true rfl) (s_Ev.up (by omega) (fM_now_130_s hG)) (q_end rfl)
set_option maxRecDepth 100000 in
theorem q_c10 {xs : Nat → Int32} {Ln : Nat} : q_Cs xs Ln 549 := by
  intro i g hi hI hr
  obtain ⟨v, g1, g2, hF, hG, hI2⟩ := k_tell hI (xs (i + 1).toNatClampNeg) (xs (i + 2).toNatClampNeg)
  refine ⟨565, v, g1, g2, ?_, fun hr1 => ?_, hI2⟩
  · refine s_To.sg 1 (y := (550, s_L1 i, [.ref 0], s_hg g)) rfl ?_
    refine q_arg (j := i + 1) 1 (by omega) hi hr rfl rfl rfl ?_
    refine q_arg (j := i + 2) 2 (by omega) hi hr rfl rfl rfl ?_
    exact s_To.cl (d := 199) (q1 := s_m61) (md := 61) (vs := [.ref 0, .int (xs (i + 1).toNatClampNeg), .int (xs (i + 2).toNatClampNeg)]) (rest := []) rfl rfl rfl (Nat.le_of_ble_eq_true rfl) (s_Ev.up (by omega) (fC_tell_0_s hF)) s_To.rf
  · refine s_To.sg 1 (y := (566, s_L1 i, [.ref 130, .int v], s_hg g1)) rfl ?_
    refine q_arg (j := i + 1) 1 (by omega) hi hr1 rfl rfl rfl ?_
    refine q_arg (j := i + 2) 2 (by omega) hi hr1 rfl rfl rfl ?_
    exact s_To.cl (d := 199) (q1 := s_m210) (md := 210) (vs := [.ref 130, .int (xs (i + 1).toNatClampNeg), .int (xs (i + 2).toNatClampNeg)]) (rest := [.int v]) rfl rfl rfl (Nat.le_of_ble_eq_true rfl) (s_Ev.up (by omega) (fM_tell_130_s hG)) (q_end rfl)
set_option maxRecDepth 100000 in
theorem q_c11 {xs : Nat → Int32} {Ln : Nat} : q_Cs xs Ln 586 := by
  intro i g hi hI hr
  obtain ⟨v, g1, g2, hF, hG, hI2⟩ := k_lie hI (xs (i + 1).toNatClampNeg) (xs (i + 2).toNatClampNeg)
  refine ⟨602, v, g1, g2, ?_, fun hr1 => ?_, hI2⟩
  · refine s_To.sg 1 (y := (587, s_L1 i, [.ref 0], s_hg g)) rfl ?_
    refine q_arg (j := i + 1) 1 (by omega) hi hr rfl rfl rfl ?_
    refine q_arg (j := i + 2) 2 (by omega) hi hr rfl rfl rfl ?_
    exact s_To.cl (d := 199) (q1 := s_m70) (md := 70) (vs := [.ref 0, .int (xs (i + 1).toNatClampNeg), .int (xs (i + 2).toNatClampNeg)]) (rest := []) rfl rfl rfl (Nat.le_of_ble_eq_true rfl) (s_Ev.up (by omega) (fC_lie_0_s hF)) s_To.rf
  · refine s_To.sg 1 (y := (603, s_L1 i, [.ref 130, .int v], s_hg g1)) rfl ?_
    refine q_arg (j := i + 1) 1 (by omega) hi hr1 rfl rfl rfl ?_
    refine q_arg (j := i + 2) 2 (by omega) hi hr1 rfl rfl rfl ?_
    exact s_To.cl (d := 199) (q1 := s_m219) (md := 219) (vs := [.ref 130, .int (xs (i + 1).toNatClampNeg), .int (xs (i + 2).toNatClampNeg)]) (rest := [.int v]) rfl rfl rfl (Nat.le_of_ble_eq_true rfl) (s_Ev.up (by omega) (fM_lie_130_s hG)) (q_end rfl)
set_option maxRecDepth 100000 in
theorem q_c12 {xs : Nat → Int32} {Ln : Nat} : q_Cs xs Ln 623 := by
  intro i g hi hI hr
  obtain ⟨v, g1, g2, hF, hG, hI2⟩ := k_give hI (xs (i + 1).toNatClampNeg) (xs (i + 2).toNatClampNeg) (xs (i + 3).toNatClampNeg) (xs (i + 4).toNatClampNeg)
  refine ⟨651, v, g1, g2, ?_, fun hr1 => ?_, hI2⟩
  · refine s_To.sg 1 (y := (624, s_L1 i, [.ref 0], s_hg g)) rfl ?_
    refine q_arg (j := i + 1) 1 (by omega) hi hr rfl rfl rfl ?_
    refine q_arg (j := i + 2) 2 (by omega) hi hr rfl rfl rfl ?_
    refine q_arg (j := i + 3) 3 (by omega) hi hr rfl rfl rfl ?_
    refine q_arg (j := i + 4) 4 (by omega) hi hr rfl rfl rfl ?_
    exact s_To.cl (d := 199) (q1 := s_m72) (md := 72) (vs := [.ref 0, .int (xs (i + 1).toNatClampNeg), .int (xs (i + 2).toNatClampNeg), .int (xs (i + 3).toNatClampNeg), .int (xs (i + 4).toNatClampNeg)]) (rest := []) rfl rfl rfl (Nat.le_of_ble_eq_true rfl) (s_Ev.up (by omega) (fC_give_0_s hF)) s_To.rf
  · refine s_To.sg 1 (y := (652, s_L1 i, [.ref 130, .int v], s_hg g1)) rfl ?_
    refine q_arg (j := i + 1) 1 (by omega) hi hr1 rfl rfl rfl ?_
    refine q_arg (j := i + 2) 2 (by omega) hi hr1 rfl rfl rfl ?_
    refine q_arg (j := i + 3) 3 (by omega) hi hr1 rfl rfl rfl ?_
    refine q_arg (j := i + 4) 4 (by omega) hi hr1 rfl rfl rfl ?_
    exact s_To.cl (d := 199) (q1 := s_m220) (md := 220) (vs := [.ref 130, .int (xs (i + 1).toNatClampNeg), .int (xs (i + 2).toNatClampNeg), .int (xs (i + 3).toNatClampNeg), .int (xs (i + 4).toNatClampNeg)]) (rest := [.int v]) rfl rfl rfl (Nat.le_of_ble_eq_true rfl) (s_Ev.up (by omega) (fM_give_130_s hG)) (q_end rfl)
set_option maxRecDepth 100000 in
theorem q_c13 {xs : Nat → Int32} {Ln : Nat} : q_Cs xs Ln 684 := by
  intro i g hi hI hr
  obtain ⟨v, g1, g2, hF, hG, hI2⟩ := k_log hI
  refine ⟨688, v, g1, g2, ?_, fun hr1 => ?_, hI2⟩
  · refine s_To.sg 1 (y := (685, s_L1 i, [.ref 0], s_hg g)) rfl ?_
    exact s_To.cl (d := 199) (q1 := s_m74) (md := 74) (vs := [.ref 0]) (rest := []) rfl rfl rfl (Nat.le_of_ble_eq_true rfl) (s_Ev.up (by omega) (fC_log_0_s hF)) s_To.rf
  · refine s_To.sg 1 (y := (689, s_L1 i, [.ref 130, .int v], s_hg g1)) rfl ?_
    exact s_To.cl (d := 199) (q1 := s_m221) (md := 221) (vs := [.ref 130]) (rest := [.int v]) rfl rfl rfl (Nat.le_of_ble_eq_true rfl) (s_Ev.up (by omega) (fM_log_130_s hG)) (q_end rfl)
set_option maxRecDepth 100000 in
theorem q_c14 {xs : Nat → Int32} {Ln : Nat} : q_Cs xs Ln 697 := by
  intro i g hi hI hr
  obtain ⟨v, g1, g2, hF, hG, hI2⟩ := k_rake hI
  refine ⟨701, v, g1, g2, ?_, fun hr1 => ?_, hI2⟩
  · refine s_To.sg 1 (y := (698, s_L1 i, [.ref 0], s_hg g)) rfl ?_
    exact s_To.cl (d := 199) (q1 := s_m76) (md := 76) (vs := [.ref 0]) (rest := []) rfl rfl rfl (Nat.le_of_ble_eq_true rfl) (s_Ev.up (by omega) (fC_rake_0_s hF)) s_To.rf
  · refine s_To.sg 1 (y := (702, s_L1 i, [.ref 130, .int v], s_hg g1)) rfl ?_
    exact s_To.cl (d := 199) (q1 := s_m222) (md := 222) (vs := [.ref 130]) (rest := [.int v]) rfl rfl rfl (Nat.le_of_ble_eq_true rfl) (s_Ev.up (by omega) (fM_rake_130_s hG)) (q_end rfl)
set_option maxRecDepth 100000 in
theorem q_c15 {xs : Nat → Int32} {Ln : Nat} : q_Cs xs Ln 710 := by
  intro i g hi hI hr
  obtain ⟨v, g1, g2, hF, hG, hI2⟩ := k_days hI (xs (i + 1).toNatClampNeg)
  refine ⟨720, v, g1, g2, ?_, fun hr1 => ?_, hI2⟩
  · refine s_To.sg 1 (y := (711, s_L1 i, [.ref 0], s_hg g)) rfl ?_
    refine q_arg (j := i + 1) 1 (by omega) hi hr rfl rfl rfl ?_
    exact s_To.cl (d := 199) (q1 := s_m78) (md := 78) (vs := [.ref 0, .int (xs (i + 1).toNatClampNeg)]) (rest := []) rfl rfl rfl (Nat.le_of_ble_eq_true rfl) (s_Ev.up (by omega) (fC_days_0_s hF)) s_To.rf
  · refine s_To.sg 1 (y := (721, s_L1 i, [.ref 130, .int v], s_hg g1)) rfl ?_
    refine q_arg (j := i + 1) 1 (by omega) hi hr1 rfl rfl rfl ?_
    exact s_To.cl (d := 199) (q1 := s_m224) (md := 224) (vs := [.ref 130, .int (xs (i + 1).toNatClampNeg)]) (rest := [.int v]) rfl rfl rfl (Nat.le_of_ble_eq_true rfl) (s_Ev.up (by omega) (fM_days_130_s hG)) (q_end rfl)
set_option maxRecDepth 100000 in
theorem q_c16 {xs : Nat → Int32} {Ln : Nat} : q_Cs xs Ln 735 := by
  intro i g hi hI hr
  obtain ⟨v, g1, g2, hF, hG, hI2⟩ := k_undo hI
  refine ⟨739, v, g1, g2, ?_, fun hr1 => ?_, hI2⟩
  · refine s_To.sg 1 (y := (736, s_L1 i, [.ref 0], s_hg g)) rfl ?_
    exact s_To.cl (d := 199) (q1 := s_m82) (md := 82) (vs := [.ref 0]) (rest := []) rfl rfl rfl (Nat.le_of_ble_eq_true rfl) (s_Ev.up (by omega) (fC_undo_0_s hF)) s_To.rf
  · refine s_To.sg 1 (y := (740, s_L1 i, [.ref 130, .int v], s_hg g1)) rfl ?_
    exact s_To.cl (d := 199) (q1 := s_m223) (md := 223) (vs := [.ref 130]) (rest := [.int v]) rfl rfl rfl (Nat.le_of_ble_eq_true rfl) (s_Ev.up (by omega) (fM_undo_130_s hG)) (q_end rfl)
set_option maxRecDepth 100000 in
theorem q_c17 {xs : Nat → Int32} {Ln : Nat} : q_Cs xs Ln 748 := by
  intro i g hi hI hr
  obtain ⟨v, g1, g2, hF, hG, hI2⟩ := k_best hI
  refine ⟨752, v, g1, g2, ?_, fun hr1 => ?_, hI2⟩
  · refine s_To.sg 1 (y := (749, s_L1 i, [.ref 0], s_hg g)) rfl ?_
    exact s_To.cl (d := 199) (q1 := s_m84) (md := 84) (vs := [.ref 0]) (rest := []) rfl rfl rfl (Nat.le_of_ble_eq_true rfl) (s_Ev.up (by omega) (fC_best_0_s hF)) s_To.rf
  · refine s_To.sg 1 (y := (753, s_L1 i, [.ref 130, .int v], s_hg g1)) rfl ?_
    exact s_To.cl (d := 199) (q1 := s_m227) (md := 227) (vs := [.ref 130]) (rest := [.int v]) rfl rfl rfl (Nat.le_of_ble_eq_true rfl) (s_Ev.up (by omega) (fM_best_130_s hG)) (q_end rfl)
set_option maxRecDepth 100000 in
theorem q_c18 {xs : Nat → Int32} {Ln : Nat} : q_Cs xs Ln 761 := by
  intro i g hi hI hr
  obtain ⟨v, g2, hF, hG, hI2⟩ := k_bestAt hI (xs (i + 1).toNatClampNeg)
  refine ⟨771, v, g, g2, ?_, fun hr1 => ?_, hI2⟩
  · refine s_To.sg 1 (y := (762, s_L1 i, [.ref 0], s_hg g)) rfl ?_
    refine q_arg (j := i + 1) 1 (by omega) hi hr rfl rfl rfl ?_
    exact s_To.cl (d := 199) (q1 := s_m92) (md := 92) (vs := [.ref 0, .int (xs (i + 1).toNatClampNeg)]) (rest := []) rfl rfl rfl (Nat.le_of_ble_eq_true rfl) (s_Ev.up (by omega) (fC_bestAt_0_s hF)) s_To.rf
  · refine s_To.sg 1 (y := (772, s_L1 i, [.ref 130, .int v], s_hg g)) rfl ?_
    refine q_arg (j := i + 1) 1 (by omega) hi hr1 rfl rfl rfl ?_
    exact s_To.cl (d := 199) (q1 := s_m234) (md := 234) (vs := [.ref 130, .int (xs (i + 1).toNatClampNeg)]) (rest := [.int v]) rfl rfl rfl (Nat.le_of_ble_eq_true rfl) (s_Ev.up (by omega) (fM_bestAt_130_s hG)) (q_end rfl)
set_option maxRecDepth 100000 in
theorem q_c19 {xs : Nat → Int32} {Ln : Nat} : q_Cs xs Ln 786 := by
  intro i g hi hI hr
  obtain ⟨v, g1, g2, hF, hG, hI2⟩ := k_spread hI
  refine ⟨790, v, g1, g2, ?_, fun hr1 => ?_, hI2⟩
  · refine s_To.sg 1 (y := (787, s_L1 i, [.ref 0], s_hg g)) rfl ?_
    exact s_To.cl (d := 199) (q1 := s_m93) (md := 93) (vs := [.ref 0]) (rest := []) rfl rfl rfl (Nat.le_of_ble_eq_true rfl) (s_Ev.up (by omega) (fC_spread_0_s hF)) s_To.rf
  · refine s_To.sg 1 (y := (791, s_L1 i, [.ref 130, .int v], s_hg g1)) rfl ?_
    exact s_To.cl (d := 199) (q1 := s_m235) (md := 235) (vs := [.ref 130]) (rest := [.int v]) rfl rfl rfl (Nat.le_of_ble_eq_true rfl) (s_Ev.up (by omega) (fM_spread_130_s hG)) (q_end rfl)
