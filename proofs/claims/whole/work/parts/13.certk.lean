def s_Tx (c : Nat) : u_T := match c with
  | 0 => TX0
  | 1 => TX1
  | 2 => TX2
  | 3 => TX3
  | 4 => TX4
  | 5 => TX5
  | 6 => TX6
  | 7 => TX7
  | 8 => TX8
  | 9 => TX9
  | 10 => TX10
  | 11 => TX11
  | _ => TX12
def s_tyx (c : Nat) : Nat → FieldType := match c with
  | 0 => tyX0
  | 1 => tyX1
  | 2 => tyX2
  | 3 => tyX3
  | 4 => tyX4
  | 5 => tyX5
  | 6 => tyX6
  | 7 => tyX7
  | 8 => tyX8
  | 9 => tyX9
  | 10 => tyX10
  | 11 => tyX11
  | _ => tyX12
def s_lp0 : List Nat := [485, 487, 489, 491, 493, 495, 497]
set_option maxRecDepth 100000 in
theorem s_la0 : ((List.range 7).all fun k => s_wAt (s_lp0.getD k 0) (u_lay RX0 TX0 k) && goodWord (u_lay RX0 TX0 k)) = true := by decide +kernel
theorem s_ok0 : s_okK 0 RX0 TX0 tyX0 := by
  refine ⟨rfl, rfl, fun w hw => ?_, tyX0_ok, nmX0, by decide +kernel, by decide +kernel, by decide +kernel, s_wAt_mem (p := 468) (by decide +kernel), s_wAt_mem (p := 123) (by decide +kernel)⟩
  obtain ⟨k, hk, rfl⟩ := List.mem_map.mp hw
  have h := List.all_eq_true.mp s_la0 k hk
  rw [Bool.and_eq_true] at h
  exact ⟨s_wAt_mem h.1, h.2⟩
def s_lp1 : List Nat := [398, 400, 402, 404, 406, 408, 410, 412, 414, 416, 418]
set_option maxRecDepth 100000 in
theorem s_la1 : ((List.range 11).all fun k => s_wAt (s_lp1.getD k 0) (u_lay RX1 TX1 k) && goodWord (u_lay RX1 TX1 k)) = true := by decide +kernel
theorem s_ok1 : s_okK 1 RX1 TX1 tyX1 := by
  refine ⟨rfl, rfl, fun w hw => ?_, tyX1_ok, nmX1, by decide +kernel, by decide +kernel, by decide +kernel, s_wAt_mem (p := 377) (by decide +kernel), s_wAt_mem (p := 120) (by decide +kernel)⟩
  obtain ⟨k, hk, rfl⟩ := List.mem_map.mp hw
  have h := List.all_eq_true.mp s_la1 k hk
  rw [Bool.and_eq_true] at h
  exact ⟨s_wAt_mem h.1, h.2⟩
def s_lp2 : List Nat := [262, 264, 266, 268, 270, 272, 274, 276, 278, 280, 282, 284, 286, 288]
set_option maxRecDepth 100000 in
theorem s_la2 : ((List.range 14).all fun k => s_wAt (s_lp2.getD k 0) (u_lay RX2 TX2 k) && goodWord (u_lay RX2 TX2 k)) = true := by decide +kernel
theorem s_ok2 : s_okK 2 RX2 TX2 tyX2 := by
  refine ⟨rfl, rfl, fun w hw => ?_, tyX2_ok, nmX2, by decide +kernel, by decide +kernel, by decide +kernel, s_wAt_mem (p := 208) (by decide +kernel), s_wAt_mem (p := 116) (by decide +kernel)⟩
  obtain ⟨k, hk, rfl⟩ := List.mem_map.mp hw
  have h := List.all_eq_true.mp s_la2 k hk
  rw [Bool.and_eq_true] at h
  exact ⟨s_wAt_mem h.1, h.2⟩
def s_lp3 : List Nat := [517]
set_option maxRecDepth 100000 in
theorem s_la3 : ((List.range 1).all fun k => s_wAt (s_lp3.getD k 0) (u_lay RX3 TX3 k) && goodWord (u_lay RX3 TX3 k)) = true := by decide +kernel
theorem s_ok3 : s_okK 3 RX3 TX3 tyX3 := by
  refine ⟨rfl, rfl, fun w hw => ?_, tyX3_ok, nmX3, by decide +kernel, by decide +kernel, by decide +kernel, s_wAt_mem (p := 511) (by decide +kernel), s_wAt_mem (p := 125) (by decide +kernel)⟩
  obtain ⟨k, hk, rfl⟩ := List.mem_map.mp hw
  have h := List.all_eq_true.mp s_la3 k hk
  rw [Bool.and_eq_true] at h
  exact ⟨s_wAt_mem h.1, h.2⟩
def s_lp4 : List Nat := [433, 435, 437]
set_option maxRecDepth 100000 in
theorem s_la4 : ((List.range 3).all fun k => s_wAt (s_lp4.getD k 0) (u_lay RX4 TX4 k) && goodWord (u_lay RX4 TX4 k)) = true := by decide +kernel
theorem s_ok4 : s_okK 4 RX4 TX4 tyX4 := by
  refine ⟨rfl, rfl, fun w hw => ?_, tyX4_ok, nmX4, by decide +kernel, by decide +kernel, by decide +kernel, s_wAt_mem (p := 422) (by decide +kernel), s_wAt_mem (p := 121) (by decide +kernel)⟩
  obtain ⟨k, hk, rfl⟩ := List.mem_map.mp hw
  have h := List.all_eq_true.mp s_la4 k hk
  rw [Bool.and_eq_true] at h
  exact ⟨s_wAt_mem h.1, h.2⟩
def s_lp5 : List Nat := [458, 460, 462, 464]
set_option maxRecDepth 100000 in
theorem s_la5 : ((List.range 4).all fun k => s_wAt (s_lp5.getD k 0) (u_lay RX5 TX5 k) && goodWord (u_lay RX5 TX5 k)) = true := by decide +kernel
theorem s_ok5 : s_okK 5 RX5 TX5 tyX5 := by
  refine ⟨rfl, rfl, fun w hw => ?_, tyX5_ok, nmX5, by decide +kernel, by decide +kernel, by decide +kernel, s_wAt_mem (p := 442) (by decide +kernel), s_wAt_mem (p := 122) (by decide +kernel)⟩
  obtain ⟨k, hk, rfl⟩ := List.mem_map.mp hw
  have h := List.all_eq_true.mp s_la5 k hk
  rw [Bool.and_eq_true] at h
  exact ⟨s_wAt_mem h.1, h.2⟩
def s_lp6 : List Nat := [507]
set_option maxRecDepth 100000 in
theorem s_la6 : ((List.range 1).all fun k => s_wAt (s_lp6.getD k 0) (u_lay RX6 TX6 k) && goodWord (u_lay RX6 TX6 k)) = true := by decide +kernel
theorem s_ok6 : s_okK 6 RX6 TX6 tyX6 := by
  refine ⟨rfl, rfl, fun w hw => ?_, tyX6_ok, nmX6, by decide +kernel, by decide +kernel, by decide +kernel, s_wAt_mem (p := 501) (by decide +kernel), s_wAt_mem (p := 124) (by decide +kernel)⟩
  obtain ⟨k, hk, rfl⟩ := List.mem_map.mp hw
  have h := List.all_eq_true.mp s_la6 k hk
  rw [Bool.and_eq_true] at h
  exact ⟨s_wAt_mem h.1, h.2⟩
def s_lp7 : List Nat := [361, 363, 365, 367, 369, 371, 373]
set_option maxRecDepth 100000 in
theorem s_la7 : ((List.range 7).all fun k => s_wAt (s_lp7.getD k 0) (u_lay RX7 TX7 k) && goodWord (u_lay RX7 TX7 k)) = true := by decide +kernel
theorem s_ok7 : s_okK 7 RX7 TX7 tyX7 := by
  refine ⟨rfl, rfl, fun w hw => ?_, tyX7_ok, nmX7, by decide +kernel, by decide +kernel, by decide +kernel, s_wAt_mem (p := 345) (by decide +kernel), s_wAt_mem (p := 119) (by decide +kernel)⟩
  obtain ⟨k, hk, rfl⟩ := List.mem_map.mp hw
  have h := List.all_eq_true.mp s_la7 k hk
  rw [Bool.and_eq_true] at h
  exact ⟨s_wAt_mem h.1, h.2⟩
def s_lp8 : List Nat := [323, 325, 327, 329, 331, 333, 335, 337, 339, 341]
set_option maxRecDepth 100000 in
theorem s_la8 : ((List.range 10).all fun k => s_wAt (s_lp8.getD k 0) (u_lay RX8 TX8 k) && goodWord (u_lay RX8 TX8 k)) = true := by decide +kernel
theorem s_ok8 : s_okK 8 RX8 TX8 tyX8 := by
  refine ⟨rfl, rfl, fun w hw => ?_, tyX8_ok, nmX8, by decide +kernel, by decide +kernel, by decide +kernel, s_wAt_mem (p := 294) (by decide +kernel), s_wAt_mem (p := 118) (by decide +kernel)⟩
  obtain ⟨k, hk, rfl⟩ := List.mem_map.mp hw
  have h := List.all_eq_true.mp s_la8 k hk
  rw [Bool.and_eq_true] at h
  exact ⟨s_wAt_mem h.1, h.2⟩
def s_lp9 : List Nat := [181, 183, 185, 187, 189, 191, 193, 195, 197, 199, 201, 203]
set_option maxRecDepth 100000 in
theorem s_la9 : ((List.range 12).all fun k => s_wAt (s_lp9.getD k 0) (u_lay RX9 TX9 k) && goodWord (u_lay RX9 TX9 k)) = true := by decide +kernel
theorem s_ok9 : s_okK 9 RX9 TX9 tyX9 := by
  refine ⟨rfl, rfl, fun w hw => ?_, tyX9_ok, nmX9, by decide +kernel, by decide +kernel, by decide +kernel, s_wAt_mem (p := 149) (by decide +kernel), s_wAt_mem (p := 115) (by decide +kernel)⟩
  obtain ⟨k, hk, rfl⟩ := List.mem_map.mp hw
  have h := List.all_eq_true.mp s_la9 k hk
  rw [Bool.and_eq_true] at h
  exact ⟨s_wAt_mem h.1, h.2⟩
def s_lp11 : List Nat := [545, 547, 549, 551, 553, 555, 557, 559, 561, 563, 565, 567, 569, 571, 573, 575]
set_option maxRecDepth 100000 in
theorem s_la11 : ((List.range 16).all fun k => s_wAt (s_lp11.getD k 0) (u_lay RX11 TX11 k) && goodWord (u_lay RX11 TX11 k)) = true := by decide +kernel
theorem s_ok11 : s_okK 11 RX11 TX11 tyX11 := by
  refine ⟨rfl, rfl, fun w hw => ?_, tyX11_ok, nmX11, by decide +kernel, by decide +kernel, by decide +kernel, s_wAt_mem (p := 141) (by decide +kernel), s_wAt_mem (p := 114) (by decide +kernel)⟩
  obtain ⟨k, hk, rfl⟩ := List.mem_map.mp hw
  have h := List.all_eq_true.mp s_la11 k hk
  rw [Bool.and_eq_true] at h
  exact ⟨s_wAt_mem h.1, h.2⟩
def s_lp12 : List Nat := [1448, 1450, 1452, 1454, 1456, 1458, 1460, 1462, 1464, 1466, 1468, 1470, 1472, 1474, 1476, 1478, 1480, 1482, 1484, 1486, 1488, 1490, 1492, 1494, 1496, 1498, 1500, 1502, 1504, 1506, 1508, 1510, 1512, 1514, 1516, 1518, 1520, 1522, 1524, 1526, 1528, 1530, 1532, 1534, 1536, 1538, 1540, 1542]
set_option maxRecDepth 100000 in
theorem s_la12 : ((List.range 48).all fun k => s_wAt (s_lp12.getD k 0) (u_lay RX12 TX12 k) && goodWord (u_lay RX12 TX12 k)) = true := by decide +kernel
theorem s_ok12 : s_okK 12 RX12 TX12 tyX12 := by
  refine ⟨rfl, rfl, fun w hw => ?_, tyX12_ok, nmX12, by decide +kernel, by decide +kernel, by decide +kernel, s_wAt_mem (p := 1381) (by decide +kernel), s_wAt_mem (p := 126) (by decide +kernel)⟩
  obtain ⟨k, hk, rfl⟩ := List.mem_map.mp hw
  have h := List.all_eq_true.mp s_la12 k hk
  rw [Bool.and_eq_true] at h
  exact ⟨s_wAt_mem h.1, h.2⟩
theorem s_okC : ∀ c, c < 13 → c ≠ 10 → s_okK c (s_R c) (s_Tx c) (s_tyx c) := by
  intro c hc h10
  match c, hc, h10 with
  | 0, _, _ => exact s_ok0
  | 1, _, _ => exact s_ok1
  | 2, _, _ => exact s_ok2
  | 3, _, _ => exact s_ok3
  | 4, _, _ => exact s_ok4
  | 5, _, _ => exact s_ok5
  | 6, _, _ => exact s_ok6
  | 7, _, _ => exact s_ok7
  | 8, _, _ => exact s_ok8
  | 9, _, _ => exact s_ok9
  | 10, _, h => exact absurd rfl h
  | 11, _, _ => exact s_ok11
  | 12, _, _ => exact s_ok12
  | n + 13, h, _ => exact absurd h (by omega)
