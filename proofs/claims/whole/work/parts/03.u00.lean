set_option maxRecDepth 100000 in
theorem s_d282_0 : s_dec code ((s_t282.drop 0).take 50) := by unfold s_dec; decide +kernel
set_option maxRecDepth 100000 in
theorem s_d282_1 : s_dec code ((s_t282.drop 50).take 50) := by unfold s_dec; decide +kernel
set_option maxRecDepth 100000 in
theorem s_d282_2 : s_dec code ((s_t282.drop 100).take 50) := by unfold s_dec; decide +kernel
