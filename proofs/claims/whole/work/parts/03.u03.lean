set_option maxRecDepth 100000 in
theorem s_d282_9 : s_dec code ((s_t282.drop 450).take 50) := by unfold s_dec; decide +kernel
set_option maxRecDepth 100000 in
theorem s_d282_10 : s_dec code ((s_t282.drop 500).take 50) := by unfold s_dec; decide +kernel
set_option maxRecDepth 100000 in
theorem s_d282_11 : s_dec code ((s_t282.drop 550).take 50) := by unfold s_dec; decide +kernel
