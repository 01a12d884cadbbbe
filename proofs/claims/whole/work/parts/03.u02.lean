set_option maxRecDepth 100000 in
theorem s_d282_6 : s_dec code ((s_t282.drop 300).take 50) := by unfold s_dec; decide +kernel
set_option maxRecDepth 100000 in
theorem s_d282_7 : s_dec code ((s_t282.drop 350).take 50) := by unfold s_dec; decide +kernel
set_option maxRecDepth 100000 in
theorem s_d282_8 : s_dec code ((s_t282.drop 400).take 50) := by unfold s_dec; decide +kernel
