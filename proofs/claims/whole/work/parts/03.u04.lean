set_option maxRecDepth 100000 in
theorem s_d282_12 : s_dec code ((s_t282.drop 600).take 50) := by unfold s_dec; decide +kernel
set_option maxRecDepth 100000 in
theorem s_d282_13 : s_dec code ((s_t282.drop 650).take 50) := by unfold s_dec; decide +kernel
set_option maxRecDepth 100000 in
theorem s_d282_14 : s_dec code ((s_t282.drop 700).take 50) := by unfold s_dec; decide +kernel
