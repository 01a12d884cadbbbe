set_option maxRecDepth 100000 in
theorem s_d282_3 : s_dec code ((s_t282.drop 150).take 50) := by unfold s_dec; decide +kernel
set_option maxRecDepth 100000 in
theorem s_d282_4 : s_dec code ((s_t282.drop 200).take 50) := by unfold s_dec; decide +kernel
set_option maxRecDepth 100000 in
theorem s_d282_5 : s_dec code ((s_t282.drop 250).take 50) := by unfold s_dec; decide +kernel
