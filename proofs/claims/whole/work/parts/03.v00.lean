theorem s_dec_cut (b : ByteArray) (t : List (Nat × Instr × Nat × Nat)) (n : Nat) (h1 : s_dec b (t.take n)) (h2 : s_dec b (t.drop n)) : s_dec b t := by
  intro q hq
  rw [← List.take_append_drop n t] at hq
  rcases List.mem_append.mp hq with h | h
  · exact h1 q h
  · exact h2 q h
theorem s_d282_e : s_dec code (s_t282.drop 750) := by
  have h : s_t282.drop 750 = [] := by decide +kernel
  rw [h]; intro q hq; cases hq
theorem s_d282_f14 : s_dec code (s_t282.drop 700) := s_dec_cut _ _ 50 s_d282_14 (by rw [List.drop_drop]; exact s_d282_e)
theorem s_d282_f13 : s_dec code (s_t282.drop 650) := s_dec_cut _ _ 50 s_d282_13 (by rw [List.drop_drop]; exact s_d282_f14)
theorem s_d282_f12 : s_dec code (s_t282.drop 600) := s_dec_cut _ _ 50 s_d282_12 (by rw [List.drop_drop]; exact s_d282_f13)
theorem s_d282_f11 : s_dec code (s_t282.drop 550) := s_dec_cut _ _ 50 s_d282_11 (by rw [List.drop_drop]; exact s_d282_f12)
theorem s_d282_f10 : s_dec code (s_t282.drop 500) := s_dec_cut _ _ 50 s_d282_10 (by rw [List.drop_drop]; exact s_d282_f11)
theorem s_d282_f9 : s_dec code (s_t282.drop 450) := s_dec_cut _ _ 50 s_d282_9 (by rw [List.drop_drop]; exact s_d282_f10)
theorem s_d282_f8 : s_dec code (s_t282.drop 400) := s_dec_cut _ _ 50 s_d282_8 (by rw [List.drop_drop]; exact s_d282_f9)
theorem s_d282_f7 : s_dec code (s_t282.drop 350) := s_dec_cut _ _ 50 s_d282_7 (by rw [List.drop_drop]; exact s_d282_f8)
theorem s_d282_f6 : s_dec code (s_t282.drop 300) := s_dec_cut _ _ 50 s_d282_6 (by rw [List.drop_drop]; exact s_d282_f7)
theorem s_d282_f5 : s_dec code (s_t282.drop 250) := s_dec_cut _ _ 50 s_d282_5 (by rw [List.drop_drop]; exact s_d282_f6)
theorem s_d282_f4 : s_dec code (s_t282.drop 200) := s_dec_cut _ _ 50 s_d282_4 (by rw [List.drop_drop]; exact s_d282_f5)
theorem s_d282_f3 : s_dec code (s_t282.drop 150) := s_dec_cut _ _ 50 s_d282_3 (by rw [List.drop_drop]; exact s_d282_f4)
theorem s_d282_f2 : s_dec code (s_t282.drop 100) := s_dec_cut _ _ 50 s_d282_2 (by rw [List.drop_drop]; exact s_d282_f3)
theorem s_d282_f1 : s_dec code (s_t282.drop 50) := s_dec_cut _ _ 50 s_d282_1 (by rw [List.drop_drop]; exact s_d282_f2)
theorem s_d282 : s_dec code s_t282 := s_dec_cut _ _ 50 s_d282_0 s_d282_f1
