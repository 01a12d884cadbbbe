def s_h0 (x : Nat → Int32) (n : Int32) : s_H := (0, 0, true, fun a => if a = 1200 then x else fun _ => n, fun _ _ => 0, fun _ _ => none)
set_option maxRecDepth 1000000 in
set_option maxHeartbeats 0 in
theorem s_try3 (x : Nat → Int32) (n : Int32) : ∃ L h1, s_mny 200 20 s_m282 4 (0, s_ent [.ref 1200] 7, [], s_h0 x n) = some (8, L, [], h1) := ⟨_, _, rfl⟩
