def s_cl2 : List vw_C := s_cl.set 10 (RX0, TX0, 7)
-- a class of objects
def s_tyc (t : FieldType) : Nat := match t with
  | .int => 0
  | .boolean => 1
  | .long => 2
  | .object _ => 3
  | .array _ => 3
  | _ => 8
def s_okK (c : Nat) (C : String) (T : u_T) (ty : Nat → FieldType) : Prop :=
  s_cl2[c]? = some (C, T, s_nf c) ∧ C = s_R c ∧ (∀ w ∈ u_ws C T (s_nf c), w ∈ lw_tbl ∧ goodWord w = true) ∧ (∀ k, k < s_nf c → parseFieldDescriptor (T k).2.2.1 = some (ty k)) ∧ (∀ a, a < s_nf c → ∀ b, b < s_nf c → a ≠ b → (T a).2.1 ≠ (T b).2.1) ∧ (∀ k, k < s_nf c → s_tyc (ty k) = s_ft c k) ∧ (∀ k, k < s_nf c → (T k).1 = C) ∧ (∀ k, k < s_nf c → (T k).2.2.2 = s_fi c k) ∧ Cond.instantiable C (s_nf c) ∈ lw_tbl ∧ Cond.initialized C ∈ lw_tbl
