-- THE PURE MACHINE: the program's bytecode over cells that are numbered in the order of their making
-- a heap: how many cells, how many slots, whether cells may still be made, the ints, the longs, the references
abbrev s_H : Type := Nat × Nat × Bool × (Nat → Nat → Int32) × (Nat → Nat → Int64) × (Nat → Nat → Option Nat)
abbrev s_L : Type := List (Option Value)
-- what an instruction comes to: the next place; an end (none: a throw begins here); a call (method, arguments, what stays on the stack)
abbrev s_O : Type := (Nat × s_L × List Value × s_H) ⊕ (Option (Option Value) ⊕ (Nat × List Value × List Value))
def s_look {α : Type} : List (Nat × α) → Nat → Option α
  | [], _ => none
  | (k, x) :: t, n => match Nat.beq k n with
    | true => some x
    | false => s_look t n
def s_up {α : Type} (f : Nat → Nat → α) (a k : Nat) (v : α) : Nat → Nat → α := fun b => match Nat.beq b a with
  | true => va_up (f a) k v
  | false => f b
def s_cl0 {α : Type} (f : Nat → Nat → α) (a : Nat) (v : α) : Nat → Nat → α := fun b => match Nat.beq b a with
  | true => fun _ => v
  | false => f b
def s_row {α : Type} (f : Nat → Nat → α) (a : Nat) (g : Nat → α) : Nat → Nat → α := fun b => match Nat.beq b a with
  | true => g
  | false => f b
def s_nx (pc : Nat) (L : s_L) (st : List Value) (h : s_H) : Option s_O := some (.inl (pc, L, st, h))
def s_br (c : Prop) [Decidable c] (tg pc : Nat) (L : s_L) (st : List Value) (h : s_H) : Option s_O := if c then s_nx tg L st h else s_nx (pc + 3) L st h
def s_i1 (st : List Value) (k : Int32 → List Value → Option s_O) : Option s_O := match st with
  | .int x :: r => k x r
  | _ => none
def s_ii (st : List Value) (k : Int32 → Int32 → List Value → Option s_O) : Option s_O := match st with
  | .int y :: .int x :: r => k x y r
  | _ => none
def s_l1 (st : List Value) (k : Int64 → List Value → Option s_O) : Option s_O := match st with
  | .long x :: r => k x r
  | _ => none
def s_ll (st : List Value) (k : Int64 → Int64 → List Value → Option s_O) : Option s_O := match st with
  | .long y :: .long x :: r => k x y r
  | _ => none
def s_r1 (st : List Value) (k : Nat → List Value → Option s_O) : Option s_O := match st with
  | .ref a :: r => k a r
  | _ => none
-- an index on a cell
def s_ir (st : List Value) (k : Int32 → Nat → List Value → Option s_O) : Option s_O := match st with
  | .int i :: .ref a :: r => k i a r
  | _ => none
def s_or (v : Value) : Option (Option Nat) := match v with
  | .ref a => some (some a)
  | .null => some none
  | _ => none
-- a word of the enum, or null
def s_ow (v : Value) : Option (Option Nat) := match v with
  | .ref a => if 1000 ≤ a ∧ a < 1029 then some (some a) else none
  | .null => some none
  | _ => none
def s_c1 (v : Value) : Bool := match v with
  | .int _ => true
  | .ref _ => true
  | .null => true
  | _ => false
def s_cat (st : List Value) : Nat := match st with
  | [] => 0
  | v :: r => v.category + s_cat r
-- locals
def s_s1 (L : s_L) (i : Nat) (v : Value) : s_L := match i with
  | 0 => L.set 0 (some v)
  | j + 1 => match L[j]? with
    | some (some (.long _)) => (L.set j none).set (j + 1) (some v)
    | some (some (.double _)) => (L.set j none).set (j + 1) (some v)
    | _ => L.set (j + 1) (some v)
def s_s2 (L : s_L) (i : Nat) (v : Value) : s_L := (s_s1 L i v).set (i + 1) none
def s_en : List Value → s_L
  | [] => []
  | .long x :: r => some (.long x) :: none :: s_en r
  | .double x :: r => some (.double x) :: none :: s_en r
  | v :: r => some v :: s_en r
def s_ent (vs : List Value) (n : Nat) : s_L := s_en vs ++ List.replicate (n - (s_en vs).length) none
def s_ild (L : s_L) (i pc : Nat) (st : List Value) (h : s_H) : Option s_O := match L[i]? with
  | some (some (.int x)) => s_nx pc L (.int x :: st) h
  | _ => none
def s_lld (L : s_L) (i pc : Nat) (st : List Value) (h : s_H) : Option s_O := match L[i]? with
  | some (some (.long x)) => s_nx pc L (.long x :: st) h
  | _ => none
def s_ald (L : s_L) (i pc : Nat) (st : List Value) (h : s_H) : Option s_O := match L[i]? with
  | some (some (.ref x)) => s_nx pc L (.ref x :: st) h
  | some (some .null) => s_nx pc L (.null :: st) h
  | _ => none
def s_ist (L : s_L) (i pc : Nat) (st : List Value) (h : s_H) : Option s_O := match Nat.blt i L.length with
  | true => s_i1 st fun x r => s_nx pc (s_s1 L i (.int x)) r h
  | false => none
def s_lst (L : s_L) (i pc : Nat) (st : List Value) (h : s_H) : Option s_O := match Nat.blt (i + 1) L.length with
  | true => s_l1 st fun x r => s_nx pc (s_s2 L i (.long x)) r h
  | false => none
def s_ast (L : s_L) (i pc : Nat) (st : List Value) (h : s_H) : Option s_O := match Nat.blt i L.length with
  | true => match st with
    | .ref x :: r => s_nx pc (s_s1 L i (.ref x)) r h
    | .null :: r => s_nx pc (s_s1 L i .null) r h
    | _ => none
  | false => none
-- switches, as chains of tests
def s_ts (x pc : Int) (L : s_L) (st : List Value) (h : s_H) (d : Int) : Int → List Int → Option s_O
  | _, [] => if 0 ≤ pc + d then s_nx (pc + d).toNat L st h else none
  | lo, o :: t => if x = lo then (if 0 ≤ pc + o then s_nx (pc + o).toNat L st h else none) else s_ts x pc L st h d (lo + 1) t
def s_ls (x pc : Int) (L : s_L) (st : List Value) (h : s_H) (d : Int) : List (Int × Int) → Option s_O
  | [] => if 0 ≤ pc + d then s_nx (pc + d).toNat L st h else none
  | (a, o) :: t => if x = a then (if 0 ≤ pc + o then s_nx (pc + o).toNat L st h else none) else s_ls x pc L st h d t
-- cells
def s_isG (h : s_H) (a k : Nat) : Bool := match Nat.blt a h.1 with
  | true => (match s_Gs[a]? with
    | some (j, _) => Nat.beq j k
    | none => false)
  | false => false
def s_len (a : Nat) : Nat := match s_Gs[a]? with
  | some (_, n) => n
  | none => 0
def s_ft (c k : Nat) : Nat := match s_fts[c]? with
  | some l => (match l[k]? with
    | some t => t
    | none => 9)
  | none => 9
def s_fi (c k : Nat) : Bool := match s_fin[c]? with
  | some l => (match l[k]? with
    | some t => t
    | none => true)
  | none => true
def s_pv (h : s_H) (t a k : Nat) : Value := match t with
  | 0 => .int (h.2.2.2.1 a k)
  | 1 => .int (h.2.2.2.1 a k)
  | 2 => .long (h.2.2.2.2.1 a k)
  | _ => va_rf (h.2.2.2.2.2 a k)
def s_wI (h : s_H) (a k : Nat) (x : Int32) : s_H := (h.1, h.2.1, h.2.2.1, s_up h.2.2.2.1 a k x, h.2.2.2.2.1, h.2.2.2.2.2)
def s_wL (h : s_H) (a k : Nat) (x : Int64) : s_H := (h.1, h.2.1, h.2.2.1, h.2.2.2.1, s_up h.2.2.2.2.1 a k x, h.2.2.2.2.2)
def s_wR (h : s_H) (a k : Nat) (x : Option Nat) : s_H := (h.1, h.2.1, h.2.2.1, h.2.2.2.1, h.2.2.2.2.1, s_up h.2.2.2.2.2 a k x)
def s_new (h : s_H) (n : Nat) : s_H := (h.1 + 1, h.2.1 + n, h.2.2.1, s_cl0 h.2.2.2.1 h.1 0, s_cl0 h.2.2.2.2.1 h.1 0, s_cl0 h.2.2.2.2.2 h.1 none)
-- the constants of the enum: letters and kind
def s_wl : List Int64 := [2553, 5969364, 21015731, 206405, 408819, 677446, 23732, 201778, 20186533, 7939238, 10745, 21148051, 402611, 7657651, 12775, 591205, 4153, 498, 1476, 14836, 514226, 291086500, 12885268, 8243, 8499, 408612, 2262611, 21136979, 492210354]
def s_wk (i : Nat) : Int32 := match i with
  | 7 => 0
  | 8 => 1
  | 9 => 2
  | 10 => 3
  | _ => -1
def s_sv (a k : Nat) : Option Value := if a < 1000 then none else if a < 1029 then (match k with
  | 0 => some (.long (s_wl.getD (a - 1000) 0))
  | 1 => some (.int (s_wk (a - 1000)))
  | _ => none) else none
def s_txs : List (List Int32) := [[32, 98, 101, 97, 114, 115, 32], [32, 111, 102, 32], [32, 119, 101, 101, 112, 115]]
def s_gf (own : Nat) (pc : Nat) (c k : Nat) (L : s_L) (st : List Value) (h : s_H) : Option s_O := s_r1 st fun a r => match Nat.beq c 10 with
  | true => (match s_sv a k with
    | some v => s_nx pc L (v :: r) h
    | none => none)
  | false => (match s_isG h a c with
    | true => s_nx pc L (s_pv h (s_ft c k) a k :: r) h
    | false => none)
def s_pf (own : Nat) (ini : Bool) (pc c k : Nat) (L : s_L) (st : List Value) (h : s_H) : Option s_O := match (!(s_fi c k)) || (ini && Nat.beq own c) with
  | false => none
  | true => (match st with
    | v :: .ref a :: r => (match s_isG h a c with
      | false => none
      | true => (match s_ft c k, v with
        | 0, .int x => s_nx pc L r (s_wI h a k x)
        | 1, .int x => if x = 0 ∨ x = 1 then s_nx pc L r (s_wI h a k x) else none
        | 2, .long x => s_nx pc L r (s_wL h a k x)
        | 3, .ref b => s_nx pc L r (s_wR h a k (some b))
        | 3, .null => s_nx pc L r (s_wR h a k none)
        | _, _ => none))
    | _ => none)
-- rows
def s_iald (pc : Nat) (L : s_L) (st : List Value) (h : s_H) : Option s_O := s_ir st fun i a r => match Nat.beq a 1200 && !h.2.2.1 with
  | true => if i < 0 ∨ (h.2.2.2.1 1201 0).toNatClampNeg ≤ i.toNatClampNeg then none else s_nx pc L (.int (h.2.2.2.1 1200 i.toNatClampNeg) :: r) h
  | false => (match s_isG h a 101 with
    | true => if i < 0 ∨ s_len a ≤ i.toNatClampNeg then none else s_nx pc L (.int (h.2.2.2.1 a i.toNatClampNeg) :: r) h
    | false => none)
def s_bald (pc : Nat) (L : s_L) (st : List Value) (h : s_H) : Option s_O := s_ir st fun i a r => match s_isG h a 100 || s_isG h a 103 with
  | true => if i < 0 ∨ s_len a ≤ i.toNatClampNeg then none else s_nx pc L (.int (h.2.2.2.1 a i.toNatClampNeg) :: r) h
  | false => none
def s_lald (pc : Nat) (L : s_L) (st : List Value) (h : s_H) : Option s_O := s_ir st fun i a r => match s_isG h a 102 with
  | true => if i < 0 ∨ s_len a ≤ i.toNatClampNeg then none else s_nx pc L (.long (h.2.2.2.2.1 a i.toNatClampNeg) :: r) h
  | false => none
def s_aald (pc : Nat) (L : s_L) (st : List Value) (h : s_H) : Option s_O := s_ir st fun i a r => match Nat.beq a 1100 with
  | true => if i < 0 ∨ 29 ≤ i.toNatClampNeg then none else s_nx pc L (.ref (1000 + i.toNatClampNeg) :: r) h
  | false => (match s_isG h a 104 || s_isG h a 105 || s_isG h a 106 with
    | true => if i < 0 ∨ s_len a ≤ i.toNatClampNeg then none else s_nx pc L (va_rf (h.2.2.2.2.2 a i.toNatClampNeg) :: r) h
    | false => none)
def s_iast (pc : Nat) (L : s_L) (st : List Value) (h : s_H) : Option s_O := s_i1 st fun x st1 => s_ir st1 fun i a r => match s_isG h a 101 with
  | true => if i < 0 ∨ s_len a ≤ i.toNatClampNeg then none else s_nx pc L r (s_wI h a i.toNatClampNeg x)
  | false => none
def s_bast (pc : Nat) (L : s_L) (st : List Value) (h : s_H) : Option s_O := s_i1 st fun x st1 => s_ir st1 fun i a r => match s_isG h a 100 with
  | true => if i < 0 ∨ s_len a ≤ i.toNatClampNeg then none else s_nx pc L r (s_wI h a i.toNatClampNeg x.toInt8.toInt32)
  | false => (match s_isG h a 103 with
    | true => if i < 0 ∨ s_len a ≤ i.toNatClampNeg then none else s_nx pc L r (s_wI h a i.toNatClampNeg (x &&& 1))
    | false => none)
def s_last (pc : Nat) (L : s_L) (st : List Value) (h : s_H) : Option s_O := s_l1 st fun x st1 => s_ir st1 fun i a r => match s_isG h a 102 with
  | true => if i < 0 ∨ s_len a ≤ i.toNatClampNeg then none else s_nx pc L r (s_wL h a i.toNatClampNeg x)
  | false => none
-- a word into a row of words, a state into a row of states, an image into a row of images
def s_okR (h : s_H) (a b : Nat) : Bool := match s_isG h a 104 with
  | true => Nat.ble 1000 b && Nat.blt b 1029
  | false => (s_isG h a 105 && s_isG h b 8) || (s_isG h a 106 && s_isG h b 5)
def s_aast (pc : Nat) (L : s_L) (st : List Value) (h : s_H) : Option s_O := match st with
  | v :: .int i :: .ref a :: r => (match s_isG h a 104 || s_isG h a 105 || s_isG h a 106 with
    | true => if i < 0 ∨ s_len a ≤ i.toNatClampNeg then none else (match v with
      | .null => s_nx pc L r (s_wR h a i.toNatClampNeg none)
      | .ref b => (match s_okR h a b with
        | true => s_nx pc L r (s_wR h a i.toNatClampNeg (some b))
        | false => none)
      | _ => none)
    | false => none)
  | _ => none
def s_alen (pc : Nat) (L : s_L) (st : List Value) (h : s_H) : Option s_O := s_r1 st fun a r => match Nat.beq a 1200 && !h.2.2.1 with
  | true => s_nx pc L (.int (h.2.2.2.1 1201 0) :: r) h
  | false => (match Nat.beq a 1100 with
    | true => s_nx pc L (.int 29 :: r) h
    | false => (match Nat.blt a h.1 with
      | true => (match s_Gs[a]? with
        | some (k, n) => (match Nat.ble 100 k with
          | true => s_nx pc L (.int (Int32.ofNat n) :: r) h
          | false => none)
        | none => none)
      | false => none))
-- making
def s_mk (h : s_H) (k n : Nat) : Bool := h.2.2.1 && (match s_Gs[h.1]? with
  | some (j, x) => Nat.beq j k && Nat.beq x n
  | none => false)
def s_aty (t : ArrayType) : Nat := match t with
  | .byte => 100
  | .int => 101
  | .long => 102
  | .boolean => 103
  | _ => 99
def s_mka (pc : Nat) (k : Nat) (L : s_L) (st : List Value) (h : s_H) : Option s_O := s_i1 st fun x r => if x < 0 then none else (match s_mk h k x.toNatClampNeg with
  | true => s_nx pc L (.ref h.1 :: r) (s_new h x.toNatClampNeg)
  | false => none)
def s_rk (c : Nat) : Nat := match c with
  | 10 => 104
  | 8 => 105
  | 5 => 106
  | _ => 99
def s_mko (pc c : Nat) (L : s_L) (st : List Value) (h : s_H) : Option s_O := match Nat.beq c 10 with
  | true => none
  | false => (match s_fts[c]? with
    | some l => (match s_mk h c 0 with
      | true => s_nx pc L (.ref h.1 :: st) (s_new h l.length)
      | false => none)
    | none => none)
-- arraycopy between rows of one kind
def s_acp (pc : Nat) (L : s_L) (st : List Value) (h : s_H) : Option s_O := match st with
  | .int n :: .int dp :: .ref b :: .int sp :: .ref a :: r => if sp < 0 ∨ dp < 0 ∨ n < 0 ∨ s_len a < sp.toNatClampNeg + n.toNatClampNeg ∨ s_len b < dp.toNatClampNeg + n.toNatClampNeg ∨ 8 < s_cat r then none else
    (match s_isG h a 101 && s_isG h b 101 with
    | true => s_nx pc L r (h.1, h.2.1, h.2.2.1, s_row h.2.2.2.1 b (va_cpy (h.2.2.2.1 a) (h.2.2.2.1 b) sp.toNatClampNeg dp.toNatClampNeg n.toNatClampNeg), h.2.2.2.2.1, h.2.2.2.2.2)
    | false => (match s_isG h a 102 && s_isG h b 102 with
      | true => s_nx pc L r (h.1, h.2.1, h.2.2.1, h.2.2.2.1, s_row h.2.2.2.2.1 b (va_cpy (h.2.2.2.2.1 a) (h.2.2.2.2.1 b) sp.toNatClampNeg dp.toNatClampNeg n.toNatClampNeg), h.2.2.2.2.2)
      | false => none))
  | _ => none
def s_call (md n : Nat) (st : List Value) : Option s_O := match Nat.ble n st.length && Nat.ble (s_cat (st.drop n)) 8 with
  | true => some (.inr (.inr (md, (st.take n).reverse, st.drop n)))
  | false => none
-- a call by its row of the constant pool: kind, method, parameters; 'w' what the instruction is (0 virtual, 1 static, 2 special)
def s_inv (w pc : Nat) (e : Nat × Nat × Nat) (L : s_L) (st : List Value) (h : s_H) : Option s_O := match w, e with
  | 0, (0, md, n) => (match s_ms[md]?, st[n]? with
    | some q, some (.ref a) => (match s_isG h a q.2.2.2.2.1 with
      | true => s_call md (n + 1) st
      | false => none)
    | _, _ => none)
  | 1, (1, md, n) => s_call md n st
  | 2, (2, md, n) => (match st[n]? with
    | some (.ref _) => s_call md (n + 1) st
    | _ => none)
  | 2, (3, md, n) => (match st[n]? with
    | some (.ref _) => s_call md (n + 1) st
    | _ => none)
  | 2, (10, _, _) => s_r1 st fun _ r => (match Nat.ble (s_cat r) 8 with
    | true => s_nx pc L r h
    | false => none)
  | 1, (11, _, _) => s_acp pc L st h
  | 1, (14, _, _) => s_call 9999 4 st
  | 1, (15, _, _) => s_ii st fun x y r => (match Nat.ble (s_cat r) 8 with
    | true => s_nx pc L (.int (if y < x then y else x) :: r) h
    | false => none)
  | 1, (16, _, _) => s_ii st fun x y r => (match Nat.ble (s_cat r) 8 with
    | true => s_nx pc L (.int (if x < y then y else x) :: r) h
    | false => none)
  | 0, (12, _, _) => s_r1 st fun a r => if a < 1300 then none else (match s_txs[a - 1300]? with
    | some t => (match Nat.ble (s_cat r) 8 with
      | true => s_nx pc L (.int (Int32.ofNat t.length) :: r) h
      | false => none)
    | none => none)
  | 0, (13, _, _) => s_ir st fun i a r => if a < 1300 then none else (match s_txs[a - 1300]? with
    | some t => (match Nat.ble (s_cat r) 8 with
      | true => if i < 0 ∨ t.length ≤ i.toNatClampNeg then none else s_nx pc L (.int (t.getD i.toNatClampNeg 0) :: r) h
      | false => none)
    | none => none)
  | _, _ => none
def s_ret (rt : Option FieldType) (st : List Value) : Option s_O := match rt, st with
  | some .int, [.int x] => some (.inr (.inl (some (some (.int x)))))
  | some .boolean, [.int x] => if x = 0 ∨ x = 1 then some (.inr (.inl (some (some (.int x))))) else none
  | _, _ => none
def s_ex (cp : s_C) (own : Nat) (ini : Bool) (rt : Option FieldType) (pc : Nat) (i : Instr) (tg : Nat) (L : s_L) (st : List Value) (h : s_H) : Option s_O := match i with
  | .aconst_null => s_nx (pc + 1) L (.null :: st) h
  | .iconst n => s_nx (pc + 1) L (.int (Int32.ofInt n) :: st) h
  | .bipush n => s_nx (pc + 2) L (.int (Int8.ofInt n).toInt32 :: st) h
  | .sipush n => s_nx (pc + 3) L (.int (Int16.ofInt n).toInt32 :: st) h
  | .lconst n => s_nx (pc + 1) L (.long (Int64.ofNat (n : Nat)) :: st) h
  | .iload_n k => s_ild L k.val (pc + 1) st h
  | .iload k => s_ild L k (pc + 2) st h
  | .lload_n k => s_lld L k.val (pc + 1) st h
  | .lload k => s_lld L k (pc + 2) st h
  | .aload_n k => s_ald L k.val (pc + 1) st h
  | .aload k => s_ald L k (pc + 2) st h
  | .istore_n k => s_ist L k.val (pc + 1) st h
  | .istore k => s_ist L k (pc + 2) st h
  | .lstore_n k => s_lst L k.val (pc + 1) st h
  | .lstore k => s_lst L k (pc + 2) st h
  | .astore_n k => s_ast L k.val (pc + 1) st h
  | .astore k => s_ast L k (pc + 2) st h
  | .iinc k n => (match L[k]? with
    | some (some (.int x)) => s_nx (pc + 3) (s_s1 L k (.int (x + Int32.ofInt n))) st h
    | _ => none)
  | .iadd => s_ii st fun x y r => s_nx (pc + 1) L (.int (x + y) :: r) h
  | .isub => s_ii st fun x y r => s_nx (pc + 1) L (.int (x - y) :: r) h
  | .imul => s_ii st fun x y r => s_nx (pc + 1) L (.int (x * y) :: r) h
  | .iand => s_ii st fun x y r => s_nx (pc + 1) L (.int (x &&& y) :: r) h
  | .ior => s_ii st fun x y r => s_nx (pc + 1) L (.int (x ||| y) :: r) h
  | .ixor => s_ii st fun x y r => s_nx (pc + 1) L (.int (x ^^^ y) :: r) h
  | .idiv => s_ii st fun x y r => if y = 0 then none else s_nx (pc + 1) L (.int (x / y) :: r) h
  | .irem => s_ii st fun x y r => if y = 0 then none else s_nx (pc + 1) L (.int (x - x / y * y) :: r) h
  | .ineg => s_i1 st fun x r => s_nx (pc + 1) L (.int (-x) :: r) h
  | .ishl => s_ii st fun x y r => s_nx (pc + 1) L (.int (x <<< (y &&& 31)) :: r) h
  | .ishr => s_ii st fun x y r => s_nx (pc + 1) L (.int (x >>> (y &&& 31)) :: r) h
  | .iushr => s_ii st fun x y r => s_nx (pc + 1) L (.int (x.toUInt32 >>> (y.toUInt32 &&& Int32.toUInt32 31)).toInt32 :: r) h
  | .ladd => s_ll st fun x y r => s_nx (pc + 1) L (.long (x + y) :: r) h
  | .lsub => s_ll st fun x y r => s_nx (pc + 1) L (.long (x - y) :: r) h
  | .lmul => s_ll st fun x y r => s_nx (pc + 1) L (.long (x * y) :: r) h
  | .land => s_ll st fun x y r => s_nx (pc + 1) L (.long (x &&& y) :: r) h
  | .ldiv => s_ll st fun x y r => if y = 0 then none else s_nx (pc + 1) L (.long (x / y) :: r) h
  | .lrem => s_ll st fun x y r => if y = 0 then none else s_nx (pc + 1) L (.long (x - x / y * y) :: r) h
  | .lshr => s_i1 st fun y r1 => s_l1 r1 fun x r => s_nx (pc + 1) L (.long (x >>> (y.toInt64 &&& 63)) :: r) h
  | .lcmp => s_ll st fun x y r => s_nx (pc + 1) L (.int (lg_cmp x y) :: r) h
  | .i2l => s_i1 st fun x r => s_nx (pc + 1) L (.long x.toInt64 :: r) h
  | .l2i => s_l1 st fun x r => s_nx (pc + 1) L (.int x.toInt32 :: r) h
  | .i2b => s_i1 st fun x r => s_nx (pc + 1) L (.int x.toInt8.toInt32 :: r) h
  | .dup => (match st with
    | v :: r => (match s_c1 v with
      | true => s_nx (pc + 1) L (v :: v :: r) h
      | false => none)
    | _ => none)
  | .dup2 => (match st with
    | v :: w :: r => (match s_c1 v && s_c1 w with
      | true => s_nx (pc + 1) L (v :: w :: v :: w :: r) h
      | false => none)
    | _ => none)
  | .pop => (match st with
    | v :: r => (match s_c1 v with
      | true => s_nx (pc + 1) L r h
      | false => none)
    | _ => none)
  | .ifCond o _ => s_i1 st fun x r => (match o with
    | .eq => s_br (x = 0) tg pc L r h
    | .ne => s_br (¬ x = 0) tg pc L r h
    | .lt => s_br (x < 0) tg pc L r h
    | .ge => s_br (0 ≤ x) tg pc L r h
    | .gt => s_br (0 < x) tg pc L r h
    | .le => s_br (x ≤ 0) tg pc L r h)
  | .if_icmp o _ => s_ii st fun x y r => (match o with
    | .eq => s_br (x = y) tg pc L r h
    | .ne => s_br (¬ x = y) tg pc L r h
    | .lt => s_br (x < y) tg pc L r h
    | .ge => s_br (y ≤ x) tg pc L r h
    | .gt => s_br (y < x) tg pc L r h
    | .le => s_br (x ≤ y) tg pc L r h)
  | .if_acmp o _ => (match st with
    | v :: w :: r => (match s_ow v, s_ow w with
      | some ry, some rx => (match o with
        | .eq => s_br (rx = ry) tg pc L r h
        | .ne => s_br (¬ rx = ry) tg pc L r h)
      | _, _ => none)
    | _ => none)
  | .ifnull _ => (match st with
    | .ref _ :: r => s_nx (pc + 3) L r h
    | .null :: r => s_nx tg L r h
    | _ => none)
  | .ifnonnull _ => (match st with
    | .ref _ :: r => s_nx tg L r h
    | .null :: r => s_nx (pc + 3) L r h
    | _ => none)
  | .goto _ => s_nx tg L st h
  | .tableswitch d lo hi offs => s_i1 st fun x r => if hi + 1 = lo + (offs.toList.length : Int) then s_ts x.toInt pc L r h d lo offs.toList else none
  | .lookupswitch d ps => s_i1 st fun x r => s_ls x.toInt pc L r h d ps.toList
  | .getfield x => (match s_look cp.1 x with
    | some (c, k) => s_gf own (pc + 3) c k L st h
    | none => none)
  | .putfield x => (match s_look cp.1 x with
    | some (c, k) => s_pf own ini (pc + 3) c k L st h
    | none => none)
  | .getstatic x => (match s_look cp.2.1 x with
    | some v => s_nx (pc + 3) L (v :: st) h
    | none => none)
  | .ldc x => (match s_look cp.2.2.2.2 x with
    | some (.int v) => s_nx (pc + 2) L (.int v :: st) h
    | some (.ref v) => s_nx (pc + 2) L (.ref v :: st) h
    | _ => none)
  | .ldc_w x => (match s_look cp.2.2.2.2 x with
    | some (.int v) => s_nx (pc + 3) L (.int v :: st) h
    | some (.ref v) => s_nx (pc + 3) L (.ref v :: st) h
    | _ => none)
  | .ldc2_w x => (match s_look cp.2.2.2.2 x with
    | some (.long v) => s_nx (pc + 3) L (.long v :: st) h
    | _ => none)
  | .iaload => s_iald (pc + 1) L st h
  | .baload => s_bald (pc + 1) L st h
  | .laload => s_lald (pc + 1) L st h
  | .aaload => s_aald (pc + 1) L st h
  | .iastore => s_iast (pc + 1) L st h
  | .bastore => s_bast (pc + 1) L st h
  | .lastore => s_last (pc + 1) L st h
  | .aastore => s_aast (pc + 1) L st h
  | .arraylength => s_alen (pc + 1) L st h
  | .newarray t => s_mka (pc + 2) (s_aty t) L st h
  | .anewarray x => (match s_look cp.2.2.2.1 x with
    | some c => s_mka (pc + 3) (s_rk c) L st h
    | none => none)
  | .new x => (match s_look cp.2.2.2.1 x with
    | some c => s_mko (pc + 3) c L st h
    | none => (match Nat.beq own 11 with
      | true => some (.inr (.inl none))
      | false => none))
  | .invokevirtual x => (match s_look cp.2.2.1 x with
    | some e => s_inv 0 (pc + 3) e L st h
    | none => none)
  | .invokestatic x => (match s_look cp.2.2.1 x with
    | some e => s_inv 1 (pc + 3) e L st h
    | none => none)
  | .invokespecial x => (match s_look cp.2.2.1 x with
    | some e => s_inv 2 (pc + 3) e L st h
    | none => none)
  | .ireturn => s_ret rt st
  | .lreturn => (match rt, st with
    | some .long, [.long x] => some (.inr (.inl (some (some (.long x)))))
    | _, _ => none)
  | .areturn => (match rt, st with
    | some (.object _), [.ref x] => some (.inr (.inl (some (some (.ref x)))))
    | some (.object _), [.null] => some (.inr (.inl (some (some .null))))
    | _, _ => none)
  | .return_ => (match rt, st with
    | none, [] => some (.inr (.inl (some none)))
    | _, _ => none)
  | _ => none
-- where a run may end, and which instructions are calls (which kind, which row of the constant pool)
def s_isE (i : Instr) : Bool := match i with
  | .ireturn => true
  | .lreturn => true
  | .areturn => true
  | .return_ => true
  | .new _ => true
  | _ => false
def s_iv (i : Instr) : Option (Nat × Nat) := match i with
  | .invokevirtual x => some (0, x)
  | .invokestatic x => some (1, x)
  | .invokespecial x => some (2, x)
  | _ => none
-- a heap grows
def s_mo (h h1 : s_H) : Bool := Nat.ble h.1 h1.1 && Nat.ble h.2.1 h1.2.1 && ((h.2.2.1 && h1.2.2.1) || (!h.2.2.1 && !h1.2.2.1))
-- a step: the next place, or what a call comes to
def s_one (run : Nat → s_M → Nat → s_L → List Value → s_H → Option (Nat × Option (Option Value) × s_H)) (d : Nat) (q : s_M) (pc : Nat) (L : s_L) (st : List Value) (h : s_H) : Option ((Nat × s_L × List Value × s_H) ⊕ Option (Option Value)) := match s_look q.2.2.2.2.2.2 pc, s_cps[q.2.2.2.2.1]? with
  | some (i, _, tg), some cp => (match s_ex cp q.2.2.2.2.1 q.2.2.2.2.2.1 q.2.2.2.1 pc i tg L st h with
    | some (.inl (pc1, L1, st1, h1)) => (match s_mo h h1 with
      | true => some (.inl (pc1, L1, st1, h1))
      | false => none)
    | some (.inr (.inl r)) => (match s_isE i with
      | true => some (.inr r)
      | false => none)
    | some (.inr (.inr (md, vs, rest))) => (match s_iv i with
      | none => none
      | some _ => (match d, s_ms[md]? with
        | d1 + 1, some q1 => (match Nat.ble (s_en vs).length q1.2.2.1 with
          | true => (match run d1 q1 0 (s_ent vs q1.2.2.1) [] h with
            | some (_, some v, h1) => some (.inl (pc + 3, L, v.toList ++ rest, h1))
            | _ => none)
          | false => none)
        | _, _ => none))
    | none => none)
  | _, _ => none
-- a run: 'd' how deep calls may go, 'f' how many steps; its end: where, what it gives, the heap
def s_run : Nat → Nat → s_M → Nat → s_L → List Value → s_H → Option (Nat × Option (Option Value) × s_H)
  | 0, _, _, _, _, _, _ => none
  | f + 1, d, q, pc, L, st, h => match s_one (s_run f) d q pc L st h with
    | some (.inl (pc1, L1, st1, h1)) => s_run f d q pc1 L1 st1 h1
    | some (.inr r) => some (pc, r, h)
    | none => none
