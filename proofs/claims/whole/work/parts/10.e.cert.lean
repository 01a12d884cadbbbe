-- CERTIFICATES of the tables: what the soundness of the pure machine takes of them
def s_gw : List Cond := lw_tbl.filter goodWord
theorem s_gw_mem {w : Cond} (h : w ∈ lw_tbl) (hg : goodWord w = true) : w ∈ s_gw := List.mem_filter.mpr ⟨h, hg⟩
theorem s_gw_good {w : Cond} (h : w ∈ s_gw) : w ∈ lw_tbl ∧ goodWord w = true := List.mem_filter.mp h
def s_R (c : Nat) : String := s_Rs.getD c ""
-- lengths and targets
def s_lk (i : Instr) (n : Nat) : Bool := match i with
  | .tableswitch _ _ _ _ => true
  | .lookupswitch _ _ => true
  | .bipush _ => Nat.beq 2 n
  | .iload _ => Nat.beq 2 n
  | .lload _ => Nat.beq 2 n
  | .aload _ => Nat.beq 2 n
  | .istore _ => Nat.beq 2 n
  | .lstore _ => Nat.beq 2 n
  | .astore _ => Nat.beq 2 n
  | .ldc _ => Nat.beq 2 n
  | .newarray _ => Nat.beq 2 n
  | .sipush _ => Nat.beq 3 n
  | .iinc _ _ => Nat.beq 3 n
  | .ifCond _ _ => Nat.beq 3 n
  | .if_icmp _ _ => Nat.beq 3 n
  | .if_acmp _ _ => Nat.beq 3 n
  | .ifnull _ => Nat.beq 3 n
  | .ifnonnull _ => Nat.beq 3 n
  | .goto _ => Nat.beq 3 n
  | .getfield _ => Nat.beq 3 n
  | .putfield _ => Nat.beq 3 n
  | .getstatic _ => Nat.beq 3 n
  | .ldc_w _ => Nat.beq 3 n
  | .ldc2_w _ => Nat.beq 3 n
  | .anewarray _ => Nat.beq 3 n
  | .new _ => Nat.beq 3 n
  | .invokevirtual _ => Nat.beq 3 n
  | .invokestatic _ => Nat.beq 3 n
  | .invokespecial _ => Nat.beq 3 n
  | _ => Nat.beq 1 n
def s_tk (pc : Nat) (i : Instr) (tg : Nat) : Bool := match i with
  | .ifCond _ o => decide ((pc : Int) + o = (tg : Int))
  | .if_icmp _ o => decide ((pc : Int) + o = (tg : Int))
  | .if_acmp _ o => decide ((pc : Int) + o = (tg : Int))
  | .ifnull o => decide ((pc : Int) + o = (tg : Int))
  | .ifnonnull o => decide ((pc : Int) + o = (tg : Int))
  | .goto o => decide ((pc : Int) + o = (tg : Int))
  | .lookupswitch _ ps => (ps.toList.zip (ps.toList.drop 1)).all (fun (a, next) => a.1 < next.1)
  | _ => true
def s_ck (q : Nat × Instr × Nat × Nat) : Bool := s_lk q.2.1 q.2.2.1 && s_tk q.1 q.2.1 q.2.2.2
def s_wAt (p : Nat) (w : Cond) : Bool := decide (lw_tbl[p]? = some w)
theorem s_wAt_mem {p : Nat} {w : Cond} (h : s_wAt p w = true) : w ∈ lw_tbl := List.mem_of_getElem? (of_decide_eq_true h)
-- a method
def s_okM (q : s_M) : Prop := plainName q.1.cls = true ∧ q.1.cls = s_R q.2.2.2.2.1 ∧ Cond.code q.1 q.2.1 q.2.2.1 q.2.2.2.1 ∈ lw_tbl ∧ s_dec q.2.1 q.2.2.2.2.2.2 ∧ q.2.2.2.2.2.2.all s_ck = true ∧ (q.2.2.2.2.2.1 = true → q.1.name = "<init>" ∧ q.2.2.2.1 = none) ∧ Cond.initialized q.1.cls ∈ lw_tbl ∧ (q.1.cls ≠ "java/lang/invoke/MethodHandle" ∧ q.1.cls ≠ "java/lang/invoke/VarHandle") ∧ q.2.2.1 ≤ 20
