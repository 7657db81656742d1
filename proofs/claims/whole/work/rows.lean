section
/-! A second machine, over numbers alone: objects are places of a fixed layout, a state is what their whole-number fields and rows hold. mz_Ev: from a state a method comes to a return with Q. -/
abbrev mz_V : Type := Int32 ⊕ (Int64 ⊕ (Nat × Nat))
abbrev mz_I (x : Int32) : mz_V := .inl x
abbrev mz_L (x : Int64) : mz_V := .inr (.inl x)
abbrev mz_R (t p : Nat) : mz_V := .inr (.inr (t, p))
abbrev mz_M : Type := (Nat → Nat → Int32) × (Nat → Nat → Int64)
abbrev mz_Lo : Type := List (Nat × mz_V)
abbrev mz_S : Type := Nat × mz_Lo × List mz_V × mz_M
/-- instruction, length, int constant, long constant, numbers, a switch's pairs, locals kept at the target, locals kept at the next instruction -/
abbrev mz_E : Type := Instr × Nat × Int32 × Int64 × List Nat × List (Nat × Nat) × Option (List Nat) × Option (List Nat)
abbrev mz_T : Type := List (Option mz_E)
abbrev mz_q (i : Instr) (n : Nat) : Option mz_E := some (i, n, 0, 0, [], [], none, none)
abbrev mz_qc (i : Instr) (n : Nat) (c : Int32) : Option mz_E := some (i, n, c, 0, [], [], none, none)
abbrev mz_ql (i : Instr) (n : Nat) (c : Int64) (a : List Nat) : Option mz_E := some (i, n, 0, c, a, [], none, none)
abbrev mz_qa (i : Instr) (n : Nat) (a : List Nat) : Option mz_E := some (i, n, 0, 0, a, [], none, none)
abbrev mz_qk (i : Instr) (n : Nat) (c : Int32) (a : List Nat) (ps : List (Nat × Nat)) (kt kn : Option (List Nat)) : Option mz_E := some (i, n, c, 0, a, ps, kt, kn)
def mz_cat (v : mz_V) : Nat := match v with
  | .inl _ => 1
  | .inr (.inl _) => 2
  | .inr (.inr _) => 1
def mz_nth {α : Type} : List α → Nat → Option α
  | [], _ => none
  | a :: _, 0 => some a
  | _ :: r, n + 1 => mz_nth r n
def mz_lk : mz_Lo → Nat → Option mz_V
  | [], _ => none
  | q :: r, i => bif Nat.beq q.1 i then some q.2 else mz_lk r i
def mz_ins (i : Nat) (v : mz_V) : mz_Lo → mz_Lo
  | [] => [(i, v)]
  | q :: r => bif Nat.ble q.1 i then q :: mz_ins i v r else (i, v) :: q :: r
/-- what stays when a value is stored at i (and, where w, at i + 1) -/
def mz_rm (i : Nat) (w : Bool) : mz_Lo → mz_Lo
  | [] => []
  | q :: r => bif Nat.beq q.1 i || (w && Nat.beq q.1 (i + 1)) || (Nat.beq (q.1 + 1) i && Nat.beq (mz_cat q.2) 2) then mz_rm i w r else q :: mz_rm i w r
def mz_st1 (L : mz_Lo) (i : Nat) (v : mz_V) : mz_Lo := mz_ins i v (mz_rm i false L)
def mz_st2 (L : mz_Lo) (i : Nat) (v : mz_V) : mz_Lo := mz_ins i v (mz_rm i true L)
def mz_el (i : Nat) : List Nat → Bool
  | [] => false
  | k :: r => Nat.beq k i || mz_el i r
def mz_kl (ks : List Nat) : mz_Lo → mz_Lo
  | [] => []
  | q :: r => bif mz_el q.1 ks then q :: mz_kl ks r else mz_kl ks r
def mz_kp (o : Option (List Nat)) (L : mz_Lo) : mz_Lo := match o with
  | none => L
  | some ks => mz_kl ks L
/-- a field: a number, or a fixed place (from its own on, or from the start), of a kind -/
abbrev mz_F : Type := Option (Bool × Nat × Nat)
/-- an object: its class's number, its fields; a row: number of its type, length, 0 ints 1 longs 2 references, then of these their kind and places -/
abbrev mz_Sh : Type := (Nat × List mz_F) ⊕ (Nat × Nat × Nat × Nat × Bool × Nat × Nat)
def mz_pl (b : Bool) (p off : Nat) : Nat := bif b then p + off else off
def mz_wr {α : Type} (g : Nat → α) (p : Nat) (f : α) : Nat → α := fun q => if q = p then f else g q
def mz_wI (μ : mz_M) (p k : Nat) (x : Int32) : mz_M := (mz_wr μ.1 p (upd (μ.1 p) k x), μ.2)
def mz_wL (μ : mz_M) (p k : Nat) (x : Int64) : mz_M := (μ.1, mz_wr μ.2 p (vp_updL (μ.2 p) k x))
def mz_cI (μ : mz_M) (p0 p1 a b n : Nat) : mz_M := (mz_wr μ.1 p1 (va_cpy (μ.1 p0) (μ.1 p1) a b n), μ.2)
def mz_cL (μ : mz_M) (p0 p1 a b n : Nat) : mz_M := (μ.1, mz_wr μ.2 p1 (va_cpy (μ.2 p0) (μ.2 p1) a b n))
def mz_cs : List mz_V → Nat
  | [] => 0
  | v :: r => mz_cat v + mz_cs r
def mz_tk : Nat → List mz_V → List mz_V → Option (List mz_V × List mz_V)
  | 0, acc, st => some (acc, st)
  | _ + 1, _, [] => none
  | n + 1, acc, v :: st => mz_tk n (v :: acc) st
def mz_ent : Nat → List mz_V → mz_Lo
  | _, [] => []
  | i, v :: r => (i, v) :: mz_ent (i + mz_cat v) r
abbrev mz_Cl : Type := Nat → List mz_V → mz_M → Option mz_V → mz_M → Prop
/-- one and two numbers from the stack -/
def mz_p1 (st : List mz_V) (f : Int32 → List mz_V → Prop) : Prop := match st with
  | .inl x :: r => f x r
  | _ => False
def mz_p2 (st : List mz_V) (f : Int32 → Int32 → List mz_V → Prop) : Prop := match st with
  | .inl y :: .inl x :: r => f x y r
  | _ => False
def mz_g1 (st : List mz_V) (f : Int64 → List mz_V → Prop) : Prop := match st with
  | .inr (.inl x) :: r => f x r
  | _ => False
def mz_g2 (st : List mz_V) (f : Int64 → Int64 → List mz_V → Prop) : Prop := match st with
  | .inr (.inl y) :: .inr (.inl x) :: r => f x y r
  | _ => False
def mz_h1 (st : List mz_V) (f : Nat → Nat → List mz_V → Prop) : Prop := match st with
  | .inr (.inr (t, p)) :: r => f t p r
  | _ => False
def mz_li (L : mz_Lo) (i : Nat) (f : Int32 → Prop) : Prop := match mz_lk L i with
  | some (.inl x) => f x
  | _ => False
def mz_ll (L : mz_Lo) (i : Nat) (f : Int64 → Prop) : Prop := match mz_lk L i with
  | some (.inr (.inl x)) => f x
  | _ => False
def mz_lr (L : mz_Lo) (i : Nat) (f : Nat → Nat → Prop) : Prop := match mz_lk L i with
  | some (.inr (.inr (t, p))) => f t p
  | _ => False
def mz_a0 (a : List Nat) : Nat := match a with
  | [] => 0
  | k :: _ => k
def mz_ic (op : ClassFile.Cond) (x y : Int32) (A B : Prop) : Prop := match op with
  | .eq => if x = y then A else B
  | .ne => if x ≠ y then A else B
  | .lt => if x < y then A else B
  | .ge => if y ≤ x then A else B
  | .gt => if y < x then A else B
  | .le => if x ≤ y then A else B
def mz_if (op : ClassFile.Cond) (x : Int32) (A B : Prop) : Prop := match op with
  | .eq => if x = 0 then A else B
  | .ne => if x ≠ 0 then A else B
  | .lt => if x < 0 then A else B
  | .ge => if 0 ≤ x then A else B
  | .gt => if 0 < x then A else B
  | .le => if x ≤ 0 then A else B
def mz_sw (x : Int32) (K : Nat → Prop) (d : Nat) : List (Nat × Nat) → Prop
  | [] => K d
  | q :: r => if x = nI q.1 then K q.2 else mz_sw x K d r
def mz_bool (b : Nat) (x : Int32) (A : Prop) : Prop := match b with
  | 0 => A
  | _ + 1 => (x = 0 ∨ x = 1) ∧ A
/-- a call's answer, by its kind: 0 none, 1 int, 2 long, 3 a reference of a kind -/
def mz_an (k t : Nat) (R : Option mz_V → mz_M → Prop) (f : List mz_V → mz_M → Prop) : Prop := match k with
  | 0 => ∃ μ, R none μ ∧ f [] μ
  | 1 => ∃ x μ, R (some (mz_I x)) μ ∧ f [mz_I x] μ
  | 2 => ∃ x μ, R (some (mz_L x)) μ ∧ f [mz_L x] μ
  | _ => ∃ p μ, R (some (mz_R t p)) μ ∧ f [mz_R t p] μ
/-- a call: method, arguments with the object, kind of answer, its own kind -/
def mz_cl (C : mz_Cl) (a : List Nat) (st : List mz_V) (μ : mz_M) (f : List mz_V → mz_M → Prop) : Prop := match a with
  | y :: n :: k :: t :: _ => (match mz_tk n [] st with
    | some (as, rest) => bif Nat.ble (mz_cs rest) 8 then mz_an k t (fun r μ' => C y as μ r μ') (fun v μ' => f (v ++ rest) μ') else False
    | none => False)
  | _ => False
end
section
set_option maxHeartbeats 1000000 in
def mz_op (SH : List mz_Sh) (C : mz_Cl) (Q : Option mz_V → mz_M → Prop) (K : mz_S → Prop) (e : mz_E) (pc : Nat) (L : mz_Lo) (st : List mz_V) (μ : mz_M) : Prop :=
  match e with
  | (i, len, c, cl, a, ps, kt, kn) => match i with
    | .iconst _ => K (pc + len, mz_kp kn L, mz_I c :: st, μ)
    | .bipush _ => K (pc + len, mz_kp kn L, mz_I c :: st, μ)
    | .sipush _ => K (pc + len, mz_kp kn L, mz_I c :: st, μ)
    | .ldc _ => K (pc + len, mz_kp kn L, mz_I c :: st, μ)
    | .ldc_w _ => K (pc + len, mz_kp kn L, mz_I c :: st, μ)
    | .lconst _ => K (pc + len, mz_kp kn L, mz_L cl :: st, μ)
    | .ldc2_w _ => K (pc + len, mz_kp kn L, mz_L cl :: st, μ)
    | .iload_n _ => mz_li L (mz_a0 a) fun x => K (pc + len, mz_kp kn L, mz_I x :: st, μ)
    | .iload _ => mz_li L (mz_a0 a) fun x => K (pc + len, mz_kp kn L, mz_I x :: st, μ)
    | .lload_n _ => mz_ll L (mz_a0 a) fun x => K (pc + len, mz_kp kn L, mz_L x :: st, μ)
    | .lload _ => mz_ll L (mz_a0 a) fun x => K (pc + len, mz_kp kn L, mz_L x :: st, μ)
    | .aload_n _ => mz_lr L (mz_a0 a) fun t p => K (pc + len, mz_kp kn L, mz_R t p :: st, μ)
    | .aload _ => mz_lr L (mz_a0 a) fun t p => K (pc + len, mz_kp kn L, mz_R t p :: st, μ)
    | .istore_n _ => mz_p1 st fun x r => K (pc + len, mz_kp kn (mz_st1 L (mz_a0 a) (mz_I x)), r, μ)
    | .istore _ => mz_p1 st fun x r => K (pc + len, mz_kp kn (mz_st1 L (mz_a0 a) (mz_I x)), r, μ)
    | .lstore_n _ => mz_g1 st fun x r => K (pc + len, mz_kp kn (mz_st2 L (mz_a0 a) (mz_L x)), r, μ)
    | .lstore _ => mz_g1 st fun x r => K (pc + len, mz_kp kn (mz_st2 L (mz_a0 a) (mz_L x)), r, μ)
    | .astore_n _ => mz_h1 st fun t p r => K (pc + len, mz_kp kn (mz_st1 L (mz_a0 a) (mz_R t p)), r, μ)
    | .astore _ => mz_h1 st fun t p r => K (pc + len, mz_kp kn (mz_st1 L (mz_a0 a) (mz_R t p)), r, μ)
    | .iinc _ _ => mz_li L (mz_a0 a) fun x => K (pc + len, mz_kp kn (mz_st1 L (mz_a0 a) (mz_I (x + c))), st, μ)
    | .iadd => mz_p2 st fun x y r => K (pc + len, mz_kp kn L, mz_I (x + y) :: r, μ)
    | .isub => mz_p2 st fun x y r => K (pc + len, mz_kp kn L, mz_I (x - y) :: r, μ)
    | .imul => mz_p2 st fun x y r => K (pc + len, mz_kp kn L, mz_I (x * y) :: r, μ)
    | .iand => mz_p2 st fun x y r => K (pc + len, mz_kp kn L, mz_I (x &&& y) :: r, μ)
    | .ior => mz_p2 st fun x y r => K (pc + len, mz_kp kn L, mz_I (x ||| y) :: r, μ)
    | .ixor => mz_p2 st fun x y r => K (pc + len, mz_kp kn L, mz_I (x ^^^ y) :: r, μ)
    | .ishl => mz_p2 st fun x y r => K (pc + len, mz_kp kn L, mz_I (x <<< (y &&& 31)) :: r, μ)
    | .idiv => mz_p2 st fun x y r => ¬ y = 0 ∧ K (pc + len, mz_kp kn L, mz_I (x / y) :: r, μ)
    | .irem => mz_p2 st fun x y r => ¬ y = 0 ∧ K (pc + len, mz_kp kn L, mz_I (x - x / y * y) :: r, μ)
    | .ineg => mz_p1 st fun x r => K (pc + len, mz_kp kn L, mz_I (-x) :: r, μ)
    | .ladd => mz_g2 st fun x y r => K (pc + len, mz_kp kn L, mz_L (x + y) :: r, μ)
    | .lsub => mz_g2 st fun x y r => K (pc + len, mz_kp kn L, mz_L (x - y) :: r, μ)
    | .lmul => mz_g2 st fun x y r => K (pc + len, mz_kp kn L, mz_L (x * y) :: r, μ)
    | .land => mz_g2 st fun x y r => K (pc + len, mz_kp kn L, mz_L (x &&& y) :: r, μ)
    | .ldiv => mz_g2 st fun x y r => ¬ y = 0 ∧ K (pc + len, mz_kp kn L, mz_L (x / y) :: r, μ)
    | .lrem => mz_g2 st fun x y r => ¬ y = 0 ∧ K (pc + len, mz_kp kn L, mz_L (x - x / y * y) :: r, μ)
    | .lneg => mz_g1 st fun x r => K (pc + len, mz_kp kn L, mz_L (-x) :: r, μ)
    | .lcmp => mz_g2 st fun x y r => K (pc + len, mz_kp kn L, mz_I (lg_cmp x y) :: r, μ)
    | .i2l => mz_p1 st fun x r => K (pc + len, mz_kp kn L, mz_L x.toInt64 :: r, μ)
    | .l2i => mz_g1 st fun x r => K (pc + len, mz_kp kn L, mz_I x.toInt32 :: r, μ)
    | .i2b => mz_p1 st fun x r => K (pc + len, mz_kp kn L, mz_I x.toInt8.toInt32 :: r, μ)
    | .i2s => mz_p1 st fun x r => K (pc + len, mz_kp kn L, mz_I x.toInt16.toInt32 :: r, μ)
    | .pop => (match st with
      | .inl _ :: r => K (pc + len, mz_kp kn L, r, μ)
      | _ => False)
    | .dup => (match st with
      | .inl x :: r => K (pc + len, mz_kp kn L, mz_I x :: mz_I x :: r, μ)
      | .inr (.inr (t, p)) :: r => K (pc + len, mz_kp kn L, mz_R t p :: mz_R t p :: r, μ)
      | _ => False)
    | .dup2 => (match st with
      | .inl x :: .inr (.inr (t, p)) :: r => K (pc + len, mz_kp kn L, mz_I x :: mz_R t p :: mz_I x :: mz_R t p :: r, μ)
      | _ => False)
    | .goto _ => K (mz_a0 a, mz_kp kt L, st, μ)
    | .if_icmp op _ => mz_p2 st fun x y r => mz_ic op x y (K (mz_a0 a, mz_kp kt L, r, μ)) (K (pc + len, mz_kp kn L, r, μ))
    | .ifCond op _ => mz_p1 st fun x r => mz_if op x (K (mz_a0 a, mz_kp kt L, r, μ)) (K (pc + len, mz_kp kn L, r, μ))
    | .tableswitch _ _ _ _ => mz_p1 st fun x r => mz_sw x (fun t => K (t, L, r, μ)) (mz_a0 a) ps
    | .lookupswitch _ _ => mz_p1 st fun x r => mz_sw x (fun t => K (t, L, r, μ)) (mz_a0 a) ps
    | .getfield _ => mz_h1 st fun t p r => (match mz_nth SH t, a with
      | some (.inl (ci, fs)), cj :: k :: _ => bif Nat.beq ci cj then (match mz_nth fs k with
        | some none => K (pc + len, mz_kp kn L, mz_I (μ.1 p k) :: r, μ)
        | some (some (b, off, t')) => K (pc + len, mz_kp kn L, mz_R t' (mz_pl b p off) :: r, μ)
        | none => False) else False
      | _, _ => False)
    | .putfield _ => mz_p1 st fun x r0 => mz_h1 r0 fun t p r => (match mz_nth SH t, a with
      | some (.inl (ci, fs)), cj :: k :: b :: _ => bif Nat.beq ci cj then (match mz_nth fs k with
        | some none => mz_bool b x (K (pc + len, mz_kp kn L, r, mz_wI μ p k x))
        | _ => False) else False
      | _, _ => False)
    | .iaload => mz_p1 st fun x r0 => mz_h1 r0 fun t p r => (match mz_nth SH t with
      | some (.inr (_, n, 0, _)) => vp_in x n ∧ K (pc + len, mz_kp kn L, mz_I (μ.1 p x.toNatClampNeg) :: r, μ)
      | _ => False)
    | .laload => mz_p1 st fun x r0 => mz_h1 r0 fun t p r => (match mz_nth SH t with
      | some (.inr (_, n, 1, _)) => vp_in x n ∧ K (pc + len, mz_kp kn L, mz_L (μ.2 p x.toNatClampNeg) :: r, μ)
      | _ => False)
    | .aaload => mz_p1 st fun x r0 => mz_h1 r0 fun t p r => (match mz_nth SH t with
      | some (.inr (_, n, 2, t', b, off, w)) => vp_in x n ∧ K (pc + len, mz_kp kn L, mz_R t' (mz_pl b p off + w * x.toNatClampNeg) :: r, μ)
      | _ => False)
    | .iastore => mz_p1 st fun v r1 => mz_p1 r1 fun x r0 => mz_h1 r0 fun t p r => (match mz_nth SH t with
      | some (.inr (_, n, 0, _)) => vp_in x n ∧ K (pc + len, mz_kp kn L, r, mz_wI μ p x.toNatClampNeg v)
      | _ => False)
    | .lastore => mz_g1 st fun v r1 => mz_p1 r1 fun x r0 => mz_h1 r0 fun t p r => (match mz_nth SH t with
      | some (.inr (_, n, 1, _)) => vp_in x n ∧ K (pc + len, mz_kp kn L, r, mz_wL μ p x.toNatClampNeg v)
      | _ => False)
    | .arraylength => mz_h1 st fun t p r => (match mz_nth SH t with
      | some (.inr (_, n, _)) => K (pc + len, mz_kp kn L, mz_I (nI n) :: r, μ)
      | _ => False)
    | .invokevirtual _ => mz_cl C a st μ fun v μ' => K (pc + len, mz_kp kn L, v, μ')
    | .invokestatic _ => (match a with
      | 0 :: _ => (match st with
        | .inl n :: .inl d :: .inr (.inr (t1, p1)) :: .inl s :: .inr (.inr (t0, p0)) :: r => (match mz_nth SH t0, mz_nth SH t1 with
          | some (.inr (_, n0, 0, _)), some (.inr (_, n1, 0, _)) => (¬ s < 0 ∧ ¬ d < 0 ∧ ¬ n < 0 ∧ s.toNatClampNeg + n.toNatClampNeg ≤ n0 ∧ d.toNatClampNeg + n.toNatClampNeg ≤ n1) ∧ (bif Nat.ble (mz_cs r) 8 then K (pc + len, mz_kp kn L, r, mz_cI μ p0 p1 s.toNatClampNeg d.toNatClampNeg n.toNatClampNeg) else False)
          | some (.inr (_, n0, 1, _)), some (.inr (_, n1, 1, _)) => (¬ s < 0 ∧ ¬ d < 0 ∧ ¬ n < 0 ∧ s.toNatClampNeg + n.toNatClampNeg ≤ n0 ∧ d.toNatClampNeg + n.toNatClampNeg ≤ n1) ∧ (bif Nat.ble (mz_cs r) 8 then K (pc + len, mz_kp kn L, r, mz_cL μ p0 p1 s.toNatClampNeg d.toNatClampNeg n.toNatClampNeg) else False)
          | _, _ => False)
        | _ => False)
      | _ :: a' => mz_cl C a' st μ fun v μ' => K (pc + len, mz_kp kn L, v, μ')
      | [] => False)
    | .ireturn => (match st with
      | [.inl x] => mz_bool (mz_a0 a) x (Q (some (mz_I x)) μ)
      | _ => False)
    | .lreturn => (match st with
      | [.inr (.inl x)] => Q (some (mz_L x)) μ
      | _ => False)
    | .areturn => (match st with
      | [.inr (.inr (t, p))] => Q (some (mz_R t p)) μ
      | _ => False)
    | .return_ => (match st with
      | [] => Q none μ
      | _ => False)
    | _ => False
def mz_step (SH : List mz_Sh) (tab : mz_T) (C : mz_Cl) (Q : Option mz_V → mz_M → Prop) (K : mz_S → Prop) (s : mz_S) : Prop := match mz_nth tab s.1 with
  | some (some e) => mz_op SH C Q K e s.1 s.2.1 s.2.2.1 s.2.2.2
  | _ => False
def mz_Ev (SH : List mz_Sh) (tab : mz_T) (C : mz_Cl) (Q : Option mz_V → mz_M → Prop) (s : mz_S) : Prop := ∀ P : mz_S → Prop, (∀ s, mz_step SH tab C Q P s → P s) → P s
def mz_Rel (SH : List mz_Sh) (TB : Nat → mz_T) : Nat → mz_Cl
  | 0 => fun _ _ _ _ _ => False
  | d + 1 => fun y a μ r μ' => mz_Ev SH (TB y) (mz_Rel SH TB d) (fun r2 μ2 => r2 = r ∧ μ2 = μ') (0, mz_ent 0 a, [], μ)
end
section
theorem mz_p1_m {st : List mz_V} {f g : Int32 → List mz_V → Prop} (h : ∀ x r, f x r → g x r) : mz_p1 st f → mz_p1 st g := by
  match st with
  | [] => exact id
  | .inl x :: r => exact h x r
  | .inr _ :: _ => exact id
theorem mz_p2_m {st : List mz_V} {f g : Int32 → Int32 → List mz_V → Prop} (h : ∀ x y r, f x y r → g x y r) : mz_p2 st f → mz_p2 st g := by
  match st with
  | [] => exact id
  | [.inl _] => exact id
  | .inl y :: .inl x :: r => exact h x y r
  | .inl _ :: .inr _ :: _ => exact id
  | .inr _ :: _ => exact id
theorem mz_g1_m {st : List mz_V} {f g : Int64 → List mz_V → Prop} (h : ∀ x r, f x r → g x r) : mz_g1 st f → mz_g1 st g := by
  match st with
  | [] => exact id
  | .inl _ :: _ => exact id
  | .inr (.inl x) :: r => exact h x r
  | .inr (.inr _) :: _ => exact id
theorem mz_g2_m {st : List mz_V} {f g : Int64 → Int64 → List mz_V → Prop} (h : ∀ x y r, f x y r → g x y r) : mz_g2 st f → mz_g2 st g := by
  match st with
  | [] => exact id
  | .inl _ :: _ => exact id
  | .inr (.inr _) :: _ => exact id
  | [.inr (.inl _)] => exact id
  | .inr (.inl _) :: .inl _ :: _ => exact id
  | .inr (.inl _) :: .inr (.inr _) :: _ => exact id
  | .inr (.inl y) :: .inr (.inl x) :: r => exact h x y r
theorem mz_h1_m {st : List mz_V} {f g : Nat → Nat → List mz_V → Prop} (h : ∀ t p r, f t p r → g t p r) : mz_h1 st f → mz_h1 st g := by
  match st with
  | [] => exact id
  | .inl _ :: _ => exact id
  | .inr (.inl _) :: _ => exact id
  | .inr (.inr (t, p)) :: r => exact h t p r
theorem mz_li_m {L : mz_Lo} {i : Nat} {f g : Int32 → Prop} (h : ∀ x, f x → g x) : mz_li L i f → mz_li L i g := by
  unfold mz_li
  match mz_lk L i with
  | none => exact id
  | some (.inl x) => exact h x
  | some (.inr _) => exact id
theorem mz_ll_m {L : mz_Lo} {i : Nat} {f g : Int64 → Prop} (h : ∀ x, f x → g x) : mz_ll L i f → mz_ll L i g := by
  unfold mz_ll
  match mz_lk L i with
  | none => exact id
  | some (.inl _) => exact id
  | some (.inr (.inl x)) => exact h x
  | some (.inr (.inr _)) => exact id
theorem mz_lr_m {L : mz_Lo} {i : Nat} {f g : Nat → Nat → Prop} (h : ∀ t p, f t p → g t p) : mz_lr L i f → mz_lr L i g := by
  unfold mz_lr
  match mz_lk L i with
  | none => exact id
  | some (.inl _) => exact id
  | some (.inr (.inl _)) => exact id
  | some (.inr (.inr (t, p))) => exact h t p
theorem mz_ite_m {c : Prop} [Decidable c] {A B A' B' : Prop} (ha : A → A') (hb : B → B') : (if c then A else B) → (if c then A' else B') := by
  by_cases h : c
  · rw [if_pos h, if_pos h]; exact ha
  · rw [if_neg h, if_neg h]; exact hb
theorem mz_ic_m {op : ClassFile.Cond} {x y : Int32} {A B A' B' : Prop} (ha : A → A') (hb : B → B') : mz_ic op x y A B → mz_ic op x y A' B' := by
  cases op <;> exact mz_ite_m ha hb
theorem mz_if_m {op : ClassFile.Cond} {x : Int32} {A B A' B' : Prop} (ha : A → A') (hb : B → B') : mz_if op x A B → mz_if op x A' B' := by
  cases op <;> exact mz_ite_m ha hb
theorem mz_sw_m {x : Int32} {K K' : Nat → Prop} {d : Nat} (h : ∀ t, K t → K' t) : ∀ {ps : List (Nat × Nat)}, mz_sw x K d ps → mz_sw x K' d ps
  | [] => h d
  | q :: r => by
    unfold mz_sw
    exact mz_ite_m (h q.2) (mz_sw_m h)
theorem mz_bool_m {b : Nat} {x : Int32} {A A' : Prop} (h : A → A') : mz_bool b x A → mz_bool b x A' := by
  match b with
  | 0 => exact h
  | _ + 1 => exact fun q => ⟨q.1, h q.2⟩
theorem mz_bif_m {b : Bool} {A A' : Prop} (h : A → A') : (bif b then A else False) → (bif b then A' else False) := by
  cases b
  · exact id
  · exact h
theorem mz_an_m {k t : Nat} {R : Option mz_V → mz_M → Prop} {f g : List mz_V → mz_M → Prop} (h : ∀ v μ, f v μ → g v μ) : mz_an k t R f → mz_an k t R g := by
  match k with
  | 0 => exact fun ⟨μ, a, b⟩ => ⟨μ, a, h _ _ b⟩
  | 1 => exact fun ⟨x, μ, a, b⟩ => ⟨x, μ, a, h _ _ b⟩
  | 2 => exact fun ⟨x, μ, a, b⟩ => ⟨x, μ, a, h _ _ b⟩
  | _ + 3 => exact fun ⟨x, μ, a, b⟩ => ⟨x, μ, a, h _ _ b⟩
theorem mz_cl_m {C : mz_Cl} {a : List Nat} {st : List mz_V} {μ : mz_M} {f g : List mz_V → mz_M → Prop} (h : ∀ v μ, f v μ → g v μ) : mz_cl C a st μ f → mz_cl C a st μ g := by
  match a with
  | [] => exact id
  | [_] => exact id
  | [_, _] => exact id
  | [_, _, _] => exact id
  | y :: n :: k :: t :: _ =>
    show (match mz_tk n [] st with
    | some (as, rest) => bif Nat.ble (mz_cs rest) 8 then mz_an k t (fun r μ' => C y as μ r μ') (fun v μ' => f (v ++ rest) μ') else False
    | none => False) → (match mz_tk n [] st with
    | some (as, rest) => bif Nat.ble (mz_cs rest) 8 then mz_an k t (fun r μ' => C y as μ r μ') (fun v μ' => g (v ++ rest) μ') else False
    | none => False)
    cases mz_tk n [] st with
    | none => exact id
    | some q => exact mz_bif_m (mz_an_m (fun v μ => h _ _))
set_option maxHeartbeats 4000000 in
theorem mz_op_m {SH : List mz_Sh} {C : mz_Cl} {Q : Option mz_V → mz_M → Prop} {K K' : mz_S → Prop} (hK : ∀ s, K s → K' s) {e : mz_E} {pc : Nat} {L : mz_Lo} {st : List mz_V} {μ : mz_M} : mz_op SH C Q K e pc L st μ → mz_op SH C Q K' e pc L st μ := by
  obtain ⟨i, len, c, cl, a, ps, kt, kn⟩ := e
  cases i
  case dup =>
    match st with
    | [] => exact id
    | .inl x :: r => exact hK _
    | .inr (.inl _) :: _ => exact id
    | .inr (.inr (t, p)) :: r => exact hK _
  case pop =>
    match st with
    | [] => exact id
    | .inl x :: r => exact hK _
    | .inr _ :: _ => exact id
  case dup2 =>
    match st with
    | [] => exact id
    | .inr _ :: _ => exact id
    | [.inl _] => exact id
    | .inl _ :: .inl _ :: _ => exact id
    | .inl _ :: .inr (.inl _) :: _ => exact id
    | .inl x :: .inr (.inr (t, p)) :: r => exact hK _
  case if_icmp op off => exact mz_p2_m fun x y r => mz_ic_m (hK _) (hK _)
  case ifCond op off => exact mz_p1_m fun x r => mz_if_m (hK _) (hK _)
  case tableswitch => exact mz_p1_m fun x r => mz_sw_m (fun t => hK _)
  case lookupswitch => exact mz_p1_m fun x r => mz_sw_m (fun t => hK _)
  case invokevirtual => exact mz_cl_m (f := fun v μ' => K (pc + len, mz_kp kn L, v, μ')) (g := fun v μ' => K' (pc + len, mz_kp kn L, v, μ')) (fun v μ => hK _)
  case getfield =>
    refine mz_h1_m fun t p r => ?_
    split
    · refine mz_bif_m ?_
      split
      · exact hK _
      · exact hK _
      · exact id
    · exact id
  case putfield =>
    refine mz_p1_m fun x r0 => mz_h1_m fun t p r => ?_
    split
    · refine mz_bif_m ?_
      split
      · exact mz_bool_m (hK _)
      · exact id
    · exact id
  case iaload =>
    refine mz_p1_m fun x r0 => mz_h1_m fun t p r => ?_
    split
    · exact fun q => ⟨q.1, hK _ q.2⟩
    · exact id
  case laload =>
    refine mz_p1_m fun x r0 => mz_h1_m fun t p r => ?_
    split
    · exact fun q => ⟨q.1, hK _ q.2⟩
    · exact id
  case aaload =>
    refine mz_p1_m fun x r0 => mz_h1_m fun t p r => ?_
    split
    · exact fun q => ⟨q.1, hK _ q.2⟩
    · exact id
  case iastore =>
    refine mz_p1_m fun v r1 => mz_p1_m fun x r0 => mz_h1_m fun t p r => ?_
    split
    · exact fun q => ⟨q.1, hK _ q.2⟩
    · exact id
  case lastore =>
    refine mz_g1_m fun v r1 => mz_p1_m fun x r0 => mz_h1_m fun t p r => ?_
    split
    · exact fun q => ⟨q.1, hK _ q.2⟩
    · exact id
  case arraylength =>
    refine mz_h1_m fun t p r => ?_
    split
    · exact hK _
    · exact id
  case invokestatic =>
    dsimp only [mz_op]
    split
    · split
      · split
        · exact fun q => ⟨q.1, mz_bif_m (hK _) q.2⟩
        · exact fun q => ⟨q.1, mz_bif_m (hK _) q.2⟩
        · exact id
      · exact id
    · exact mz_cl_m (f := fun v μ' => K (pc + len, mz_kp kn L, v, μ')) (g := fun v μ' => K' (pc + len, mz_kp kn L, v, μ')) (fun v μ => hK _)
    · exact id
  case ireturn => exact id
  case lreturn => exact id
  case areturn => exact id
  case return_ => exact id
  all_goals first
    | exact hK _
    | exact id
    | exact mz_p1_m fun x r => hK _
    | exact mz_p2_m fun x y r => hK _
    | exact mz_p2_m fun x y r q => ⟨q.1, hK _ q.2⟩
    | exact mz_g1_m fun x r => hK _
    | exact mz_g2_m fun x y r => hK _
    | exact mz_g2_m fun x y r q => ⟨q.1, hK _ q.2⟩
    | exact mz_h1_m fun x y r => hK _
    | exact mz_li_m fun x => hK _
    | exact mz_ll_m fun x => hK _
    | exact mz_lr_m fun x y => hK _
theorem mz_step_m {SH : List mz_Sh} {tab : mz_T} {C : mz_Cl} {Q : Option mz_V → mz_M → Prop} {K K' : mz_S → Prop} (hK : ∀ s, K s → K' s) {s : mz_S} : mz_step SH tab C Q K s → mz_step SH tab C Q K' s := by
  unfold mz_step
  match mz_nth tab s.1 with
  | none => exact id
  | some none => exact id
  | some (some e) => exact mz_op_m hK
theorem mz_Ev.step {SH : List mz_Sh} {tab : mz_T} {C : mz_Cl} {Q : Option mz_V → mz_M → Prop} {s : mz_S} (h : mz_step SH tab C Q (mz_Ev SH tab C Q) s) : mz_Ev SH tab C Q s :=
  fun P hP => hP s (mz_step_m (fun s' h' => h' P hP) h)
/-- up to k steps at once, to the next cut -/
def mz_run (SH : List mz_Sh) (tab : mz_T) (C : mz_Cl) (Q : Option mz_V → mz_M → Prop) (cuts : List Nat) : Nat → mz_S → Prop
  | 0, s => mz_Ev SH tab C Q s
  | k + 1, s => mz_step SH tab C Q (fun s' => bif mz_el s'.1 cuts then mz_Ev SH tab C Q s' else mz_run SH tab C Q cuts k s') s
theorem mz_Ev.run {SH : List mz_Sh} {tab : mz_T} {C : mz_Cl} {Q : Option mz_V → mz_M → Prop} (cuts : List Nat) : ∀ (k : Nat) {s : mz_S}, mz_run SH tab C Q cuts k s → mz_Ev SH tab C Q s
  | 0, _, h => h
  | k + 1, s, h => mz_Ev.step (mz_step_m (fun s' h' => by
      cases hc : mz_el s'.1 cuts with
      | true => rw [hc] at h'; exact h'
      | false => rw [hc] at h'; exact mz_Ev.run cuts k h') h)
end
