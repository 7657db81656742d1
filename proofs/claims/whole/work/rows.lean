section
/-! A second machine, over numbers alone: objects are places of a fixed layout, a state is what their whole-number fields and rows hold. mz_Ev: from a state a method comes to a return with Q. -/
abbrev mz_V : Type := Int32 ⊕ (Int64 ⊕ (Nat × Nat))
abbrev mz_I (x : Int32) : mz_V := .inl x
abbrev mz_L (x : Int64) : mz_V := .inr (.inl x)
abbrev mz_R (t p : Nat) : mz_V := .inr (.inr (t, p))
abbrev mz_M : Type := (Nat → Nat → Int32) × (Nat → Nat → Int64)
abbrev mz_Lo : Type := List (Nat × mz_V)
abbrev mz_S : Type := Nat × mz_Lo × List mz_V × mz_M
/-- instruction, length, int constant, long constant, numbers, a switch's pairs, locals kept at the target, locals kept at the next instruction -/
abbrev mz_E : Type := Instr × Nat × Int32 × Int64 × List Nat × List (Nat × Nat) × Option (List Nat) × Option (List Nat)
abbrev mz_T : Type := List (Option mz_E)
abbrev mz_q (i : Instr) (n : Nat) : Option mz_E := some (i, n, 0, 0, [], [], none, none)
abbrev mz_qc (i : Instr) (n : Nat) (c : Int32) : Option mz_E := some (i, n, c, 0, [], [], none, none)
abbrev mz_ql (i : Instr) (n : Nat) (c : Int64) (a : List Nat) : Option mz_E := some (i, n, 0, c, a, [], none, none)
abbrev mz_qa (i : Instr) (n : Nat) (a : List Nat) : Option mz_E := some (i, n, 0, 0, a, [], none, none)
abbrev mz_qk (i : Instr) (n : Nat) (c : Int32) (a : List Nat) (ps : List (Nat × Nat)) (kt kn : Option (List Nat)) : Option mz_E := some (i, n, c, 0, a, ps, kt, kn)
def mz_cat (v : mz_V) : Nat := match v with
  | .inl _ => 1
  | .inr (.inl _) => 2
  | .inr (.inr _) => 1
def mz_nth {α : Type} : List α → Nat → Option α
  | [], _ => none
  | a :: _, 0 => some a
  | _ :: r, n + 1 => mz_nth r n
def mz_lk : mz_Lo → Nat → Option mz_V
  | [], _ => none
  | q :: r, i => bif Nat.beq q.1 i then some q.2 else mz_lk r i
def mz_ins (i : Nat) (v : mz_V) : mz_Lo → mz_Lo
  | [] => [(i, v)]
  | q :: r => bif Nat.ble q.1 i then q :: mz_ins i v r else (i, v) :: q :: r
/-- what stays when a value is stored at i (and, where w, at i + 1) -/
def mz_rm (i : Nat) (w : Bool) : mz_Lo → mz_Lo
  | [] => []
  | q :: r => bif Nat.beq q.1 i || (w && Nat.beq q.1 (i + 1)) || (Nat.beq (q.1 + 1) i && Nat.beq (mz_cat q.2) 2) then mz_rm i w r else q :: mz_rm i w r
def mz_st1 (L : mz_Lo) (i : Nat) (v : mz_V) : mz_Lo := mz_ins i v (mz_rm i false L)
def mz_st2 (L : mz_Lo) (i : Nat) (v : mz_V) : mz_Lo := mz_ins i v (mz_rm i true L)
def mz_el (i : Nat) : List Nat → Bool
  | [] => false
  | k :: r => Nat.beq k i || mz_el i r
def mz_kl (ks : List Nat) : mz_Lo → mz_Lo
  | [] => []
  | q :: r => bif mz_el q.1 ks then q :: mz_kl ks r else mz_kl ks r
def mz_kp (o : Option (List Nat)) (L : mz_Lo) : mz_Lo := match o with
  | none => L
  | some ks => mz_kl ks L
/-- a field: a number, or a fixed place (from its own on, or from the start), of a kind -/
abbrev mz_F : Type := Option (Bool × Nat × Nat)
/-- an object: its class's number, its fields; a row: number of its type, length, 0 ints 1 longs 2 references, then of these their kind and places -/
abbrev mz_Sh : Type := (Nat × List mz_F) ⊕ (Nat × Nat × Nat × Nat × Bool × Nat × Nat)
def mz_pl (b : Bool) (p off : Nat) : Nat := bif b then p + off else off
def mz_wr {α : Type} (g : Nat → α) (p : Nat) (f : α) : Nat → α := fun q => if q = p then f else g q
def mz_wI (μ : mz_M) (p k : Nat) (x : Int32) : mz_M := (mz_wr μ.1 p (upd (μ.1 p) k x), μ.2)
def mz_wL (μ : mz_M) (p k : Nat) (x : Int64) : mz_M := (μ.1, mz_wr μ.2 p (vp_updL (μ.2 p) k x))
def mz_cI (μ : mz_M) (p0 p1 a b n : Nat) : mz_M := (mz_wr μ.1 p1 (va_cpy (μ.1 p0) (μ.1 p1) a b n), μ.2)
def mz_cL (μ : mz_M) (p0 p1 a b n : Nat) : mz_M := (μ.1, mz_wr μ.2 p1 (va_cpy (μ.2 p0) (μ.2 p1) a b n))
def mz_cs : List mz_V → Nat
  | [] => 0
  | v :: r => mz_cat v + mz_cs r
def mz_tk : Nat → List mz_V → List mz_V → Option (List mz_V × List mz_V)
  | 0, acc, st => some (acc, st)
  | _ + 1, _, [] => none
  | n + 1, acc, v :: st => mz_tk n (v :: acc) st
def mz_ent : Nat → List mz_V → mz_Lo
  | _, [] => []
  | i, v :: r => (i, v) :: mz_ent (i + mz_cat v) r
abbrev mz_Cl : Type := Nat → List mz_V → mz_M → Option mz_V → mz_M → Prop
/-- one and two numbers from the stack -/
def mz_p1 (st : List mz_V) (f : Int32 → List mz_V → Prop) : Prop := match st with
  | .inl x :: r => f x r
  | _ => False
def mz_p2 (st : List mz_V) (f : Int32 → Int32 → List mz_V → Prop) : Prop := match st with
  | .inl y :: .inl x :: r => f x y r
  | _ => False
def mz_g1 (st : List mz_V) (f : Int64 → List mz_V → Prop) : Prop := match st with
  | .inr (.inl x) :: r => f x r
  | _ => False
def mz_g2 (st : List mz_V) (f : Int64 → Int64 → List mz_V → Prop) : Prop := match st with
  | .inr (.inl y) :: .inr (.inl x) :: r => f x y r
  | _ => False
def mz_h1 (st : List mz_V) (f : Nat → Nat → List mz_V → Prop) : Prop := match st with
  | .inr (.inr (t, p)) :: r => f t p r
  | _ => False
def mz_li (L : mz_Lo) (i : Nat) (f : Int32 → Prop) : Prop := match mz_lk L i with
  | some (.inl x) => f x
  | _ => False
def mz_ll (L : mz_Lo) (i : Nat) (f : Int64 → Prop) : Prop := match mz_lk L i with
  | some (.inr (.inl x)) => f x
  | _ => False
def mz_lr (L : mz_Lo) (i : Nat) (f : Nat → Nat → Prop) : Prop := match mz_lk L i with
  | some (.inr (.inr (t, p))) => f t p
  | _ => False
def mz_a0 (a : List Nat) : Nat := match a with
  | [] => 0
  | k :: _ => k
def mz_ic (op : ClassFile.Cond) (x y : Int32) (A B : Prop) : Prop := match op with
  | .eq => if x = y then A else B
  | .ne => if x = y then B else A
  | .lt => if x < y then A else B
  | .ge => if y ≤ x then A else B
  | .gt => if y < x then A else B
  | .le => if x ≤ y then A else B
def mz_if (op : ClassFile.Cond) (x : Int32) (A B : Prop) : Prop := match op with
  | .eq => if x = 0 then A else B
  | .ne => if x = 0 then B else A
  | .lt => if x < 0 then A else B
  | .ge => if 0 ≤ x then A else B
  | .gt => if 0 < x then A else B
  | .le => if x ≤ 0 then A else B
def mz_sw (x : Int32) (K : Nat → Prop) (d : Nat) : List (Nat × Nat) → Prop
  | [] => K d
  | q :: r => if x = nI q.1 then K q.2 else mz_sw x K d r
def mz_bool (b : Nat) (x : Int32) (A : Prop) : Prop := match b with
  | 0 => A
  | _ + 1 => (x = 0 ∨ x = 1) ∧ A
/-- a call's answer, by its kind: 0 none, 1 int, 2 long, 3 a reference of a kind -/
def mz_an (k t : Nat) (R : Option mz_V → mz_M → Prop) (f : List mz_V → mz_M → Prop) : Prop := match k with
  | 0 => ∃ μ, R none μ ∧ f [] μ
  | 1 => ∃ x μ, R (some (mz_I x)) μ ∧ f [mz_I x] μ
  | 2 => ∃ x μ, R (some (mz_L x)) μ ∧ f [mz_L x] μ
  | _ => ∃ p μ, R (some (mz_R t p)) μ ∧ f [mz_R t p] μ
/-- a call: method, arguments with the object, kind of answer, its own kind; mz_rv: the object is of a class -/
def mz_rv (SH : List mz_Sh) (cj : Nat) (as : List mz_V) : Bool := match as with
  | .inr (.inr (t, _)) :: _ => (match mz_nth SH t with
    | some (.inl (ci, _)) => Nat.beq ci cj
    | _ => false)
  | _ => false
def mz_cl (C : mz_Cl) (g : List mz_V → Bool) (a : List Nat) (st : List mz_V) (μ : mz_M) (f : List mz_V → mz_M → Prop) : Prop := match a with
  | y :: n :: k :: t :: ml :: _ => (match mz_tk n [] st with
    | some (as, rest) => bif Nat.ble (mz_cs rest) 8 && Nat.ble (mz_cs as) ml && g as then mz_an k t (fun r μ' => C y as μ r μ') (fun v μ' => f (v ++ rest) μ') else False
    | none => False)
  | _ => False
/-- System.arraycopy of ints, of longs -/
def mz_ac (SH : List mz_Sh) (st : List mz_V) (fI fL : Nat → Nat → Int32 → Int32 → Int32 → List mz_V → Prop) : Prop := match st with
  | .inl n :: .inl d :: .inr (.inr (t1, p1)) :: .inl s :: .inr (.inr (t0, p0)) :: r => (match mz_nth SH t0, mz_nth SH t1 with
    | some (.inr (_, n0, 0, _)), some (.inr (_, n1, 0, _)) => (¬ s < 0 ∧ ¬ d < 0 ∧ ¬ n < 0 ∧ s.toNatClampNeg + n.toNatClampNeg ≤ n0 ∧ d.toNatClampNeg + n.toNatClampNeg ≤ n1) ∧ (bif Nat.ble (mz_cs r) 8 then fI p0 p1 s d n r else False)
    | some (.inr (_, n0, 1, _)), some (.inr (_, n1, 1, _)) => (¬ s < 0 ∧ ¬ d < 0 ∧ ¬ n < 0 ∧ s.toNatClampNeg + n.toNatClampNeg ≤ n0 ∧ d.toNatClampNeg + n.toNatClampNeg ≤ n1) ∧ (bif Nat.ble (mz_cs r) 8 then fL p0 p1 s d n r else False)
    | _, _ => False)
  | _ => False
end
section
set_option maxHeartbeats 1000000 in
def mz_op (SH : List mz_Sh) (C : mz_Cl) (Q : Option mz_V → mz_M → Prop) (K : mz_S → Prop) (e : mz_E) (pc : Nat) (L : mz_Lo) (st : List mz_V) (μ : mz_M) : Prop :=
  match e with
  | (i, len, c, cl, a, ps, kt, kn) => match i with
    | .iconst _ => K (pc + len, mz_kp kn L, mz_I c :: st, μ)
    | .bipush _ => K (pc + len, mz_kp kn L, mz_I c :: st, μ)
    | .sipush _ => K (pc + len, mz_kp kn L, mz_I c :: st, μ)
    | .ldc _ => K (pc + len, mz_kp kn L, mz_I c :: st, μ)
    | .ldc_w _ => K (pc + len, mz_kp kn L, mz_I c :: st, μ)
    | .lconst _ => K (pc + len, mz_kp kn L, mz_L cl :: st, μ)
    | .ldc2_w _ => K (pc + len, mz_kp kn L, mz_L cl :: st, μ)
    | .iload_n _ => mz_li L (mz_a0 a) fun x => K (pc + len, mz_kp kn L, mz_I x :: st, μ)
    | .iload _ => mz_li L (mz_a0 a) fun x => K (pc + len, mz_kp kn L, mz_I x :: st, μ)
    | .lload_n _ => mz_ll L (mz_a0 a) fun x => K (pc + len, mz_kp kn L, mz_L x :: st, μ)
    | .lload _ => mz_ll L (mz_a0 a) fun x => K (pc + len, mz_kp kn L, mz_L x :: st, μ)
    | .aload_n _ => mz_lr L (mz_a0 a) fun t p => K (pc + len, mz_kp kn L, mz_R t p :: st, μ)
    | .aload _ => mz_lr L (mz_a0 a) fun t p => K (pc + len, mz_kp kn L, mz_R t p :: st, μ)
    | .istore_n _ => mz_p1 st fun x r => K (pc + len, mz_kp kn (mz_st1 L (mz_a0 a) (mz_I x)), r, μ)
    | .istore _ => mz_p1 st fun x r => K (pc + len, mz_kp kn (mz_st1 L (mz_a0 a) (mz_I x)), r, μ)
    | .lstore_n _ => mz_g1 st fun x r => K (pc + len, mz_kp kn (mz_st2 L (mz_a0 a) (mz_L x)), r, μ)
    | .lstore _ => mz_g1 st fun x r => K (pc + len, mz_kp kn (mz_st2 L (mz_a0 a) (mz_L x)), r, μ)
    | .astore_n _ => mz_h1 st fun t p r => K (pc + len, mz_kp kn (mz_st1 L (mz_a0 a) (mz_R t p)), r, μ)
    | .astore _ => mz_h1 st fun t p r => K (pc + len, mz_kp kn (mz_st1 L (mz_a0 a) (mz_R t p)), r, μ)
    | .iinc _ _ => mz_li L (mz_a0 a) fun x => K (pc + len, mz_kp kn (mz_st1 L (mz_a0 a) (mz_I (x + c))), st, μ)
    | .iadd => mz_p2 st fun x y r => K (pc + len, mz_kp kn L, mz_I (x + y) :: r, μ)
    | .isub => mz_p2 st fun x y r => K (pc + len, mz_kp kn L, mz_I (x - y) :: r, μ)
    | .imul => mz_p2 st fun x y r => K (pc + len, mz_kp kn L, mz_I (x * y) :: r, μ)
    | .iand => mz_p2 st fun x y r => K (pc + len, mz_kp kn L, mz_I (x &&& y) :: r, μ)
    | .ior => mz_p2 st fun x y r => K (pc + len, mz_kp kn L, mz_I (x ||| y) :: r, μ)
    | .ixor => mz_p2 st fun x y r => K (pc + len, mz_kp kn L, mz_I (x ^^^ y) :: r, μ)
    | .ishl => mz_p2 st fun x y r => K (pc + len, mz_kp kn L, mz_I (x <<< (y &&& 31)) :: r, μ)
    | .idiv => mz_p2 st fun x y r => ¬ y = 0 ∧ K (pc + len, mz_kp kn L, mz_I (x / y) :: r, μ)
    | .irem => mz_p2 st fun x y r => ¬ y = 0 ∧ K (pc + len, mz_kp kn L, mz_I (x - x / y * y) :: r, μ)
    | .ineg => mz_p1 st fun x r => K (pc + len, mz_kp kn L, mz_I (-x) :: r, μ)
    | .ladd => mz_g2 st fun x y r => K (pc + len, mz_kp kn L, mz_L (x + y) :: r, μ)
    | .lsub => mz_g2 st fun x y r => K (pc + len, mz_kp kn L, mz_L (x - y) :: r, μ)
    | .lmul => mz_g2 st fun x y r => K (pc + len, mz_kp kn L, mz_L (x * y) :: r, μ)
    | .land => mz_g2 st fun x y r => K (pc + len, mz_kp kn L, mz_L (x &&& y) :: r, μ)
    | .ldiv => mz_g2 st fun x y r => ¬ y = 0 ∧ K (pc + len, mz_kp kn L, mz_L (x / y) :: r, μ)
    | .lrem => mz_g2 st fun x y r => ¬ y = 0 ∧ K (pc + len, mz_kp kn L, mz_L (x - x / y * y) :: r, μ)
    | .lneg => mz_g1 st fun x r => K (pc + len, mz_kp kn L, mz_L (-x) :: r, μ)
    | .lcmp => mz_g2 st fun x y r => K (pc + len, mz_kp kn L, mz_I (lg_cmp x y) :: r, μ)
    | .i2l => mz_p1 st fun x r => K (pc + len, mz_kp kn L, mz_L x.toInt64 :: r, μ)
    | .l2i => mz_g1 st fun x r => K (pc + len, mz_kp kn L, mz_I x.toInt32 :: r, μ)
    | .i2b => mz_p1 st fun x r => K (pc + len, mz_kp kn L, mz_I x.toInt8.toInt32 :: r, μ)
    | .i2s => mz_p1 st fun x r => K (pc + len, mz_kp kn L, mz_I x.toInt16.toInt32 :: r, μ)
    | .pop => (match st with
      | .inl _ :: r => K (pc + len, mz_kp kn L, r, μ)
      | _ => False)
    | .dup => (match st with
      | .inl x :: r => K (pc + len, mz_kp kn L, mz_I x :: mz_I x :: r, μ)
      | .inr (.inr (t, p)) :: r => K (pc + len, mz_kp kn L, mz_R t p :: mz_R t p :: r, μ)
      | _ => False)
    | .dup2 => (match st with
      | .inl x :: .inr (.inr (t, p)) :: r => K (pc + len, mz_kp kn L, mz_I x :: mz_R t p :: mz_I x :: mz_R t p :: r, μ)
      | _ => False)
    | .goto _ => K (mz_a0 a, mz_kp kt L, st, μ)
    | .if_icmp op _ => mz_p2 st fun x y r => mz_ic op x y (K (mz_a0 a, mz_kp kt L, r, μ)) (K (pc + len, mz_kp kn L, r, μ))
    | .ifCond op _ => mz_p1 st fun x r => mz_if op x (K (mz_a0 a, mz_kp kt L, r, μ)) (K (pc + len, mz_kp kn L, r, μ))
    | .tableswitch _ _ _ _ => mz_p1 st fun x r => mz_sw x (fun t => K (t, L, r, μ)) (mz_a0 a) ps
    | .lookupswitch _ _ => mz_p1 st fun x r => mz_sw x (fun t => K (t, L, r, μ)) (mz_a0 a) ps
    | .getfield _ => mz_h1 st fun t p r => (match mz_nth SH t, a with
      | some (.inl (ci, fs)), cj :: k :: _ => bif Nat.beq ci cj then (match mz_nth fs k with
        | some none => K (pc + len, mz_kp kn L, mz_I (μ.1 p k) :: r, μ)
        | some (some (b, off, t')) => K (pc + len, mz_kp kn L, mz_R t' (mz_pl b p off) :: r, μ)
        | none => False) else False
      | _, _ => False)
    | .putfield _ => mz_p1 st fun x r0 => mz_h1 r0 fun t p r => (match mz_nth SH t, a with
      | some (.inl (ci, fs)), cj :: k :: b :: _ => bif Nat.beq ci cj then (match mz_nth fs k with
        | some none => mz_bool b x (K (pc + len, mz_kp kn L, r, mz_wI μ p k x))
        | _ => False) else False
      | _, _ => False)
    | .iaload => mz_p1 st fun x r0 => mz_h1 r0 fun t p r => (match mz_nth SH t with
      | some (.inr (_, n, 0, _)) => vp_in x n ∧ K (pc + len, mz_kp kn L, mz_I (μ.1 p x.toNatClampNeg) :: r, μ)
      | _ => False)
    | .laload => mz_p1 st fun x r0 => mz_h1 r0 fun t p r => (match mz_nth SH t with
      | some (.inr (_, n, 1, _)) => vp_in x n ∧ K (pc + len, mz_kp kn L, mz_L (μ.2 p x.toNatClampNeg) :: r, μ)
      | _ => False)
    | .aaload => mz_p1 st fun x r0 => mz_h1 r0 fun t p r => (match mz_nth SH t with
      | some (.inr (_, n, 2, t', b, off, w)) => vp_in x n ∧ K (pc + len, mz_kp kn L, mz_R t' (mz_pl b p off + w * x.toNatClampNeg) :: r, μ)
      | _ => False)
    | .iastore => mz_p1 st fun v r1 => mz_p1 r1 fun x r0 => mz_h1 r0 fun t p r => (match mz_nth SH t with
      | some (.inr (_, n, 0, _)) => vp_in x n ∧ K (pc + len, mz_kp kn L, r, mz_wI μ p x.toNatClampNeg v)
      | _ => False)
    | .lastore => mz_g1 st fun v r1 => mz_p1 r1 fun x r0 => mz_h1 r0 fun t p r => (match mz_nth SH t with
      | some (.inr (_, n, 1, _)) => vp_in x n ∧ K (pc + len, mz_kp kn L, r, mz_wL μ p x.toNatClampNeg v)
      | _ => False)
    | .arraylength => mz_h1 st fun t p r => (match mz_nth SH t with
      | some (.inr (_, n, _)) => K (pc + len, mz_kp kn L, mz_I (nI n) :: r, μ)
      | _ => False)
    | .invokevirtual _ => (match a with
      | cj :: a' => mz_cl C (mz_rv SH cj) a' st μ fun v μ' => K (pc + len, mz_kp kn L, v, μ')
      | [] => False)
    | .invokestatic _ => (match a with
      | 0 :: _ => mz_ac SH st (fun p0 p1 s d n r => K (pc + len, mz_kp kn L, r, mz_cI μ p0 p1 s.toNatClampNeg d.toNatClampNeg n.toNatClampNeg)) (fun p0 p1 s d n r => K (pc + len, mz_kp kn L, r, mz_cL μ p0 p1 s.toNatClampNeg d.toNatClampNeg n.toNatClampNeg))
      | _ :: a' => mz_cl C (fun _ => true) a' st μ fun v μ' => K (pc + len, mz_kp kn L, v, μ')
      | [] => False)
    | .ireturn => (match st with
      | [.inl x] => mz_bool (mz_a0 a) x (Q (some (mz_I x)) μ)
      | _ => False)
    | .lreturn => (match st with
      | [.inr (.inl x)] => Q (some (mz_L x)) μ
      | _ => False)
    | .areturn => (match st with
      | [.inr (.inr (t, p))] => Q (some (mz_R t p)) μ
      | _ => False)
    | .return_ => (match st with
      | [] => Q none μ
      | _ => False)
    | _ => False
def mz_step (SH : List mz_Sh) (tab : mz_T) (C : mz_Cl) (Q : Option mz_V → mz_M → Prop) (K : mz_S → Prop) (s : mz_S) : Prop := match mz_nth tab s.1 with
  | some (some e) => mz_op SH C Q K e s.1 s.2.1 s.2.2.1 s.2.2.2
  | _ => False
def mz_Ev (SH : List mz_Sh) (tab : mz_T) (C : mz_Cl) (Q : Option mz_V → mz_M → Prop) (s : mz_S) : Prop := ∀ P : mz_S → Prop, (∀ s, mz_step SH tab C Q P s → P s) → P s
def mz_Rel (SH : List mz_Sh) (TB : Nat → mz_T) : Nat → mz_Cl
  | 0 => fun _ _ _ _ _ => False
  | d + 1 => fun y a μ r μ' => mz_Ev SH (TB y) (mz_Rel SH TB d) (fun r2 μ2 => r2 = r ∧ μ2 = μ') (0, mz_ent 0 a, [], μ)
end
section
theorem mz_p1_m {st : List mz_V} {f g : Int32 → List mz_V → Prop} (h : ∀ x r, f x r → g x r) : mz_p1 st f → mz_p1 st g := by
  match st with
  | [] => exact id
  | .inl x :: r => exact h x r
  | .inr _ :: _ => exact id
theorem mz_p2_m {st : List mz_V} {f g : Int32 → Int32 → List mz_V → Prop} (h : ∀ x y r, f x y r → g x y r) : mz_p2 st f → mz_p2 st g := by
  match st with
  | [] => exact id
  | [.inl _] => exact id
  | .inl y :: .inl x :: r => exact h x y r
  | .inl _ :: .inr _ :: _ => exact id
  | .inr _ :: _ => exact id
theorem mz_g1_m {st : List mz_V} {f g : Int64 → List mz_V → Prop} (h : ∀ x r, f x r → g x r) : mz_g1 st f → mz_g1 st g := by
  match st with
  | [] => exact id
  | .inl _ :: _ => exact id
  | .inr (.inl x) :: r => exact h x r
  | .inr (.inr _) :: _ => exact id
theorem mz_g2_m {st : List mz_V} {f g : Int64 → Int64 → List mz_V → Prop} (h : ∀ x y r, f x y r → g x y r) : mz_g2 st f → mz_g2 st g := by
  match st with
  | [] => exact id
  | .inl _ :: _ => exact id
  | .inr (.inr _) :: _ => exact id
  | [.inr (.inl _)] => exact id
  | .inr (.inl _) :: .inl _ :: _ => exact id
  | .inr (.inl _) :: .inr (.inr _) :: _ => exact id
  | .inr (.inl y) :: .inr (.inl x) :: r => exact h x y r
theorem mz_h1_m {st : List mz_V} {f g : Nat → Nat → List mz_V → Prop} (h : ∀ t p r, f t p r → g t p r) : mz_h1 st f → mz_h1 st g := by
  match st with
  | [] => exact id
  | .inl _ :: _ => exact id
  | .inr (.inl _) :: _ => exact id
  | .inr (.inr (t, p)) :: r => exact h t p r
theorem mz_li_m {L : mz_Lo} {i : Nat} {f g : Int32 → Prop} (h : ∀ x, f x → g x) : mz_li L i f → mz_li L i g := by
  unfold mz_li
  match mz_lk L i with
  | none => exact id
  | some (.inl x) => exact h x
  | some (.inr _) => exact id
theorem mz_ll_m {L : mz_Lo} {i : Nat} {f g : Int64 → Prop} (h : ∀ x, f x → g x) : mz_ll L i f → mz_ll L i g := by
  unfold mz_ll
  match mz_lk L i with
  | none => exact id
  | some (.inl _) => exact id
  | some (.inr (.inl x)) => exact h x
  | some (.inr (.inr _)) => exact id
theorem mz_lr_m {L : mz_Lo} {i : Nat} {f g : Nat → Nat → Prop} (h : ∀ t p, f t p → g t p) : mz_lr L i f → mz_lr L i g := by
  unfold mz_lr
  match mz_lk L i with
  | none => exact id
  | some (.inl _) => exact id
  | some (.inr (.inl _)) => exact id
  | some (.inr (.inr (t, p))) => exact h t p
theorem mz_ite_m {c : Prop} [Decidable c] {A B A' B' : Prop} (ha : A → A') (hb : B → B') : (if c then A else B) → (if c then A' else B') := by
  by_cases h : c
  · rw [if_pos h, if_pos h]; exact ha
  · rw [if_neg h, if_neg h]; exact hb
theorem mz_ic_m {op : ClassFile.Cond} {x y : Int32} {A B A' B' : Prop} (ha : A → A') (hb : B → B') : mz_ic op x y A B → mz_ic op x y A' B' := by
  cases op <;> first | exact mz_ite_m ha hb | exact mz_ite_m hb ha
theorem mz_if_m {op : ClassFile.Cond} {x : Int32} {A B A' B' : Prop} (ha : A → A') (hb : B → B') : mz_if op x A B → mz_if op x A' B' := by
  cases op <;> first | exact mz_ite_m ha hb | exact mz_ite_m hb ha
theorem mz_sw_m {x : Int32} {K K' : Nat → Prop} {d : Nat} (h : ∀ t, K t → K' t) : ∀ {ps : List (Nat × Nat)}, mz_sw x K d ps → mz_sw x K' d ps
  | [] => h d
  | q :: r => by
    unfold mz_sw
    exact mz_ite_m (h q.2) (mz_sw_m h)
theorem mz_bool_m {b : Nat} {x : Int32} {A A' : Prop} (h : A → A') : mz_bool b x A → mz_bool b x A' := by
  match b with
  | 0 => exact h
  | _ + 1 => exact fun q => ⟨q.1, h q.2⟩
theorem mz_bif_m {b : Bool} {A A' : Prop} (h : A → A') : (bif b then A else False) → (bif b then A' else False) := by
  cases b
  · exact id
  · exact h
theorem mz_an_m {k t : Nat} {R : Option mz_V → mz_M → Prop} {f g : List mz_V → mz_M → Prop} (h : ∀ v μ, f v μ → g v μ) : mz_an k t R f → mz_an k t R g := by
  match k with
  | 0 => exact fun ⟨μ, a, b⟩ => ⟨μ, a, h _ _ b⟩
  | 1 => exact fun ⟨x, μ, a, b⟩ => ⟨x, μ, a, h _ _ b⟩
  | 2 => exact fun ⟨x, μ, a, b⟩ => ⟨x, μ, a, h _ _ b⟩
  | _ + 3 => exact fun ⟨x, μ, a, b⟩ => ⟨x, μ, a, h _ _ b⟩
theorem mz_cl_m {C : mz_Cl} {ga : List mz_V → Bool} {a : List Nat} {st : List mz_V} {μ : mz_M} {f g : List mz_V → mz_M → Prop} (h : ∀ v μ, f v μ → g v μ) : mz_cl C ga a st μ f → mz_cl C ga a st μ g := by
  match a with
  | [] => exact id
  | [_] => exact id
  | [_, _] => exact id
  | [_, _, _] => exact id
  | [_, _, _, _] => exact id
  | y :: n :: k :: t :: ml :: _ =>
    show (match mz_tk n [] st with
    | some (as, rest) => bif Nat.ble (mz_cs rest) 8 && Nat.ble (mz_cs as) ml && ga as then mz_an k t (fun r μ' => C y as μ r μ') (fun v μ' => f (v ++ rest) μ') else False
    | none => False) → (match mz_tk n [] st with
    | some (as, rest) => bif Nat.ble (mz_cs rest) 8 && Nat.ble (mz_cs as) ml && ga as then mz_an k t (fun r μ' => C y as μ r μ') (fun v μ' => g (v ++ rest) μ') else False
    | none => False)
    cases mz_tk n [] st with
    | none => exact id
    | some q => exact mz_bif_m (mz_an_m (fun v μ => h _ _))
theorem mz_ac_m {SH : List mz_Sh} {st : List mz_V} {fI fL gI gL : Nat → Nat → Int32 → Int32 → Int32 → List mz_V → Prop} (h1 : ∀ a b c d e f, fI a b c d e f → gI a b c d e f) (h2 : ∀ a b c d e f, fL a b c d e f → gL a b c d e f) : mz_ac SH st fI fL → mz_ac SH st gI gL := by
  unfold mz_ac
  split
  · split
    · exact fun q => ⟨q.1, mz_bif_m (h1 _ _ _ _ _ _) q.2⟩
    · exact fun q => ⟨q.1, mz_bif_m (h2 _ _ _ _ _ _) q.2⟩
    · exact id
  · exact id
set_option maxHeartbeats 4000000 in
theorem mz_op_m {SH : List mz_Sh} {C : mz_Cl} {Q : Option mz_V → mz_M → Prop} {K K' : mz_S → Prop} (hK : ∀ s, K s → K' s) {e : mz_E} {pc : Nat} {L : mz_Lo} {st : List mz_V} {μ : mz_M} : mz_op SH C Q K e pc L st μ → mz_op SH C Q K' e pc L st μ := by
  obtain ⟨i, len, c, cl, a, ps, kt, kn⟩ := e
  cases i
  case dup =>
    match st with
    | [] => exact id
    | .inl x :: r => exact hK _
    | .inr (.inl _) :: _ => exact id
    | .inr (.inr (t, p)) :: r => exact hK _
  case pop =>
    match st with
    | [] => exact id
    | .inl x :: r => exact hK _
    | .inr _ :: _ => exact id
  case dup2 =>
    match st with
    | [] => exact id
    | .inr _ :: _ => exact id
    | [.inl _] => exact id
    | .inl _ :: .inl _ :: _ => exact id
    | .inl _ :: .inr (.inl _) :: _ => exact id
    | .inl x :: .inr (.inr (t, p)) :: r => exact hK _
  case if_icmp op off => exact mz_p2_m fun x y r => mz_ic_m (hK _) (hK _)
  case ifCond op off => exact mz_p1_m fun x r => mz_if_m (hK _) (hK _)
  case tableswitch => exact mz_p1_m fun x r => mz_sw_m (fun t => hK _)
  case lookupswitch => exact mz_p1_m fun x r => mz_sw_m (fun t => hK _)
  case invokevirtual =>
    dsimp only [mz_op]
    split
    · exact mz_cl_m (f := fun v μ' => K (pc + len, mz_kp kn L, v, μ')) (g := fun v μ' => K' (pc + len, mz_kp kn L, v, μ')) (fun v μ => hK _)
    · exact id
  case getfield =>
    refine mz_h1_m fun t p r => ?_
    split
    · refine mz_bif_m ?_
      split
      · exact hK _
      · exact hK _
      · exact id
    · exact id
  case putfield =>
    refine mz_p1_m fun x r0 => mz_h1_m fun t p r => ?_
    split
    · refine mz_bif_m ?_
      split
      · exact mz_bool_m (hK _)
      · exact id
    · exact id
  case iaload =>
    refine mz_p1_m fun x r0 => mz_h1_m fun t p r => ?_
    split
    · exact fun q => ⟨q.1, hK _ q.2⟩
    · exact id
  case laload =>
    refine mz_p1_m fun x r0 => mz_h1_m fun t p r => ?_
    split
    · exact fun q => ⟨q.1, hK _ q.2⟩
    · exact id
  case aaload =>
    refine mz_p1_m fun x r0 => mz_h1_m fun t p r => ?_
    split
    · exact fun q => ⟨q.1, hK _ q.2⟩
    · exact id
  case iastore =>
    refine mz_p1_m fun v r1 => mz_p1_m fun x r0 => mz_h1_m fun t p r => ?_
    split
    · exact fun q => ⟨q.1, hK _ q.2⟩
    · exact id
  case lastore =>
    refine mz_g1_m fun v r1 => mz_p1_m fun x r0 => mz_h1_m fun t p r => ?_
    split
    · exact fun q => ⟨q.1, hK _ q.2⟩
    · exact id
  case arraylength =>
    refine mz_h1_m fun t p r => ?_
    split
    · exact hK _
    · exact id
  case invokestatic =>
    dsimp only [mz_op]
    split
    · exact mz_ac_m (fun _ _ _ _ _ _ => hK _) (fun _ _ _ _ _ _ => hK _)
    · exact mz_cl_m (f := fun v μ' => K (pc + len, mz_kp kn L, v, μ')) (g := fun v μ' => K' (pc + len, mz_kp kn L, v, μ')) (fun v μ => hK _)
    · exact id
  case ireturn => exact id
  case lreturn => exact id
  case areturn => exact id
  case return_ => exact id
  all_goals first
    | exact hK _
    | exact id
    | exact mz_p1_m fun x r => hK _
    | exact mz_p2_m fun x y r => hK _
    | exact mz_p2_m fun x y r q => ⟨q.1, hK _ q.2⟩
    | exact mz_g1_m fun x r => hK _
    | exact mz_g2_m fun x y r => hK _
    | exact mz_g2_m fun x y r q => ⟨q.1, hK _ q.2⟩
    | exact mz_h1_m fun x y r => hK _
    | exact mz_li_m fun x => hK _
    | exact mz_ll_m fun x => hK _
    | exact mz_lr_m fun x y => hK _
theorem mz_step_m {SH : List mz_Sh} {tab : mz_T} {C : mz_Cl} {Q : Option mz_V → mz_M → Prop} {K K' : mz_S → Prop} (hK : ∀ s, K s → K' s) {s : mz_S} : mz_step SH tab C Q K s → mz_step SH tab C Q K' s := by
  unfold mz_step
  match mz_nth tab s.1 with
  | none => exact id
  | some none => exact id
  | some (some e) => exact mz_op_m hK
theorem mz_Ev.step {SH : List mz_Sh} {tab : mz_T} {C : mz_Cl} {Q : Option mz_V → mz_M → Prop} {s : mz_S} (h : mz_step SH tab C Q (mz_Ev SH tab C Q) s) : mz_Ev SH tab C Q s :=
  fun P hP => hP s (mz_step_m (fun s' h' => h' P hP) h)
/-- up to k steps at once, to the next cut -/
def mz_run (SH : List mz_Sh) (tab : mz_T) (C : mz_Cl) (Q : Option mz_V → mz_M → Prop) (cuts : List Nat) : Nat → mz_S → Prop
  | 0, s => mz_Ev SH tab C Q s
  | k + 1, s => mz_step SH tab C Q (fun s' => bif mz_el s'.1 cuts then mz_Ev SH tab C Q s' else mz_run SH tab C Q cuts k s') s
theorem mz_Ev.run {SH : List mz_Sh} {tab : mz_T} {C : mz_Cl} {Q : Option mz_V → mz_M → Prop} (cuts : List Nat) : ∀ (k : Nat) {s : mz_S}, mz_run SH tab C Q cuts k s → mz_Ev SH tab C Q s
  | 0, _, h => h
  | k + 1, s, h => mz_Ev.step (mz_step_m (fun s' h' => by
      cases hc : mz_el s'.1 cuts with
      | true => rw [hc] at h'; exact h'
      | false => rw [hc] at h'; exact mz_Ev.run cuts k h') h)
end
section
/-! The second machine's worlds as cells of the heap. -/
def mz_fv (ad : Nat → Nat) (μ : mz_M) (p k : Nat) (f : mz_F) : Value := match f with
  | none => .int (μ.1 p k)
  | some (b, off, _) => .ref (ad (mz_pl b p off))
def mz_cell (cA : Nat → ClassId) (ad : Nat → Nat) (μ : mz_M) (p : Nat) (sh : mz_Sh) : va_E := match sh with
  | .inl (ci, fs) => .inr (ci, (List.range fs.length).map (fun k => mz_fv ad μ p k (fs.getD k none)))
  | .inr (ti, n, 0, _) => .inl (cA ti, n, .inl (μ.1 p))
  | .inr (ti, n, 1, _) => .inl (cA ti, n, .inr (.inl (μ.2 p)))
  | .inr (ti, n, _ + 2, _, b, off, w) => .inl (cA ti, n, .inr (.inr (.inr (.inr (fun i => some (ad (mz_pl b p off + w * i)))))))
def mz_sh (SH : List mz_Sh) (t : Nat) : mz_Sh := SH.getD t (.inl (0, []))
def mz_w (SH : List mz_Sh) (LAY : List Nat) (cA : Nat → ClassId) (ad : Nat → Nat) (μ : mz_M) : va_W := (List.range LAY.length).map (fun p => (ad p, mz_cell cA ad μ p (mz_sh SH (LAY.getD p 0))))
def mz_cv (ad : Nat → Nat) (v : mz_V) : Value := match v with
  | .inl x => .int x
  | .inr (.inl x) => .long x
  | .inr (.inr (_, p)) => .ref (ad p)
def mz_vd (LAY : List Nat) (v : mz_V) : Prop := match v with
  | .inr (.inr (t, p)) => LAY[p]? = some t
  | _ => True
def mz_A (LAY : List Nat) (ad : Nat → Nat) : Nat → Prop := fun q => ∃ p, p < LAY.length ∧ q = ad p
theorem mz_nth_eq {α : Type} : ∀ (l : List α) (n : Nat), mz_nth l n = l[n]?
  | [], _ => rfl
  | _ :: _, 0 => rfl
  | _ :: r, n + 1 => by rw [List.getElem?_cons_succ]; exact mz_nth_eq r n
theorem mz_w_get {SH : List mz_Sh} {LAY : List Nat} {cA : Nat → ClassId} {ad : Nat → Nat} {μ : mz_M} {p t : Nat} {sh : mz_Sh} (h : LAY[p]? = some t) (hs : mz_nth SH t = some sh) : (mz_w SH LAY cA ad μ)[p]? = some (ad p, mz_cell cA ad μ p sh) := by
  have hl := (List.getElem?_eq_some_iff.mp h).1
  have e : mz_sh SH (LAY.getD p 0) = sh := by
    rw [List.getD_eq_getElem?_getD, h]
    rw [mz_nth_eq] at hs
    show SH.getD t _ = sh
    rw [List.getD_eq_getElem?_getD, hs]; rfl
  unfold mz_w
  rw [List.getElem?_map, List.getElem?_range hl]
  show some (ad p, mz_cell cA ad μ p (mz_sh SH (LAY.getD p 0))) = _
  rw [e]
theorem mz_w_len {SH : List mz_Sh} {LAY : List Nat} {cA : Nat → ClassId} {ad : Nat → Nat} {μ : mz_M} : (mz_w SH LAY cA ad μ).length = LAY.length := by
  unfold mz_w; rw [List.length_map, List.length_range]
theorem mz_cell_eq {cA : Nat → ClassId} {ad : Nat → Nat} {μ μ' : mz_M} {p : Nat} (h1 : μ'.1 p = μ.1 p) (h2 : μ'.2 p = μ.2 p) (sh : mz_Sh) : mz_cell cA ad μ' p sh = mz_cell cA ad μ p sh := by
  match sh with
  | .inl (ci, fs) =>
    have e : ∀ k, mz_fv ad μ' p k (fs.getD k none) = mz_fv ad μ p k (fs.getD k none) := by
      intro k
      cases fs.getD k none with
      | none => show Value.int (μ'.1 p k) = Value.int (μ.1 p k); rw [h1]
      | some q => rfl
    show Sum.inr (ci, _) = Sum.inr (ci, _)
    congr 2
    exact List.map_congr_left (fun k _ => e k)
  | .inr (ti, n, 0, q) => show Sum.inl (cA ti, n, Sum.inl (μ'.1 p)) = Sum.inl (cA ti, n, Sum.inl (μ.1 p)); rw [h1]
  | .inr (ti, n, 1, q) => show Sum.inl (cA ti, n, Sum.inr (Sum.inl (μ'.2 p))) = Sum.inl (cA ti, n, Sum.inr (Sum.inl (μ.2 p))); rw [h2]
  | .inr (ti, n, k + 2, t, b, off, w) => rfl
theorem mz_w_set {SH : List mz_Sh} {LAY : List Nat} {cA : Nat → ClassId} {ad : Nat → Nat} {μ μ' : mz_M} {p t : Nat} {sh : mz_Sh} (h : LAY[p]? = some t) (hs : mz_nth SH t = some sh) (ho : ∀ q, q ≠ p → μ'.1 q = μ.1 q ∧ μ'.2 q = μ.2 q) : (mz_w SH LAY cA ad μ).set p (ad p, mz_cell cA ad μ' p sh) = mz_w SH LAY cA ad μ' := by
  have hl := (List.getElem?_eq_some_iff.mp h).1
  apply List.ext_getElem?
  intro q
  by_cases hq : q = p
  · subst hq
    rw [List.getElem?_set_self (by rw [mz_w_len]; exact hl), mz_w_get h hs]
  · rw [List.getElem?_set_ne (Ne.symm hq)]
    unfold mz_w
    rw [List.getElem?_map, List.getElem?_map]
    cases hr : (List.range LAY.length)[q]? with
    | none => rfl
    | some z =>
      have hz : z = q := by
        have h1 := (List.getElem?_eq_some_iff.mp hr)
        obtain ⟨h1, h2⟩ := h1
        rw [List.getElem_range] at h2
        exact h2.symm
      subst hz
      show some (ad z, _) = some (ad z, _)
      rw [mz_cell_eq (ho z hq).1 (ho z hq).2]
theorem mz_w_D {SH : List mz_Sh} {LAY : List Nat} {cA : Nat → ClassId} {ad : Nat → Nat} {μ : mz_M} (had : ∀ i j, i < LAY.length → j < LAY.length → ad i = ad j → i = j) : va_D (mz_A LAY ad) (mz_w SH LAY cA ad μ) := by
  have key : ∀ (k : Nat) (q : Nat × va_E), (mz_w SH LAY cA ad μ)[k]? = some q → k < LAY.length ∧ q.1 = ad k := by
    intro k q hk
    have hl : k < LAY.length := by
      have := (List.getElem?_eq_some_iff.mp hk).1
      rwa [mz_w_len] at this
    unfold mz_w at hk
    rw [List.getElem?_map, List.getElem?_range hl] at hk
    cases hk
    exact ⟨hl, rfl⟩
  refine ⟨fun i j x y hi hj hxy => ?_, fun k q hk => ⟨k, (key k q hk).1, (key k q hk).2⟩⟩
  obtain ⟨a1, a2⟩ := key i x hi
  obtain ⟨b1, b2⟩ := key j y hj
  exact had i j a1 b1 (by rw [← a2, ← b2]; exact hxy)
/-! Locals. -/
def mz_lc (ad : Nat → Nat) (L : mz_Lo) : List (Nat × Value) := L.map (fun q => (q.1, mz_cv ad q.2))
theorem mz_has_sub {ls : Array Slot} {n : Nat} {l l' : List (Nat × Value)} (h : lv_has ls n l) (hs : ∀ q ∈ l', q ∈ l) : lv_has ls n l' := ⟨h.1, h.2.1, fun q hq => h.2.2 q (hs q hq)⟩
theorem mz_lk_mem {v : mz_V} {i : Nat} : ∀ {L : mz_Lo}, mz_lk L i = some v → (i, v) ∈ L
  | [], h => by cases h
  | q :: r, h => by
    unfold mz_lk at h
    cases hb : Nat.beq q.1 i with
    | true =>
      rw [hb] at h
      have e : q.1 = i := Nat.eq_of_beq_eq_true hb
      obtain ⟨a, b⟩ := q
      cases e
      cases h
      exact List.mem_cons_self
    | false =>
      rw [hb] at h
      exact List.mem_cons_of_mem _ (mz_lk_mem h)
theorem mz_has_at {ad : Nat → Nat} {ls : Array Slot} {n i : Nat} {L : mz_Lo} {v : mz_V} (h : lv_has ls n (mz_lc ad L)) (hk : mz_lk L i = some v) : ls[i]? = some (.val (mz_cv ad v)) :=
  h.2.2 (i, mz_cv ad v) (List.mem_map.mpr ⟨(i, v), mz_lk_mem hk, rfl⟩)
theorem mz_ins_mem {i : Nat} {v : mz_V} {q : Nat × mz_V} : ∀ {L : mz_Lo}, q ∈ mz_ins i v L → q = (i, v) ∨ q ∈ L
  | [], h => by
    rcases List.mem_cons.mp h with h | h
    · exact Or.inl h
    · cases h
  | z :: r, h => by
    unfold mz_ins at h
    cases hb : Nat.ble z.1 i with
    | true =>
      rw [hb] at h
      rcases List.mem_cons.mp h with h | h
      · exact Or.inr (h ▸ List.mem_cons_self)
      · rcases mz_ins_mem h with h | h
        · exact Or.inl h
        · exact Or.inr (List.mem_cons_of_mem _ h)
    | false =>
      rw [hb] at h
      rcases List.mem_cons.mp h with h | h
      · exact Or.inl h
      · exact Or.inr h
theorem mz_rm_mem {i : Nat} {w : Bool} {q : Nat × mz_V} : ∀ {L : mz_Lo}, q ∈ mz_rm i w L → q ∈ L ∧ q.1 ≠ i ∧ (w = true → q.1 ≠ i + 1) ∧ ¬ (q.1 + 1 = i ∧ mz_cat q.2 = 2)
  | [], h => by cases h
  | z :: r, h => by
    unfold mz_rm at h
    cases hb : (Nat.beq z.1 i || (w && Nat.beq z.1 (i + 1)) || (Nat.beq (z.1 + 1) i && Nat.beq (mz_cat z.2) 2)) with
    | true =>
      rw [hb] at h
      obtain ⟨a, b⟩ := mz_rm_mem h
      exact ⟨List.mem_cons_of_mem _ a, b⟩
    | false =>
      rw [hb] at h
      rcases List.mem_cons.mp h with h | h
      · subst h
        simp only [Bool.or_eq_false_iff, Bool.and_eq_false_iff] at hb
        refine ⟨List.mem_cons_self, fun e => ?_, fun hw e => ?_, fun ⟨e1, e2⟩ => ?_⟩
        · rw [e] at hb; simp at hb
        · rw [e, hw] at hb; simp at hb
        · rw [e1, e2] at hb; simp at hb
      · obtain ⟨a, b⟩ := mz_rm_mem h
        exact ⟨List.mem_cons_of_mem _ a, b⟩
theorem mz_kl_mem {ks : List Nat} {q : Nat × mz_V} : ∀ {L : mz_Lo}, q ∈ mz_kl ks L → q ∈ L
  | [], h => by cases h
  | z :: r, h => by
    unfold mz_kl at h
    cases hb : mz_el z.1 ks with
    | true =>
      rw [hb] at h
      rcases List.mem_cons.mp h with h | h
      · exact h ▸ List.mem_cons_self
      · exact List.mem_cons_of_mem _ (mz_kl_mem h)
    | false =>
      rw [hb] at h
      exact List.mem_cons_of_mem _ (mz_kl_mem h)
theorem mz_kp_mem {o : Option (List Nat)} {q : Nat × mz_V} {L : mz_Lo} (h : q ∈ mz_kp o L) : q ∈ L := by
  cases o with
  | none => exact h
  | some ks => exact mz_kl_mem h
theorem mz_cat_cv (ad : Nat → Nat) (v : mz_V) : (mz_cv ad v).category = mz_cat v := by
  match v with
  | .inl _ => rfl
  | .inr (.inl _) => rfl
  | .inr (.inr (_, _)) => rfl
theorem mz_has_kp {ad : Nat → Nat} {ls : Array Slot} {n : Nat} {L : mz_Lo} (o : Option (List Nat)) (h : lv_has ls n (mz_lc ad L)) : lv_has ls n (mz_lc ad (mz_kp o L)) :=
  mz_has_sub h (fun q hq => by
    obtain ⟨z, h1, h2⟩ := List.mem_map.mp hq
    exact List.mem_map.mpr ⟨z, mz_kp_mem h1, h2⟩)
theorem mz_has_st1 {ad : Nat → Nat} {ls : Array Slot} {n i : Nat} {L : mz_Lo} {v : mz_V} (o : Option (List Nat)) (h : lv_has ls n ((i, mz_cv ad v) :: (mz_lc ad L).filter (fun q => !(q.1 == i) && !(q.1 + 1 == i && q.2.category == 2)))) : lv_has ls n (mz_lc ad (mz_kp o (mz_st1 L i v))) := by
  refine mz_has_kp o (mz_has_sub h (fun q hq => ?_))
  obtain ⟨z, h1, rfl⟩ := List.mem_map.mp hq
  rcases mz_ins_mem h1 with rfl | h1
  · exact List.mem_cons_self
  · obtain ⟨a1, a2, -, a4⟩ := mz_rm_mem h1
    refine List.mem_cons_of_mem _ (List.mem_filter.mpr ⟨List.mem_map.mpr ⟨z, a1, rfl⟩, ?_⟩)
    rw [mz_cat_cv]
    simp only [Bool.and_eq_true, Bool.not_eq_true', beq_eq_false_iff_ne, ne_eq, Bool.and_eq_false_iff]
    refine ⟨a2, ?_⟩
    by_cases e : z.1 + 1 = i
    · exact Or.inr (fun e2 => a4 ⟨e, e2⟩)
    · exact Or.inl e
theorem mz_has_st2 {ad : Nat → Nat} {ls : Array Slot} {n i : Nat} {L : mz_Lo} {v : mz_V} (o : Option (List Nat)) (h : lv_has ls n ((i, mz_cv ad v) :: (mz_lc ad L).filter (fun q => !(q.1 == i) && (!(q.1 == i + 1) && !(q.1 + 1 == i && q.2.category == 2))))) : lv_has ls n (mz_lc ad (mz_kp o (mz_st2 L i v))) := by
  refine mz_has_kp o (mz_has_sub h (fun q hq => ?_))
  obtain ⟨z, h1, rfl⟩ := List.mem_map.mp hq
  rcases mz_ins_mem h1 with rfl | h1
  · exact List.mem_cons_self
  · obtain ⟨a1, a2, a3, a4⟩ := mz_rm_mem h1
    refine List.mem_cons_of_mem _ (List.mem_filter.mpr ⟨List.mem_map.mpr ⟨z, a1, rfl⟩, ?_⟩)
    rw [mz_cat_cv]
    simp only [Bool.and_eq_true, Bool.not_eq_true', beq_eq_false_iff_ne, ne_eq, Bool.and_eq_false_iff]
    refine ⟨a2, a3 rfl, ?_⟩
    by_cases e : z.1 + 1 = i
    · exact Or.inr (fun e2 => a4 ⟨e, e2⟩)
    · exact Or.inl e
def mz_vl (LAY : List Nat) (L : mz_Lo) : Prop := ∀ q ∈ L, mz_vd LAY q.2
def mz_vs (LAY : List Nat) (st : List mz_V) : Prop := ∀ v ∈ st, mz_vd LAY v
theorem mz_vl_kp {LAY : List Nat} {L : mz_Lo} (o : Option (List Nat)) (h : mz_vl LAY L) : mz_vl LAY (mz_kp o L) := fun q hq => h q (mz_kp_mem hq)
theorem mz_vl_st1 {LAY : List Nat} {L : mz_Lo} (o : Option (List Nat)) {i : Nat} {v : mz_V} (h : mz_vl LAY L) (hv : mz_vd LAY v) : mz_vl LAY (mz_kp o (mz_st1 L i v)) := mz_vl_kp o (fun q hq => by
  rcases mz_ins_mem hq with rfl | h1
  · exact hv
  · exact h q (mz_rm_mem h1).1)
theorem mz_vl_st2 {LAY : List Nat} {L : mz_Lo} (o : Option (List Nat)) {i : Nat} {v : mz_V} (h : mz_vl LAY L) (hv : mz_vd LAY v) : mz_vl LAY (mz_kp o (mz_st2 L i v)) := mz_vl_kp o (fun q hq => by
  rcases mz_ins_mem hq with rfl | h1
  · exact hv
  · exact h q (mz_rm_mem h1).1)
theorem mz_vl_lk {LAY : List Nat} {L : mz_Lo} {i : Nat} {v : mz_V} (h : mz_vl LAY L) (hk : mz_lk L i = some v) : mz_vd LAY v := h _ (mz_lk_mem hk)
theorem mz_vs_c {LAY : List Nat} {st : List mz_V} {v : mz_V} (hv : mz_vd LAY v) (h : mz_vs LAY st) : mz_vs LAY (v :: st) := fun w hw => by
  rcases List.mem_cons.mp hw with rfl | hw
  · exact hv
  · exact h w hw
theorem mz_vs_t {LAY : List Nat} {st : List mz_V} {v : mz_V} (h : mz_vs LAY (v :: st)) : mz_vs LAY st := fun w hw => h w (List.mem_cons_of_mem _ hw)
theorem mz_vs_h {LAY : List Nat} {st : List mz_V} {v : mz_V} (h : mz_vs LAY (v :: st)) : mz_vd LAY v := h v List.mem_cons_self
end
section
/-! What must hold of a method's rows beside the tables: a program checks it. -/
/-- name, bytes, locals, answer's type, arguments without the object, static, places of its words in the tables (code, initialized, static or instanceMethod, selects), rows -/
abbrev mz_Me : Type := MethodName × ByteArray × Nat × Option FieldType × Nat × Bool × List Nat × mz_T
def mz_lw (TBL : List Jvm.Cond) (pl : Nat) (w : Jvm.Cond) : Bool := decide (TBL[pl]? = some w)
def mz_prs (pc : Nat) : Int → List Int → List (Nat × Nat)
  | _, [] => []
  | lo, o :: r => (lo.toNat, ((pc : Int) + o).toNat) :: mz_prs pc (lo + 1) r
def mz_prl (pc : Nat) : List (Int × Int) → List (Nat × Nat)
  | [] => []
  | q :: r => (q.1.toNat, ((pc : Int) + q.2).toNat) :: mz_prl pc r
def mz_oka (TBL : List Jvm.Cond) (host : String) (MS : List mz_Me) (own : String) (idx : Nat) (st : Bool) (a : List Nat) : Bool := match a with
  | [y, n, _, _, ml, nest, pl] => (match mz_nth MS y with
    | some me => decide (me.2.2.2.2.2.1 = st) && decide (n = me.2.2.2.2.1 + (bif st then 0 else 1)) && decide (ml = me.2.2.1) && (match nest with
      | 0 => mz_lw TBL pl (.methodLink own idx me.1)
      | _ + 1 => mz_lw TBL pl (.methodLinkNest own idx me.1 host))
    | none => false)
  | _ => false
def mz_okc (TBL : List Jvm.Cond) (host : String) (cls : List vw_C) (own : String) (idx : Nat) (ci f nest pl : Nat) : Bool := match cls[ci]? with
  | some q => decide (f < q.2.2) && (match nest with
    | 0 => mz_lw TBL pl (.fieldLink own idx (q.2.1 f).1 (q.2.1 f).2.1 (q.2.1 f).2.2.1)
    | _ + 1 => mz_lw TBL pl (.fieldLinkNest own idx (q.2.1 f).1 (q.2.1 f).2.1 (q.2.1 f).2.2.1 host))
  | none => false
def mz_okac (TBL : List Jvm.Cond) (own : String) (k : Nat) (a : List Nat) : Bool := match a with
  | [p0, p1, p2, p3] => mz_lw TBL p0 (.methodLink own k arraycopyName) && mz_lw TBL p1 (.native arraycopyName) && mz_lw TBL p2 (.static arraycopyName) && mz_lw TBL p3 (.initialized "java/lang/System")
  | _ => false
set_option maxHeartbeats 1000000 in
def mz_ok (TBL : List Jvm.Cond) (host : String) (cls : List vw_C) (MS : List mz_Me) (me : mz_Me) (pc : Nat) (e : mz_E) : Bool :=
  decide (decode me.2.1 pc = .ok (e.1, e.2.1)) && (match e with
  | (i, len, c, cl, a, ps, kt, kn) => match i with
    | .iconst n => decide (len = 1) && decide (Int32.ofInt n = c)
    | .bipush n => decide (len = 2) && decide ((Int8.ofInt n).toInt32 = c)
    | .sipush n => decide (len = 3) && decide ((Int16.ofInt n).toInt32 = c)
    | .ldc k => decide (len = 2) && mz_lw TBL (mz_a0 a) (.constant me.1.cls k c)
    | .ldc_w k => decide (len = 3) && mz_lw TBL (mz_a0 a) (.constant me.1.cls k c)
    | .lconst n => decide (len = 1) && decide (Int64.ofNat (n : Nat) = cl)
    | .ldc2_w k => decide (len = 3) && mz_lw TBL (mz_a0 a) (.constantLong me.1.cls k cl)
    | .iload_n k => decide (len = 1) && decide ((k : Nat) = mz_a0 a)
    | .iload k => decide (len = 2) && decide (k = mz_a0 a)
    | .lload_n k => decide (len = 1) && decide ((k : Nat) = mz_a0 a)
    | .lload k => decide (len = 2) && decide (k = mz_a0 a)
    | .aload_n k => decide (len = 1) && decide ((k : Nat) = mz_a0 a)
    | .aload k => decide (len = 2) && decide (k = mz_a0 a)
    | .istore_n k => decide (len = 1) && decide ((k : Nat) = mz_a0 a) && decide (mz_a0 a < me.2.2.1)
    | .istore k => decide (len = 2) && decide (k = mz_a0 a) && decide (mz_a0 a < me.2.2.1)
    | .lstore_n k => decide (len = 1) && decide ((k : Nat) = mz_a0 a) && decide (mz_a0 a + 1 < me.2.2.1)
    | .lstore k => decide (len = 2) && decide (k = mz_a0 a) && decide (mz_a0 a + 1 < me.2.2.1)
    | .astore_n k => decide (len = 1) && decide ((k : Nat) = mz_a0 a) && decide (mz_a0 a < me.2.2.1)
    | .astore k => decide (len = 2) && decide (k = mz_a0 a) && decide (mz_a0 a < me.2.2.1)
    | .iinc k n => decide (len = 3) && decide (k = mz_a0 a) && decide (mz_a0 a < me.2.2.1) && decide (Int32.ofInt n = c)
    | .goto off => decide (len = 3) && decide ((pc : Int) + off = (mz_a0 a : Int))
    | .if_icmp _ off => decide (len = 3) && decide ((pc : Int) + off = (mz_a0 a : Int))
    | .ifCond _ off => decide (len = 3) && decide ((pc : Int) + off = (mz_a0 a : Int))
    | .tableswitch d lo hi offs => decide ((pc : Int) + d = (mz_a0 a : Int)) && decide (ps = mz_prs pc lo offs.toList) && decide (hi = lo + offs.toList.length - 1) && decide (0 ≤ lo) && decide (hi < 2147483648) && offs.toList.all (fun o => decide (0 ≤ (pc : Int) + o))
    | .lookupswitch d prs => decide ((pc : Int) + d = (mz_a0 a : Int)) && decide (ps = mz_prl pc prs.toList) && (prs.toList.zip (prs.toList.drop 1)).all (fun (a, next) => a.1 < next.1) && prs.toList.all (fun q => decide (0 ≤ q.1) && decide (q.1 < 2147483648) && decide (0 ≤ (pc : Int) + q.2))
    | .getfield k => decide (len = 3) && (match a with
      | [ci, f, nest, pl] => mz_okc TBL host cls me.1.cls k ci f nest pl
      | _ => false)
    | .putfield k => decide (len = 3) && (match a with
      | [ci, f, b, nest, pl] => mz_okc TBL host cls me.1.cls k ci f nest pl && (match cls[ci]? with
        | some q => decide ((q.2.1 f).2.2.2 = false) && decide (parseFieldDescriptor (q.2.1 f).2.2.1 = some (match b with
          | 0 => .int
          | _ + 1 => .boolean))
        | none => false)
      | _ => false)
    | .invokevirtual k => decide (len = 3) && (match a with
      | cj :: a' => mz_oka TBL host MS me.1.cls k false a' && (match cls[cj]?, mz_nth MS (mz_a0 a') with
        | some q, some me' => decide (q.1 = me'.1.cls)
        | _, _ => false)
      | [] => false)
    | .invokestatic k => decide (len = 3) && (match a with
      | 0 :: a' => mz_okac TBL me.1.cls k a'
      | _ :: a' => mz_oka TBL host MS me.1.cls k true a'
      | [] => false)
    | .ireturn => decide (len = 1) && decide (me.2.2.2.1 = some (match mz_a0 a with
          | 0 => .int
          | _ + 1 => .boolean))
    | .lreturn => decide (len = 1) && decide (me.2.2.2.1 = some .long)
    | .areturn => decide (len = 1) && (match me.2.2.2.1 with
      | some (.object _) => true
      | _ => false)
    | .return_ => decide (len = 1) && decide (me.2.2.2.1 = none)
    | _ => decide (len = 1))
def mz_okR (TBL : List Jvm.Cond) (host : String) (cls : List vw_C) (MS : List mz_Me) (me : mz_Me) : Nat → mz_T → Bool
  | _, [] => true
  | pc, none :: r => mz_okR TBL host cls MS me (pc + 1) r
  | pc, some e :: r => mz_ok TBL host cls MS me pc e && mz_okR TBL host cls MS me (pc + 1) r
def mz_okM (TBL : List Jvm.Cond) (host : String) (cls : List vw_C) (MS : List mz_Me) (me : mz_Me) : Bool :=
  (match me.2.2.2.2.2.2.1 with
  | [p0, p1, p2, p3] => mz_lw TBL p0 (.code me.1 me.2.1 me.2.2.1 me.2.2.2.1) && mz_lw TBL p1 (.initialized me.1.cls) && (bif me.2.2.2.2.2.1 then mz_lw TBL p2 (.static me.1) else mz_lw TBL p2 (.instanceMethod me.1) && mz_lw TBL p3 (.selects me.1.cls me.1 me.1))
  | _ => false) && plainName me.1.cls && decide (me.1.cls ≠ "java/lang/invoke/MethodHandle" ∧ me.1.cls ≠ "java/lang/invoke/VarHandle") && decide ((parseMethodDescriptor me.1.desc).map (fun d => d.parameters.length) = some me.2.2.2.2.1) && decide (me.2.2.1 ≤ 30) && mz_okR TBL host cls MS me 0 me.2.2.2.2.2.2.2
theorem mz_okR_at {TBL : List Jvm.Cond} {host : String} {cls : List vw_C} {MS : List mz_Me} {me : mz_Me} {e : mz_E} : ∀ {t : mz_T} {n k : Nat}, mz_okR TBL host cls MS me n t = true → mz_nth t k = some (some e) → mz_ok TBL host cls MS me (n + k) e = true
  | [], _, _, _, h => by cases h
  | none :: r, n, 0, _, h => by cases h
  | some e' :: r, n, 0, h1, h => by
    cases h
    unfold mz_okR at h1
    rw [Bool.and_eq_true] at h1
    exact h1.1
  | none :: r, n, k + 1, h1, h => by
    have := mz_okR_at (t := r) (n := n + 1) (k := k) h1 h
    rwa [show n + 1 + k = n + (k + 1) by omega] at this
  | some e' :: r, n, k + 1, h1, h => by
    unfold mz_okR at h1
    rw [Bool.and_eq_true] at h1
    have := mz_okR_at (t := r) (n := n + 1) (k := k) h1.2 h
    rwa [show n + 1 + k = n + (k + 1) by omega] at this
def mz_nest : Jvm.Cond → Bool
  | .fieldLinkNest .. => true
  | .methodLinkNest .. => true
  | _ => false
/-- the words on nest mates, which are not kept among the others -/
def mz_NW (TBL : List Jvm.Cond) (U : State) : Prop := ∀ w ∈ TBL, mz_nest w = true → va_Nw w U
theorem mz_NW.warm {TBL : List Jvm.Cond} {s U : State} (hW : s.WarmedH U.vm) (h : mz_NW TBL s) : mz_NW TBL U := by
  intro w hw hn
  have h1 := h w hw hn
  cases w <;> first | (cases hn; done) | exact va_Nw.warmF hW h1 | exact va_Nw.warmM hW h1
theorem mz_NW.same {TBL : List Jvm.Cond} {s U : State} (hv : s.vm = U.vm) (h : mz_NW TBL s) : mz_NW TBL U := by
  intro w hw hn
  have h1 := h w hw hn
  cases w <;> first | (cases hn; done) | exact va_Nw.same rfl hv h1
end
section
theorem mz_p1_i {st : List mz_V} {f : Int32 → List mz_V → Prop} (h : mz_p1 st f) : ∃ x r, st = mz_I x :: r ∧ f x r := by
  match st, h with
  | .inl x :: r, h => exact ⟨x, r, rfl, h⟩
theorem mz_p2_i {st : List mz_V} {f : Int32 → Int32 → List mz_V → Prop} (h : mz_p2 st f) : ∃ x y r, st = mz_I y :: mz_I x :: r ∧ f x y r := by
  match st, h with
  | .inl y :: .inl x :: r, h => exact ⟨x, y, r, rfl, h⟩
theorem mz_g1_i {st : List mz_V} {f : Int64 → List mz_V → Prop} (h : mz_g1 st f) : ∃ x r, st = mz_L x :: r ∧ f x r := by
  match st, h with
  | .inr (.inl x) :: r, h => exact ⟨x, r, rfl, h⟩
theorem mz_g2_i {st : List mz_V} {f : Int64 → Int64 → List mz_V → Prop} (h : mz_g2 st f) : ∃ x y r, st = mz_L y :: mz_L x :: r ∧ f x y r := by
  match st, h with
  | .inr (.inl y) :: .inr (.inl x) :: r, h => exact ⟨x, y, r, rfl, h⟩
theorem mz_h1_i {st : List mz_V} {f : Nat → Nat → List mz_V → Prop} (h : mz_h1 st f) : ∃ t p r, st = mz_R t p :: r ∧ f t p r := by
  match st, h with
  | .inr (.inr (t, p)) :: r, h => exact ⟨t, p, r, rfl, h⟩
theorem mz_li_i {L : mz_Lo} {i : Nat} {f : Int32 → Prop} (h : mz_li L i f) : ∃ x, mz_lk L i = some (mz_I x) ∧ f x := by
  unfold mz_li at h
  match hk : mz_lk L i, h with
  | some (.inl x), h => exact ⟨x, rfl, h⟩
theorem mz_ll_i {L : mz_Lo} {i : Nat} {f : Int64 → Prop} (h : mz_ll L i f) : ∃ x, mz_lk L i = some (mz_L x) ∧ f x := by
  unfold mz_ll at h
  match hk : mz_lk L i, h with
  | some (.inr (.inl x)), h => exact ⟨x, rfl, h⟩
theorem mz_lr_i {L : mz_Lo} {i : Nat} {f : Nat → Nat → Prop} (h : mz_lr L i f) : ∃ t p, mz_lk L i = some (mz_R t p) ∧ f t p := by
  unfold mz_lr at h
  match hk : mz_lk L i, h with
  | some (.inr (.inr (t, p))), h => exact ⟨t, p, rfl, h⟩
theorem mz_ite_t {c A B : Prop} [Decidable c] (h : if c then A else B) (hc : c) : A := by rwa [if_pos hc] at h
theorem mz_ite_f {c A B : Prop} [Decidable c] (h : if c then A else B) (hc : ¬ c) : B := by rwa [if_neg hc] at h
theorem mz_bif_i {b : Bool} {A : Prop} (h : bif b then A else False) : b = true ∧ A := by
  cases b
  · exact h.elim
  · exact ⟨rfl, h⟩
theorem mz_sw_i {x : Int32} {K : Nat → Prop} {d : Nat} : ∀ {ps : List (Nat × Nat)}, mz_sw x K d ps → (∃ q ∈ ps, x = nI q.1 ∧ K q.2) ∨ ((∀ q ∈ ps, ¬ x = nI q.1) ∧ K d)
  | [], h => Or.inr ⟨fun _ z => absurd z List.not_mem_nil, h⟩
  | q :: r, h => by
    unfold mz_sw at h
    by_cases hq : x = nI q.1
    · rw [if_pos hq] at h
      exact Or.inl ⟨q, List.mem_cons_self, hq, h⟩
    · rw [if_neg hq] at h
      rcases mz_sw_i h with ⟨z, h1, h2⟩ | ⟨h1, h2⟩
      · exact Or.inl ⟨z, List.mem_cons_of_mem _ h1, h2⟩
      · refine Or.inr ⟨fun z hz => ?_, h2⟩
        rcases List.mem_cons.mp hz with rfl | hz
        · exact hq
        · exact h1 z hz
theorem mz_an_i {k t : Nat} {R : Option mz_V → mz_M → Prop} {f : List mz_V → mz_M → Prop} (h : mz_an k t R f) : ∃ r μ, R r μ ∧ f r.toList μ := by
  match k, h with
  | 0, ⟨μ, a, b⟩ => exact ⟨none, μ, a, b⟩
  | 1, ⟨x, μ, a, b⟩ => exact ⟨some (mz_I x), μ, a, b⟩
  | 2, ⟨x, μ, a, b⟩ => exact ⟨some (mz_L x), μ, a, b⟩
  | _ + 3, ⟨x, μ, a, b⟩ => exact ⟨some (mz_R t x), μ, a, b⟩
theorem mz_tk_i {as rest : List mz_V} : ∀ {n : Nat} {acc st : List mz_V}, mz_tk n acc st = some (as, rest) → ∃ xs : List mz_V, xs.length = n ∧ st = xs ++ rest ∧ as = xs.reverse ++ acc
  | 0, acc, st, h => by
    unfold mz_tk at h
    cases h
    exact ⟨[], rfl, rfl, rfl⟩
  | n + 1, acc, [], h => by cases h
  | n + 1, acc, v :: st, h => by
    unfold mz_tk at h
    obtain ⟨xs, h1, h2, h3⟩ := mz_tk_i h
    refine ⟨v :: xs, by rw [List.length_cons, h1], by rw [h2]; rfl, ?_⟩
    rw [h3, List.reverse_cons, List.append_assoc]
    rfl
theorem mz_cl_i {C : mz_Cl} {g : List mz_V → Bool} {y n k t ml : Nat} {a' : List Nat} {st : List mz_V} {μ : mz_M} {f : List mz_V → mz_M → Prop} (h : mz_cl C g (y :: n :: k :: t :: ml :: a') st μ f) : ∃ (as rest : List mz_V) (r : Option mz_V) (μ' : mz_M), as.length = n ∧ st = as.reverse ++ rest ∧ mz_cs rest ≤ 8 ∧ mz_cs as ≤ ml ∧ g as = true ∧ C y as μ r μ' ∧ f (r.toList ++ rest) μ' := by
  unfold mz_cl at h
  dsimp only at h
  match hk : mz_tk n [] st, h with
  | some (as, rest), h =>
    obtain ⟨hb, h⟩ := mz_bif_i h
    obtain ⟨r, μ', h1, h2⟩ := mz_an_i h
    obtain ⟨xs, e1, e2, e3⟩ := mz_tk_i hk
    rw [List.append_nil] at e3
    rw [Bool.and_eq_true, Bool.and_eq_true] at hb
    refine ⟨as, rest, r, μ', by rw [e3, List.length_reverse, e1], by rw [e3, List.reverse_reverse, e2], Nat.le_of_ble_eq_true hb.1.1, Nat.le_of_ble_eq_true hb.1.2, hb.2, h1, h2⟩
theorem mz_cs_sum {ad : Nat → Nat} : ∀ (st : List mz_V), ((st.map (mz_cv ad)).map fun v => v.category).sum = mz_cs st
  | [] => rfl
  | v :: r => by
    rw [List.map_cons, List.map_cons, List.sum_cons, mz_cs_sum r, mz_cat_cv]
    rfl
theorem mz_lw_m {TBL : List Jvm.Cond} {pl : Nat} {w : Jvm.Cond} (h : mz_lw TBL pl w = true) : w ∈ TBL := List.mem_of_getElem? (of_decide_eq_true h)
theorem mz_lw_g {TBL : List Jvm.Cond} {pl : Nat} {w : Jvm.Cond} (h : mz_lw TBL pl w = true) (hg : goodWord w = true) : w ∈ TBL.filter goodWord := List.mem_filter.mpr ⟨mz_lw_m h, hg⟩
theorem mz_prs_m {pc : Nat} {q : Nat × Nat} : ∀ {offs : List Int} {lo : Int}, q ∈ mz_prs pc lo offs → ∃ (j : Nat) (o : Int), offs[j]? = some o ∧ q = ((lo + j).toNat, ((pc : Int) + o).toNat)
  | [], _, h => by cases h
  | o :: r, lo, h => by
    unfold mz_prs at h
    rcases List.mem_cons.mp h with rfl | h
    · exact ⟨0, o, rfl, by simp⟩
    · obtain ⟨j, o', h1, h2⟩ := mz_prs_m h
      exact ⟨j + 1, o', by rw [List.getElem?_cons_succ]; exact h1, by rw [h2]; congr 2; omega⟩
theorem mz_prs_in {pc : Nat} : ∀ {offs : List Int} {lo : Int} {j : Nat}, j < offs.length → ∃ q ∈ mz_prs pc lo offs, q.1 = (lo + j).toNat
  | [], _, _, h => by cases h
  | o :: r, lo, 0, _ => ⟨_, List.mem_cons_self, by simp⟩
  | o :: r, lo, j + 1, h => by
    obtain ⟨q, h1, h2⟩ := mz_prs_in (pc := pc) (offs := r) (lo := lo + 1) (j := j) (by simpa using h)
    exact ⟨q, List.mem_cons_of_mem _ h1, by rw [h2]; congr 1; omega⟩
theorem mz_ac_i {SH : List mz_Sh} {st : List mz_V} {fI fL : Nat → Nat → Int32 → Int32 → Int32 → List mz_V → Prop} (h : mz_ac SH st fI fL) : ∃ (n d : Int32) (t1 p1 : Nat) (s : Int32) (t0 p0 : Nat) (r : List mz_V), st = mz_I n :: mz_I d :: mz_R t1 p1 :: mz_I s :: mz_R t0 p0 :: r ∧ mz_cs r ≤ 8 ∧
    ((∃ i0 n0 q0 i1 n1 q1, mz_nth SH t0 = some (.inr (i0, n0, 0, q0)) ∧ mz_nth SH t1 = some (.inr (i1, n1, 0, q1)) ∧ (¬ s < 0 ∧ ¬ d < 0 ∧ ¬ n < 0 ∧ s.toNatClampNeg + n.toNatClampNeg ≤ n0 ∧ d.toNatClampNeg + n.toNatClampNeg ≤ n1) ∧ fI p0 p1 s d n r) ∨
    (∃ i0 n0 q0 i1 n1 q1, mz_nth SH t0 = some (.inr (i0, n0, 1, q0)) ∧ mz_nth SH t1 = some (.inr (i1, n1, 1, q1)) ∧ (¬ s < 0 ∧ ¬ d < 0 ∧ ¬ n < 0 ∧ s.toNatClampNeg + n.toNatClampNeg ≤ n0 ∧ d.toNatClampNeg + n.toNatClampNeg ≤ n1) ∧ fL p0 p1 s d n r)) := by
  unfold mz_ac at h
  split at h
  · next n d t1 p1 s t0 p0 r =>
    split at h
    · next i0 n0 q0 i1 n1 q1 h0 h1 =>
      obtain ⟨hb, hc⟩ := mz_bif_i h.2
      exact ⟨n, d, t1, p1, s, t0, p0, r, rfl, Nat.le_of_ble_eq_true hb, Or.inl ⟨i0, n0, q0, i1, n1, q1, h0, h1, h.1, hc⟩⟩
    · next i0 n0 q0 i1 n1 q1 h0 h1 =>
      obtain ⟨hb, hc⟩ := mz_bif_i h.2
      exact ⟨n, d, t1, p1, s, t0, p0, r, rfl, Nat.le_of_ble_eq_true hb, Or.inr ⟨i0, n0, q0, i1, n1, q1, h0, h1, h.1, hc⟩⟩
    · exact h.elim
  · exact h.elim
end
section
/-! The second machine's runs are the machine's. -/
def mz_ty (ats : List FieldType) (cA : Nat → ClassId) : List (ClassId × FieldType) := (List.range ats.length).map (fun i => (cA i, ats.getD i .int))
theorem mz_ty_at {ats : List FieldType} {cA : Nat → ClassId} {i : Nat} {ty : FieldType} (h : ats[i]? = some ty) : (mz_ty ats cA)[i]? = some (cA i, ty) := by
  have hl := (List.getElem?_eq_some_iff.mp h).1
  unfold mz_ty
  rw [List.getElem?_map, List.getElem?_range hl]
  show some (cA i, ats.getD i FieldType.int) = _
  rw [List.getD_eq_getElem?_getD, h]
  rfl
def mz_room (d : Nat) : Room := { frames := d, cells := 0, slots := 0, locals := 60 * d + 100 }
def mz_ws (TBL : List Jvm.Cond) (me : mz_Me) : List Jvm.Cond := Jvm.Cond.code me.1 me.2.1 me.2.2.1 me.2.2.2.1 :: TBL.filter goodWord
def mz_Pc (SH : List mz_Sh) (LAY : List Nat) (cA : Nat → ClassId) (ad : Nat → Nat) (D : va_G) (cls : List vw_C) (TBL : List Jvm.Cond) (ats : List FieldType) (a : List mz_V) (μ : mz_M) : Array Value → State → Prop :=
  va_Pc (a.map (mz_cv ad)) (fun U => va_P D cls (mz_w SH LAY cA ad μ) U.heap ∧ va_K D cls (mz_ty ats cA) U ∧ mz_NW TBL U)
def mz_QC (SH : List mz_Sh) (LAY : List Nat) (cA : Nat → ClassId) (ad : Nat → Nat) (D : va_G) (cls : List vw_C) (r : Option mz_V) (μ' : mz_M) : Array Value → State → Outcome → State → Prop :=
  fun _ st oc t => oc = .returned (r.map (mz_cv ad)) ∧ (∀ v, r = some v → mz_vd LAY v) ∧ va_P D cls (mz_w SH LAY cA ad μ') t.heap ∧ va_F (mz_A LAY ad) st t
/-- what is fixed: addresses apart; the layout is closed; rows' types; the classes' words -/
def mz_Wd (SH : List mz_Sh) (LAY : List Nat) (ad : Nat → Nat) (cls : List vw_C) (TBL : List Jvm.Cond) (ats : List FieldType) : Prop :=
  (∀ i j, i < LAY.length → j < LAY.length → ad i = ad j → i = j) ∧
  (∀ (p t ci : Nat) (fs : List mz_F) (k : Nat) (b : Bool) (off t' : Nat), LAY[p]? = some t → mz_nth SH t = some (.inl (ci, fs)) → mz_nth fs k = some (some (b, off, t')) → LAY[mz_pl b p off]? = some t') ∧
  (∀ (p t ti n t' : Nat) (b : Bool) (off w i : Nat), LAY[p]? = some t → mz_nth SH t = some (.inr (ti, n, 2, t', b, off, w)) → i < n → LAY[mz_pl b p off + w * i]? = some t') ∧
  (∀ t ti n q, mz_nth SH t = some (.inr (ti, n, 0, q)) → ats[ti]? = some .int) ∧
  (∀ t ti n q, mz_nth SH t = some (.inr (ti, n, 1, q)) → ats[ti]? = some .long) ∧
  (∀ t ti n q, mz_nth SH t = some (.inr (ti, n, 2, q)) → ∃ C, ats[ti]? = some (.object C)) ∧
  (∀ t ti n k q, mz_nth SH t = some (.inr (ti, n, k, q)) → k ≤ 2) ∧
  (∀ (ci : Nat) (q : vw_C), cls[ci]? = some q → (∀ w ∈ u_ws q.1 q.2.1 q.2.2, w ∈ TBL.filter goodWord) ∧ ∃ ty0 : Nat → FieldType, (∀ k, k < q.2.2 → parseFieldDescriptor (q.2.1 k).2.2.1 = some (ty0 k)) ∧ ∀ a, a < q.2.2 → ∀ b, b < q.2.2 → a ≠ b → (q.2.1 a).2.1 ≠ (q.2.1 b).2.1)
section MZS
variable {p : Program} {l : Launch} {e : Env} {s : State} {m : MethodId} {args : Array Value} {below : List Frame} {meth : Method} {c : Code} {d : Nat}
variable {SH : List mz_Sh} {LAY : List Nat} {cA : Nat → ClassId} {ad : Nat → Nat} {D : va_G} {cls : List vw_C} {TBL : List Jvm.Cond} {host : String} {MS : List mz_Me} {ats : List FieldType}
/-- a method is being run -/
def mz_Cx (p : Program) (s : State) (m : MethodId) (args : Array Value) (meth : Method) (c : Code) (cA : Nat → ClassId) (D : va_G) (cls : List vw_C) (TBL : List Jvm.Cond) (ats : List FieldType) (me : mz_Me) : Prop :=
  p.tables.exec = Jvm.exec ∧ c.code = me.2.1 ∧ c.maxLocals = me.2.2.1 ∧ s.vm.findClass me.1.cls = some m.cls ∧ (∀ w ∈ mz_ws TBL me, w.before args s = true) ∧ meth.sig.returnType = me.2.2.2.1 ∧ meth.locks = false ∧ va_K D cls (mz_ty ats cA) s ∧ mz_NW TBL s
def mz_PW (p : Program) (l : Launch) (e : Env) (R : Room) (s : State) (m : MethodId) (args : Array Value) (below : List Frame) (meth : Method) (c : Code) (SH : List mz_Sh) (LAY : List Nat) (cA : Nat → ClassId) (ad : Nat → Nat) (D : va_G) (cls : List vw_C) (nL : Nat) (Qf : State → Prop) (z : mz_S) : Prop :=
  ∀ (H : Heap) (locs : List Loc) (ls : Array Slot), lv_has ls nL (mz_lc ad z.2.1) → mz_vl LAY z.2.1 → mz_vs LAY z.2.2.1 → va_P D cls (mz_w SH LAY cA ad z.2.2.2) H → va_S (mz_A LAY ad) s.heap H locs → W p l e R s m args below meth c H locs 0 0 Qf (F0 m z.1 ls (z.2.2.1.map (mz_cv ad)))
theorem mz_call {H : Heap} {locs : List Loc} {R : Room} {a : Array Value} {rest : List Value} {st0 : List Value} {pc : Nat} {ls : Array Slot} {r : Option mz_V} {μ' : mz_M} {Qf : State → Prop}
    (hr : va_Run p l e R s m args below meth c H locs 0 0 0 0 (F0 m pc ls st0) rest (mz_QC SH LAY cA ad D cls r μ' a) (mz_A LAY ad)) (hS : va_S (mz_A LAY ad) s.heap H locs)
    (kk : ∀ (H1 : Heap) (locs1 : List Loc), (∀ v, r = some v → mz_vd LAY v) → va_P D cls (mz_w SH LAY cA ad μ') H1 → va_S (mz_A LAY ad) s.heap H1 locs1 → W p l e R s m args below meth c H1 locs1 0 0 Qf (F0 m (pc + 3) ls ((r.map (mz_cv ad)).toList ++ rest))) : W p l e R s m args below meth c H locs 0 0 Qf (F0 m pc ls st0) := by
  intro T hT X
  obtain ⟨v, st₀, t, T', L, h0, X', hL, e1, e2, ⟨hv, hvd, hp, hz, hk⟩, st⟩ := hr T hT X
  cases hv
  rw [h0] at hz hk
  obtain ⟨t2, a1, b1⟩ := kk T'.heap (locs ++ L) hvd (by rw [e1]; exact hp)
    ⟨Nat.le_trans hS.1 (by rw [e1]; exact hz), fun q h1 h2 => by rw [e1, hk q (Nat.lt_of_lt_of_le h1 hS.1) h2]; exact hS.2.1 q h1 h2, fun q hq => by
      rcases List.mem_append.mp hq with h | h
      · exact hS.2.2 q h
      · exact hL q h⟩ T' rfl X'
  exact ⟨t2, st t2 a1, b1⟩
theorem mz_vs_app {a b : List mz_V} (h1 : ∀ v ∈ a, mz_vd LAY v) (h2 : mz_vs LAY b) : mz_vs LAY (a ++ b) := fun v hv => by
  rcases List.mem_append.mp hv with h | h
  · exact h1 v h
  · exact h2 v h
theorem mz_blind {a : List mz_V} {μ : mz_M} : FrameBlind (mz_Pc SH LAY cA ad D cls TBL ats a μ) := by
  intro a U g mk q
  obtain ⟨h1, h2, h3, h4⟩ := q
  exact ⟨h1, h2, va_K.moved (u := U) (U := U.calling g mk a) (Vm.Alike.refl U.vm) h3, mz_NW.same (s := U) (U := U.calling g mk a) rfl h4⟩
theorem mz_pre {H : Heap} {a : List mz_V} {μ : mz_M} (hP : va_P D cls (mz_w SH LAY cA ad μ) H) (hK : va_K D cls (mz_ty ats cA) s) (hN : mz_NW TBL s) : ∀ U : State, U.heap = H → s.WarmedH U.vm → mz_Pc SH LAY cA ad D cls TBL ats a μ (a.map (mz_cv ad)).toArray U :=
  fun U hU hW => ⟨rfl, by rw [hU]; exact hP, va_K.moved hW.alike hK, mz_NW.warm hW hN⟩
/-- the words of one method among another's -/
theorem mz_good {me me' : mz_Me} (h : Jvm.Cond.code me'.1 me'.2.1 me'.2.2.1 me'.2.2.2.1 ∈ TBL) : GoodIn (mz_ws TBL me) (mz_ws TBL me') := by
  intro w hw
  rcases List.mem_cons.mp hw with rfl | hw
  · exact ⟨List.mem_cons_of_mem _ (List.mem_filter.mpr ⟨h, rfl⟩), Or.inl rfl⟩
  · exact ⟨List.mem_cons_of_mem _ hw, good_of_word (List.mem_filter.mp hw).2⟩
theorem mz_okM_i {me : mz_Me} (h : mz_okM TBL host cls MS me = true) : Jvm.Cond.code me.1 me.2.1 me.2.2.1 me.2.2.2.1 ∈ TBL ∧ Jvm.Cond.initialized me.1.cls ∈ TBL ∧ (me.2.2.2.2.2.1 = true → Jvm.Cond.static me.1 ∈ TBL) ∧ (me.2.2.2.2.2.1 = false → Jvm.Cond.instanceMethod me.1 ∈ TBL ∧ Jvm.Cond.selects me.1.cls me.1 me.1 ∈ TBL) ∧ plainName me.1.cls = true ∧ (me.1.cls ≠ "java/lang/invoke/MethodHandle" ∧ me.1.cls ≠ "java/lang/invoke/VarHandle") ∧ (parseMethodDescriptor me.1.desc).map (fun d => d.parameters.length) = some me.2.2.2.2.1 ∧ me.2.2.1 ≤ 30 ∧ mz_okR TBL host cls MS me 0 me.2.2.2.2.2.2.2 = true := by
  unfold mz_okM at h
  simp only [Bool.and_eq_true] at h
  obtain ⟨⟨⟨⟨⟨h1, h2⟩, h3⟩, h4⟩, h5⟩, h6⟩ := h
  split at h1
  · simp only [Bool.and_eq_true] at h1
    obtain ⟨⟨a1, a2⟩, a3⟩ := h1
    refine ⟨mz_lw_m a1, mz_lw_m a2, fun hs => ?_, fun hs => ?_, h2, of_decide_eq_true h3, of_decide_eq_true h4, of_decide_eq_true h5, h6⟩
    · rw [hs] at a3
      exact mz_lw_m a3
    · rw [hs] at a3
      simp only [cond_false, Bool.and_eq_true] at a3
      exact ⟨mz_lw_m a3.1, mz_lw_m a3.2⟩
  · cases h1
end MZS
end
section
section MZT
variable {p : Program} {l : Launch} {e : Env} {s : State} {m : MethodId} {args : Array Value} {below : List Frame} {meth : Method} {c : Code} {d : Nat}
variable {SH : List mz_Sh} {LAY : List Nat} {cA : Nat → ClassId} {ad : Nat → Nat} {D : va_G} {cls : List vw_C} {TBL : List Jvm.Cond} {host : String} {MS : List mz_Me} {ats : List FieldType}
/-- what is known of the methods that are called: their contracts -/
def mz_Hc (l : Launch) (SH : List mz_Sh) (LAY : List Nat) (cA : Nat → ClassId) (ad : Nat → Nat) (D : va_G) (cls : List vw_C) (TBL : List Jvm.Cond) (MS : List mz_Me) (ats : List FieldType) (d : Nat) (C : mz_Cl) : Prop :=
  ∀ (y : Nat) (a : List mz_V) (μ : mz_M) (r : Option mz_V) (μ' : mz_M) (me : mz_Me), C y a μ r μ' → mz_nth MS y = some me → (∀ v ∈ a, mz_vd LAY v) → mz_cs a ≤ me.2.2.1 → Met l me.1 (mz_ws TBL me) (mz_room d) (mz_Pc SH LAY cA ad D cls TBL ats a μ) (mz_QC SH LAY cA ad D cls r μ') 0 0 (mz_A LAY ad)
theorem mz_getW {R : Room} {H : Heap} {locs : List Loc} {pc : Nat} {ls : Array Slot} {rest : List Value} {μ : mz_M} {me : mz_Me} {Qf : State → Prop} {t pp ci f nest pl idx : Nat} {fs : List mz_F} {g : mz_F}
    (hW : mz_Wd SH LAY ad cls TBL ats) (hX : mz_Cx p s m args meth c cA D cls TBL ats me) (hd : decode me.2.1 pc = .ok (.getfield idx, 3)) (hP : va_P D cls (mz_w SH LAY cA ad μ) H) (hv : LAY[pp]? = some t) (hs : mz_nth SH t = some (.inl (ci, fs))) (hg : mz_nth fs f = some g) (ho : mz_okc TBL host cls me.1.cls idx ci f nest pl = true)
    (k : W p l e R s m args below meth c H locs 0 0 Qf (F0 m (pc + 3) ls (mz_fv ad μ pp f g :: rest))) : W p l e R s m args below meth c H locs 0 0 Qf (F0 m pc ls (.ref (ad pp) :: rest)) := by
  obtain ⟨hx, hb, hml, hown, hts, hr, hlocks, hK, hN⟩ := hX
  obtain ⟨-, -, -, -, -, -, -, hcl⟩ := hW
  unfold mz_okc at ho
  split at ho
  · next q hq =>
    rw [Bool.and_eq_true] at ho
    obtain ⟨h1, h2⟩ := ho
    obtain ⟨hin, ty0, hty, hnm⟩ := hcl ci q hq
    have hin' : ∀ w ∈ u_ws q.1 q.2.1 q.2.2, w ∈ mz_ws TBL me := fun w h => List.mem_cons_of_mem _ (hin w h)
    have he := mz_w_get (cA := cA) (ad := ad) (μ := μ) hv hs
    have hfl : f < fs.length := by
      rw [mz_nth_eq] at hg
      exact (List.getElem?_eq_some_iff.mp hg).1
    have hval : ((List.range fs.length).map (fun k => mz_fv ad μ pp k (fs.getD k none)))[f]? = some (mz_fv ad μ pp f g) := by
      rw [List.getElem?_map, List.getElem?_range hfl]
      show some (mz_fv ad μ pp f (fs.getD f none)) = _
      rw [mz_nth_eq] at hg
      rw [List.getD_eq_getElem?_getD, hg]; rfl
    cases nest with
    | zero => exact va_get hx hb hts hin' hown hK hP pp he hq f (of_decide_eq_true h1) (hts _ (List.mem_cons_of_mem _ (mz_lw_g h2 rfl))) (fun _ h => h) hval hd k
    | succ n => exact va_getN hx hb hts hin' hown hK hP pp he hq f (of_decide_eq_true h1) (va_Nw.use rfl (hN _ (mz_lw_m h2) rfl)) (fun _ h => h) hval hd k
  · cases ho
theorem mz_putW {R : Room} {H : Heap} {locs : List Loc} {pc : Nat} {ls : Array Slot} {rest : List Value} {μ : mz_M} {me : mz_Me} {Qf : State → Prop} {t pp ci f b nest pl idx : Nat} {fs : List mz_F} {x : Int32}
    (hW : mz_Wd SH LAY ad cls TBL ats) (hX : mz_Cx p s m args meth c cA D cls TBL ats me) (hd : decode me.2.1 pc = .ok (.putfield idx, 3)) (hP : va_P D cls (mz_w SH LAY cA ad μ) H) (hS : va_S (mz_A LAY ad) s.heap H locs) (hv : LAY[pp]? = some t) (hs : mz_nth SH t = some (.inl (ci, fs))) (hg : mz_nth fs f = some none) (ho : mz_okc TBL host cls me.1.cls idx ci f nest pl = true)
    (ho2 : ∀ q, cls[ci]? = some q → (q.2.1 f).2.2.2 = false ∧ parseFieldDescriptor (q.2.1 f).2.2.1 = some (match b with
          | 0 => .int
          | _ + 1 => .boolean)) (hbx : b ≠ 0 → x = 0 ∨ x = 1)
    (k : ∀ (H1 : Heap) (locs1 : List Loc), va_P D cls (mz_w SH LAY cA ad (mz_wI μ pp f x)) H1 → va_S (mz_A LAY ad) s.heap H1 locs1 → W p l e R s m args below meth c H1 locs1 0 0 Qf (F0 m (pc + 3) ls rest)) : W p l e R s m args below meth c H locs 0 0 Qf (F0 m pc ls (.int x :: .ref (ad pp) :: rest)) := by
  obtain ⟨hx, hb, hml, hown, hts, hr, hlocks, hK, hN⟩ := hX
  obtain ⟨had, -, -, -, -, -, -, hcl⟩ := hW
  unfold mz_okc at ho
  split at ho
  · next q hq =>
    rw [Bool.and_eq_true] at ho
    obtain ⟨h1, h2⟩ := ho
    obtain ⟨hin, ty0, hty, hnm⟩ := hcl ci q hq
    obtain ⟨hfin, hdesc⟩ := ho2 q hq
    have hin' : ∀ w ∈ u_ws q.1 q.2.1 q.2.2, w ∈ mz_ws TBL me := fun w h => List.mem_cons_of_mem _ (hin w h)
    have he := mz_w_get (cA := cA) (ad := ad) (μ := μ) hv hs
    have hfl : f < fs.length := by
      rw [mz_nth_eq] at hg
      exact (List.getElem?_eq_some_iff.mp hg).1
    have hgd : fs.getD f none = none := by
      rw [mz_nth_eq] at hg
      rw [List.getD_eq_getElem?_getD, hg]; rfl
    have hset : ((List.range fs.length).map (fun k => mz_fv ad μ pp k (fs.getD k none))).set f (.int x) = (List.range fs.length).map (fun k => mz_fv ad (mz_wI μ pp f x) pp k (fs.getD k none)) := by
      apply List.ext_getElem?
      intro j
      by_cases hj : j = f
      · subst hj
        rw [List.getElem?_set_self (by rw [List.length_map, List.length_range]; exact hfl), List.getElem?_map, List.getElem?_range hfl]
        show _ = some (mz_fv ad (mz_wI μ pp j x) pp j (fs.getD j none))
        rw [hgd]
        show some (Value.int x) = some (Value.int (mz_wr μ.1 pp (upd (μ.1 pp) j x) pp j))
        simp [mz_wr, upd]
      · rw [List.getElem?_set_ne (Ne.symm hj), List.getElem?_map, List.getElem?_map]
        cases hr : (List.range fs.length)[j]? with
        | none => rfl
        | some z =>
          have hz : z = j := by
            obtain ⟨h1, h2⟩ := List.getElem?_eq_some_iff.mp hr
            rw [List.getElem_range] at h2
            exact h2.symm
          subst hz
          show some (mz_fv ad μ pp z (fs.getD z none)) = some (mz_fv ad (mz_wI μ pp f x) pp z (fs.getD z none))
          cases fs.getD z none with
          | none =>
            show some (Value.int (μ.1 pp z)) = some (Value.int (mz_wr μ.1 pp (upd (μ.1 pp) f x) pp z))
            simp [mz_wr, upd, hj]
          | some q => rfl
    have hw : (mz_w SH LAY cA ad μ).set pp (ad pp, .inr (ci, ((List.range fs.length).map (fun k => mz_fv ad μ pp k (fs.getD k none))).set f (.int x))) = mz_w SH LAY cA ad (mz_wI μ pp f x) := by
      rw [hset]
      exact mz_w_set hv hs (fun q hq => ⟨by simp [mz_wI, mz_wr, hq], rfl⟩)
    have hD := mz_w_D (SH := SH) (cA := cA) (μ := μ) had
    have hn : ∀ ty : FieldType, parseFieldDescriptor (q.2.1 f).2.2.1 = some ty → narrow ty (.int x) = .int x ∧ fits ty (.int x) = true := by
      intro ty h
      rw [hdesc] at h
      cases h
      cases b with
      | zero => exact ⟨vp_nar_int x, rfl⟩
      | succ b =>
        rcases hbx (by omega) with rfl | rfl
        · exact ⟨show narrow .boolean (.int 0) = .int 0 by decide +kernel, show fits .boolean (.int 0) = true by decide +kernel⟩
        · exact ⟨show narrow .boolean (.int 1) = .int 1 by decide +kernel, show fits .boolean (.int 1) = true by decide +kernel⟩
    obtain ⟨hn1, hn2⟩ := hn _ hdesc
    cases nest with
    | zero => exact va_put hx hb hts hin' ty0 hty hnm hown hK hP hD hS pp he hq f (of_decide_eq_true h1) (hts _ (List.mem_cons_of_mem _ (mz_lw_g h2 rfl))) (fun _ h => h) hfin hdesc hn1 hn2 (by rw [List.length_map, List.length_range]; exact hfl) hd (fun H1 locs1 a1 a2 a3 => k H1 locs1 (by rw [hw] at a1; exact a1) a3)
    | succ n => exact va_putN hx hb hts hin' ty0 hty hnm hown hK hP hD hS pp he hq f (of_decide_eq_true h1) (va_Nw.use rfl (hN _ (mz_lw_m h2) rfl)) (fun _ h => h) hfin hdesc hn1 hn2 (by rw [List.length_map, List.length_range]; exact hfl) hd (fun H1 locs1 a1 a2 a3 => k H1 locs1 (by rw [hw] at a1; exact a1) a3)
  · cases ho
theorem mz_callW {R : Room} {H : Heap} {locs : List Loc} {pc : Nat} {ls : Array Slot} {μ μ' : mz_M} {me me' : mz_Me} {Qf : State → Prop} {C : mz_Cl} {y nest pl idx : Nat} {as rest : List mz_V} {r : Option mz_V} {stt : Bool}
    (hR : R = mz_room (d + 1)) (hM : ∀ (y : Nat) (me : mz_Me), mz_nth MS y = some me → mz_okM TBL host cls MS me = true) (hC : mz_Hc l SH LAY cA ad D cls TBL MS ats d C) (hX : mz_Cx p s m args meth c cA D cls TBL ats me) (hls : ls.size = me.2.2.1) (hP : va_P D cls (mz_w SH LAY cA ad μ) H) (hS : va_S (mz_A LAY ad) s.heap H locs) (hy : mz_nth MS y = some me') (hst : me'.2.2.2.2.2.1 = stt) (hlen : as.length = me'.2.2.2.2.1 + (bif stt then 0 else 1)) (hcr : mz_cs rest ≤ 8) (hca : mz_cs as ≤ me'.2.2.1)
    (hlk : (match nest with
      | 0 => mz_lw TBL pl (.methodLink me.1.cls idx me'.1)
      | _ + 1 => mz_lw TBL pl (.methodLinkNest me.1.cls idx me'.1 host)) = true)
    (hd : decode me.2.1 pc = .ok (bif stt then .invokestatic idx else .invokevirtual idx, 3))
    (hrv : stt = false → ∃ t pp as' ci fs q, as = mz_R t pp :: as' ∧ LAY[pp]? = some t ∧ mz_nth SH t = some (.inl (ci, fs)) ∧ cls[ci]? = some q ∧ q.1 = me'.1.cls)
    (hva : ∀ v ∈ as, mz_vd LAY v) (hq : C y as μ r μ')
    (kk : ∀ (H1 : Heap) (locs1 : List Loc), (∀ v, r = some v → mz_vd LAY v) → va_P D cls (mz_w SH LAY cA ad μ') H1 → va_S (mz_A LAY ad) s.heap H1 locs1 → W p l e R s m args below meth c H1 locs1 0 0 Qf (F0 m (pc + 3) ls ((r.map (mz_cv ad)).toList ++ rest.map (mz_cv ad)))) : W p l e R s m args below meth c H locs 0 0 Qf (F0 m pc ls ((as.reverse ++ rest).map (mz_cv ad))) := by
  have hX0 := hX
  obtain ⟨hx, hb, hml, hown, hts, hr, hlocks, hK, hN⟩ := hX
  obtain ⟨o1, o2, o3, o4, o5, o6, o7, o8, -⟩ := mz_okM_i (hM y me' hy)
  have hMet := hC y as μ r μ' me' hq hy hva hca
  have hG := mz_good (me := me) o1
  have hroom : (mz_room d).frames + 1 ≤ R.frames ∧ 8 + (me'.2.2.1 + 11) + (mz_room d).locals ≤ R.locals := by
    subst hR
    show d + 1 ≤ d + 1 ∧ 8 + (me'.2.2.1 + 11) + (60 * d + 100) ≤ 60 * (d + 1) + 100
    omega
  have gw : ∀ w, w ∈ TBL → goodWord w = true → w.before args s = true := fun w h1 h2 => hts w (List.mem_cons_of_mem _ (List.mem_filter.mpr ⟨h1, h2⟩))
  have hW8 : 2 * (F0 m pc ls ((as.reverse ++ rest).map (mz_cv ad))).monitorRoom + ((rest.map (mz_cv ad)).map fun v => v.category).sum ≤ 8 := lv_room (by rw [mz_cs_sum]; exact hcr)
  have hcells : 0 + 0 ≤ R.cells ∧ 0 + 0 ≤ R.slots := ⟨Nat.zero_le _, Nat.zero_le _⟩
  have hstk : (as.reverse ++ rest).map (mz_cv ad) = (as.map (mz_cv ad)).reverse ++ rest.map (mz_cv ad) := by rw [List.map_append, List.map_reverse]
  cases stt with
  | true =>
    have hlen' : (as.map (mz_cv ad)).length = me'.2.2.2.2.1 := by rw [List.length_map, hlen]; rfl
    cases nest with
    | zero =>
      refine mz_call (va_runS (As := as.map (mz_cv ad)) (rest := rest.map (mz_cv ad)) ⟨hx, hb, hml, hown, hts⟩ hMet ⟨callB_of me'.2.2.2.2.1 hts hG rfl rfl rfl (gw _ o2 rfl) (gw _ (mz_lw_m hlk) rfl) ⟨o6.1, o6.2, o7⟩ hroom, gw _ (o3 hst) rfl⟩ ⟨mz_blind, mz_pre hP hK hN⟩ rfl hlen' hls hstk hW8 hd hcells) hS kk
    | succ n =>
      refine mz_call (va_runSN (As := as.map (mz_cv ad)) (rest := rest.map (mz_cv ad)) ⟨hx, hb, hml, hown, hts⟩ hMet ⟨va_cnB me'.2.2.2.2.1 hts hG rfl rfl rfl (hN _ (mz_lw_m hlk) rfl) (gw _ o2 rfl) ⟨o6.1, o6.2, o7⟩ hroom, gw _ (o3 hst) rfl, trivial⟩ ⟨mz_blind, mz_pre hP hK hN⟩ rfl hlen' hls hstk hW8 hd hcells) hS kk
  | false =>
    obtain ⟨t, pp, as', ci, fs, q, rfl, hvp, hsh, hcq, hqn⟩ := hrv rfl
    have hlen' : (as'.map (mz_cv ad)).length = me'.2.2.2.2.1 := by
      rw [List.length_map]
      have : as'.length + 1 = me'.2.2.2.2.1 + 1 := hlen
      omega
    obtain ⟨s1, s2⟩ := o4 hst
    have hrec := va_recv hK hP hcq (mz_w_get (cA := cA) (ad := ad) (μ := μ) hvp hsh)
    rw [hqn] at hrec
    have hstk' : ((mz_R t pp :: as').reverse ++ rest).map (mz_cv ad) = (as'.map (mz_cv ad)).reverse ++ .ref (ad pp) :: rest.map (mz_cv ad) := by
      rw [hstk, List.map_cons, List.reverse_cons, List.append_assoc]
      rfl
    cases nest with
    | zero =>
      refine mz_call (va_runV (b := ad pp) (As := as'.map (mz_cv ad)) (rest := rest.map (mz_cv ad)) ⟨hx, hb, hml, hown, hts⟩ hMet ⟨callB_of me'.2.2.2.2.1 hts hG rfl rfl rfl (gw _ o2 rfl) (gw _ (mz_lw_m hlk) rfl) ⟨o6.1, o6.2, o7⟩ hroom, gw _ s1 rfl, gw _ s2 rfl⟩ ⟨mz_blind, hrec, mz_pre (a := mz_R t pp :: as') hP hK hN⟩ rfl hlen' hls hstk' hW8 hd hcells) hS kk
    | succ n =>
      refine mz_call (va_runVN (b := ad pp) (As := as'.map (mz_cv ad)) (rest := rest.map (mz_cv ad)) ⟨hx, hb, hml, hown, hts⟩ hMet ⟨va_cnB me'.2.2.2.2.1 hts hG rfl rfl rfl (hN _ (mz_lw_m hlk) rfl) (gw _ o2 rfl) ⟨o6.1, o6.2, o7⟩ hroom, gw _ s1 rfl, gw _ s2 rfl⟩ ⟨mz_blind, hrec, mz_pre (a := mz_R t pp :: as') hP hK hN⟩ rfl hlen' hls hstk' hW8 hd hcells) hS kk
end MZT
end
section
section MZU
variable {p : Program} {l : Launch} {e : Env} {s : State} {m : MethodId} {args : Array Value} {below : List Frame} {meth : Method} {c : Code} {d : Nat}
variable {SH : List mz_Sh} {LAY : List Nat} {cA : Nat → ClassId} {ad : Nat → Nat} {D : va_G} {cls : List vw_C} {TBL : List Jvm.Cond} {host : String} {MS : List mz_Me} {ats : List FieldType}
theorem mz_oka_i {own : String} {idx : Nat} {stt : Bool} {a : List Nat} (h : mz_oka TBL host MS own idx stt a = true) : ∃ (y n k t ml nest pl : Nat) (me' : mz_Me), a = [y, n, k, t, ml, nest, pl] ∧ mz_nth MS y = some me' ∧ me'.2.2.2.2.2.1 = stt ∧ n = me'.2.2.2.2.1 + (bif stt then 0 else 1) ∧ ml = me'.2.2.1 ∧ (match nest with
      | 0 => mz_lw TBL pl (.methodLink own idx me'.1)
      | _ + 1 => mz_lw TBL pl (.methodLinkNest own idx me'.1 host)) = true := by
  unfold mz_oka at h
  split at h
  · next y n k t ml nest pl =>
    split at h
    · next me' hm =>
      simp only [Bool.and_eq_true, decide_eq_true_eq] at h
      exact ⟨y, n, k, t, ml, nest, pl, me', rfl, hm, h.1.1.1, h.1.1.2, h.1.2, h.2⟩
    · cases h
  · cases h
theorem mz_look {x : Int32} {K : Nat → Prop} {pc dn : Nat} {df : Int} (hdf : (pc : Int) + df = (dn : Int)) : ∀ {prs : List (Int × Int)}, (∀ q ∈ prs, 0 ≤ q.1 ∧ q.1 < 2147483648 ∧ 0 ≤ (pc : Int) + q.2) → mz_sw x K dn (mz_prl pc prs) → ∃ (off : Int) (tgt : Nat), Op.lookupswitch.offset prs df x.toInt = off ∧ (pc : Int) + off = (tgt : Int) ∧ K tgt
  | [], _, h => ⟨df, dn, rfl, hdf, h⟩
  | q :: r, hq, h => by
    obtain ⟨a, o⟩ := q
    obtain ⟨q1, q2, q3⟩ := hq (a, o) List.mem_cons_self
    dsimp only at q1 q2 q3
    unfold mz_prl mz_sw at h
    dsimp only at h
    rw [Op.lookupswitch.offset_cons]
    by_cases hx : x = nI a.toNat
    · rw [if_pos hx] at h
      have e : a = x.toInt := by rw [hx, nI_toInt (by omega)]; omega
      rw [if_pos e]
      exact ⟨o, _, rfl, by omega, h⟩
    · rw [if_neg hx] at h
      have e : ¬ a = x.toInt := by
        intro z
        apply hx
        apply Int32.toInt_inj.mp
        rw [nI_toInt (by omega)]
        omega
      rw [if_neg e]
      exact mz_look hdf (fun z hz => hq z (List.mem_cons_of_mem _ hz)) h
set_option maxHeartbeats 8000000 in
set_option maxRecDepth 100000 in
theorem mz_opW {me : mz_Me} {C : mz_Cl} {r0 : Option mz_V} {μ0 : mz_M} (hW : mz_Wd SH LAY ad cls TBL ats) (hM : ∀ (y : Nat) (me : mz_Me), mz_nth MS y = some me → mz_okM TBL host cls MS me = true) (hC : mz_Hc l SH LAY cA ad D cls TBL MS ats d C) (hX : mz_Cx p s m args meth c cA D cls TBL ats me) {ee : mz_E} {pc : Nat} {L : mz_Lo} {st : List mz_V} {μ : mz_M} (hok : mz_ok TBL host cls MS me pc ee = true)
    (h : mz_op SH C (fun r2 μ2 => r2 = r0 ∧ μ2 = μ0) (mz_PW p l e (mz_room (d + 1)) s m args below meth c SH LAY cA ad D cls me.2.2.1 (MQ below (mz_QC SH LAY cA ad D cls r0 μ0) args s 0 0 (mz_A LAY ad))) ee pc L st μ) :
    mz_PW p l e (mz_room (d + 1)) s m args below meth c SH LAY cA ad D cls me.2.2.1 (MQ below (mz_QC SH LAY cA ad D cls r0 μ0) args s 0 0 (mz_A LAY ad)) (pc, L, st, μ) := by
  intro H locs ls hl hvl hvs hP hS
  have hX0 := hX
  have hW0 := hW
  obtain ⟨hx, hb, hml, hown, hts, hr, hlocks, hK, hN⟩ := hX
  obtain ⟨had, hL1, hL2, hS0, hS1, hS2, hS3, hcl⟩ := hW
  have gw : ∀ w, w ∈ TBL → goodWord w = true → w.before args s = true := fun w h1 h2 => hts w (List.mem_cons_of_mem _ (List.mem_filter.mpr ⟨h1, h2⟩))
  have hD := mz_w_D (SH := SH) (cA := cA) (μ := μ) had
  have hls : ls.size = me.2.2.1 := hl.1
  obtain ⟨i, len, c32, c64, a, ps, kt, kn⟩ := ee
  unfold mz_ok at hok
  rw [Bool.and_eq_true] at hok
  obtain ⟨hd', hok⟩ := hok
  have hd := of_decide_eq_true hd'
  clear hd'
  dsimp only at hd
  cases i
  case iconst n =>
    simp only [Bool.and_eq_true, decide_eq_true_eq] at hok
    obtain ⟨rfl, hc⟩ := hok
    exact lv_iconst hx hb hd hc (h H locs ls (mz_has_kp kn hl) (mz_vl_kp kn hvl) (mz_vs_c trivial hvs) hP hS)
  case bipush n =>
    simp only [Bool.and_eq_true, decide_eq_true_eq] at hok
    obtain ⟨rfl, hc⟩ := hok
    exact lv_bipush hx hb hd hc (h H locs ls (mz_has_kp kn hl) (mz_vl_kp kn hvl) (mz_vs_c trivial hvs) hP hS)
  case sipush n =>
    simp only [Bool.and_eq_true, decide_eq_true_eq] at hok
    obtain ⟨rfl, hc⟩ := hok
    exact lv_sipush hx hb hd hc (h H locs ls (mz_has_kp kn hl) (mz_vl_kp kn hvl) (mz_vs_c trivial hvs) hP hS)
  case lconst n =>
    simp only [Bool.and_eq_true, decide_eq_true_eq] at hok
    obtain ⟨rfl, hc⟩ := hok
    exact lv_lconst hx hb hd hc (h H locs ls (mz_has_kp kn hl) (mz_vl_kp kn hvl) (mz_vs_c trivial hvs) hP hS)
  case ldc n =>
    simp only [Bool.and_eq_true, decide_eq_true_eq] at hok
    obtain ⟨rfl, hc⟩ := hok
    exact lv_ldc hx hb hown (gw _ (mz_lw_m hc) rfl) hd (h H locs ls (mz_has_kp kn hl) (mz_vl_kp kn hvl) (mz_vs_c trivial hvs) hP hS)
  case ldc_w n =>
    simp only [Bool.and_eq_true, decide_eq_true_eq] at hok
    obtain ⟨rfl, hc⟩ := hok
    exact lv_ldcw hx hb hown (gw _ (mz_lw_m hc) rfl) hd (h H locs ls (mz_has_kp kn hl) (mz_vl_kp kn hvl) (mz_vs_c trivial hvs) hP hS)
  case ldc2_w n =>
    simp only [Bool.and_eq_true, decide_eq_true_eq] at hok
    obtain ⟨rfl, hc⟩ := hok
    exact lv_ldc2 hx hb hown (gw _ (mz_lw_m hc) rfl) hd (h H locs ls (mz_has_kp kn hl) (mz_vl_kp kn hvl) (mz_vs_c trivial hvs) hP hS)
  case iload_n k =>
    simp only [Bool.and_eq_true, decide_eq_true_eq] at hok
    obtain ⟨rfl, hc⟩ := hok
    obtain ⟨x, hk, h⟩ := mz_li_i h
    exact lv_iload_n hx hb hd hc (mz_has_at hl hk) (h H locs ls (mz_has_kp kn hl) (mz_vl_kp kn hvl) (mz_vs_c trivial hvs) hP hS)
  case iload k =>
    simp only [Bool.and_eq_true, decide_eq_true_eq] at hok
    obtain ⟨rfl, rfl⟩ := hok
    obtain ⟨x, hk, h⟩ := mz_li_i h
    exact lv_iload hx hb hd (mz_has_at hl hk) (h H locs ls (mz_has_kp kn hl) (mz_vl_kp kn hvl) (mz_vs_c trivial hvs) hP hS)
  case lload_n k =>
    simp only [Bool.and_eq_true, decide_eq_true_eq] at hok
    obtain ⟨rfl, hc⟩ := hok
    obtain ⟨x, hk, h⟩ := mz_ll_i h
    exact lv_lload_n hx hb hd hc (mz_has_at hl hk) (h H locs ls (mz_has_kp kn hl) (mz_vl_kp kn hvl) (mz_vs_c trivial hvs) hP hS)
  case lload k =>
    simp only [Bool.and_eq_true, decide_eq_true_eq] at hok
    obtain ⟨rfl, rfl⟩ := hok
    obtain ⟨x, hk, h⟩ := mz_ll_i h
    exact lv_lload hx hb hd (mz_has_at hl hk) (h H locs ls (mz_has_kp kn hl) (mz_vl_kp kn hvl) (mz_vs_c trivial hvs) hP hS)
  case aload_n k =>
    simp only [Bool.and_eq_true, decide_eq_true_eq] at hok
    obtain ⟨rfl, hc⟩ := hok
    obtain ⟨t, x, hk, h⟩ := mz_lr_i h
    exact lv_aload_n hx hb hd hc (mz_has_at hl hk) (h H locs ls (mz_has_kp kn hl) (mz_vl_kp kn hvl) (mz_vs_c (mz_vl_lk hvl hk) hvs) hP hS)
  case aload k =>
    simp only [Bool.and_eq_true, decide_eq_true_eq] at hok
    obtain ⟨rfl, rfl⟩ := hok
    obtain ⟨t, x, hk, h⟩ := mz_lr_i h
    exact lv_aload hx hb hd (mz_has_at hl hk) (h H locs ls (mz_has_kp kn hl) (mz_vl_kp kn hvl) (mz_vs_c (mz_vl_lk hvl hk) hvs) hP hS)
  case istore_n k =>
    simp only [Bool.and_eq_true, decide_eq_true_eq] at hok
    obtain ⟨⟨rfl, hc⟩, hn⟩ := hok
    obtain ⟨x, r, rfl, h⟩ := mz_p1_i h
    exact lv_istore_n hx hb hd hc hl hn rfl (fun ls hl => h H locs ls (mz_has_st1 (v := mz_I x) kn hl) (mz_vl_st1 kn hvl trivial) (mz_vs_t hvs) hP hS)
  case istore k =>
    simp only [Bool.and_eq_true, decide_eq_true_eq] at hok
    obtain ⟨⟨rfl, rfl⟩, hn⟩ := hok
    obtain ⟨x, r, rfl, h⟩ := mz_p1_i h
    exact lv_istore hx hb hd hl hn rfl (fun ls hl => h H locs ls (mz_has_st1 (v := mz_I x) kn hl) (mz_vl_st1 kn hvl trivial) (mz_vs_t hvs) hP hS)
  case lstore_n k =>
    simp only [Bool.and_eq_true, decide_eq_true_eq] at hok
    obtain ⟨⟨rfl, hc⟩, hn⟩ := hok
    obtain ⟨x, r, rfl, h⟩ := mz_g1_i h
    exact lv_lstore_n hx hb hd hc hl hn rfl (fun ls hl => h H locs ls (mz_has_st2 (v := mz_L x) kn hl) (mz_vl_st2 kn hvl trivial) (mz_vs_t hvs) hP hS)
  case lstore k =>
    simp only [Bool.and_eq_true, decide_eq_true_eq] at hok
    obtain ⟨⟨rfl, rfl⟩, hn⟩ := hok
    obtain ⟨x, r, rfl, h⟩ := mz_g1_i h
    exact lv_lstore hx hb hd hl hn rfl (fun ls hl => h H locs ls (mz_has_st2 (v := mz_L x) kn hl) (mz_vl_st2 kn hvl trivial) (mz_vs_t hvs) hP hS)
  case astore_n k =>
    simp only [Bool.and_eq_true, decide_eq_true_eq] at hok
    obtain ⟨⟨rfl, hc⟩, hn⟩ := hok
    obtain ⟨t, x, r, rfl, h⟩ := mz_h1_i h
    exact lv_astore_n hx hb hd hc hl hn rfl (fun ls hl => h H locs ls (mz_has_st1 (v := mz_R t x) kn hl) (mz_vl_st1 kn hvl (mz_vs_h hvs)) (mz_vs_t hvs) hP hS)
  case astore k =>
    simp only [Bool.and_eq_true, decide_eq_true_eq] at hok
    obtain ⟨⟨rfl, rfl⟩, hn⟩ := hok
    obtain ⟨t, x, r, rfl, h⟩ := mz_h1_i h
    exact lv_astore hx hb hd hl hn rfl (fun ls hl => h H locs ls (mz_has_st1 (v := mz_R t x) kn hl) (mz_vl_st1 kn hvl (mz_vs_h hvs)) (mz_vs_t hvs) hP hS)
  case iinc k n =>
    simp only [Bool.and_eq_true, decide_eq_true_eq] at hok
    obtain ⟨⟨⟨rfl, rfl⟩, hn⟩, hc⟩ := hok
    obtain ⟨x, hk, h⟩ := mz_li_i h
    obtain ⟨j, hj⟩ := List.getElem?_of_mem (List.mem_map.mpr ⟨_, mz_lk_mem hk, rfl⟩ : ((mz_a0 a, mz_cv ad (mz_I x)) : Nat × Value) ∈ mz_lc ad L)
    exact lv_iinc (k := j) (v := x + c32) hx hb hd hl hj (by rw [hc]) hn rfl (fun ls hl => h H locs ls (mz_has_st1 (v := mz_I (x + c32)) kn hl) (mz_vl_st1 kn hvl trivial) hvs hP hS)
  case goto off =>
    simp only [Bool.and_eq_true, decide_eq_true_eq] at hok
    obtain ⟨rfl, ht⟩ := hok
    exact lv_goto hx hb hd ht (h H locs ls (mz_has_kp kt hl) (mz_vl_kp kt hvl) hvs hP hS)
  case if_icmp op off =>
    simp only [Bool.and_eq_true, decide_eq_true_eq] at hok
    obtain ⟨rfl, ht⟩ := hok
    obtain ⟨x, y, r, rfl, h⟩ := mz_p2_i h
    have kT : ∀ {z : mz_S}, z = (mz_a0 a, mz_kp kt L, r, μ) → mz_PW p l e (mz_room (d + 1)) s m args below meth c SH LAY cA ad D cls me.2.2.1 (MQ below (mz_QC SH LAY cA ad D cls r0 μ0) args s 0 0 (mz_A LAY ad)) z → W p l e (mz_room (d + 1)) s m args below meth c H locs 0 0 (MQ below (mz_QC SH LAY cA ad D cls r0 μ0) args s 0 0 (mz_A LAY ad)) (F0 m (mz_a0 a) ls (r.map (mz_cv ad))) := by
      intro z hz h
      subst hz
      exact h H locs ls (mz_has_kp kt hl) (mz_vl_kp kt hvl) (mz_vs_t (mz_vs_t hvs)) hP hS
    have kN : ∀ {z : mz_S}, z = (pc + 3, mz_kp kn L, r, μ) → mz_PW p l e (mz_room (d + 1)) s m args below meth c SH LAY cA ad D cls me.2.2.1 (MQ below (mz_QC SH LAY cA ad D cls r0 μ0) args s 0 0 (mz_A LAY ad)) z → W p l e (mz_room (d + 1)) s m args below meth c H locs 0 0 (MQ below (mz_QC SH LAY cA ad D cls r0 μ0) args s 0 0 (mz_A LAY ad)) (F0 m (pc + 3) ls (r.map (mz_cv ad))) := by
      intro z hz h
      subst hz
      exact h H locs ls (mz_has_kp kn hl) (mz_vl_kp kn hvl) (mz_vs_t (mz_vs_t hvs)) hP hS
    cases op
    · exact lv_icmp_eq hx hb hd ht (fun q => kT rfl (mz_ite_t h q)) (fun q => kN rfl (mz_ite_f h q))
    · exact lv_icmp_ne hx hb hd ht (fun q => kT rfl (mz_ite_f h q)) (fun q => kN rfl (mz_ite_t h q))
    · exact lv_icmp_lt hx hb hd ht (fun q => kT rfl (mz_ite_t h q)) (fun q => kN rfl (mz_ite_f h q))
    · exact lv_icmp_ge hx hb hd ht (fun q => kT rfl (mz_ite_t h q)) (fun q => kN rfl (mz_ite_f h q))
    · exact lv_icmp_gt hx hb hd ht (fun q => kT rfl (mz_ite_t h q)) (fun q => kN rfl (mz_ite_f h q))
    · exact lv_icmp_le hx hb hd ht (fun q => kT rfl (mz_ite_t h q)) (fun q => kN rfl (mz_ite_f h q))
  case ifCond op off =>
    simp only [Bool.and_eq_true, decide_eq_true_eq] at hok
    obtain ⟨rfl, ht⟩ := hok
    obtain ⟨x, r, rfl, h⟩ := mz_p1_i h
    have kT : ∀ {z : mz_S}, z = (mz_a0 a, mz_kp kt L, r, μ) → mz_PW p l e (mz_room (d + 1)) s m args below meth c SH LAY cA ad D cls me.2.2.1 (MQ below (mz_QC SH LAY cA ad D cls r0 μ0) args s 0 0 (mz_A LAY ad)) z → W p l e (mz_room (d + 1)) s m args below meth c H locs 0 0 (MQ below (mz_QC SH LAY cA ad D cls r0 μ0) args s 0 0 (mz_A LAY ad)) (F0 m (mz_a0 a) ls (r.map (mz_cv ad))) := by
      intro z hz h
      subst hz
      exact h H locs ls (mz_has_kp kt hl) (mz_vl_kp kt hvl) (mz_vs_t hvs) hP hS
    have kN : ∀ {z : mz_S}, z = (pc + 3, mz_kp kn L, r, μ) → mz_PW p l e (mz_room (d + 1)) s m args below meth c SH LAY cA ad D cls me.2.2.1 (MQ below (mz_QC SH LAY cA ad D cls r0 μ0) args s 0 0 (mz_A LAY ad)) z → W p l e (mz_room (d + 1)) s m args below meth c H locs 0 0 (MQ below (mz_QC SH LAY cA ad D cls r0 μ0) args s 0 0 (mz_A LAY ad)) (F0 m (pc + 3) ls (r.map (mz_cv ad))) := by
      intro z hz h
      subst hz
      exact h H locs ls (mz_has_kp kn hl) (mz_vl_kp kn hvl) (mz_vs_t hvs) hP hS
    cases op
    · exact lv_if_eq hx hb hd ht (fun q => kT rfl (mz_ite_t h q)) (fun q => kN rfl (mz_ite_f h q))
    · exact lv_if_ne hx hb hd ht (fun q => kT rfl (mz_ite_f h q)) (fun q => kN rfl (mz_ite_t h q))
    · exact lv_if_lt hx hb hd ht (fun q => kT rfl (mz_ite_t h q)) (fun q => kN rfl (mz_ite_f h q))
    · exact lv_if_ge hx hb hd ht (fun q => kT rfl (mz_ite_t h q)) (fun q => kN rfl (mz_ite_f h q))
    · exact lv_if_gt hx hb hd ht (fun q => kT rfl (mz_ite_t h q)) (fun q => kN rfl (mz_ite_f h q))
    · exact lv_if_le hx hb hd ht (fun q => kT rfl (mz_ite_t h q)) (fun q => kN rfl (mz_ite_f h q))
  case tableswitch df lo hi offs =>
    simp only [Bool.and_eq_true, decide_eq_true_eq] at hok
    obtain ⟨⟨⟨⟨⟨g1, g2⟩, g3⟩, g4⟩, g5⟩, g6⟩ := hok
    obtain ⟨x, r, rfl, h⟩ := mz_p1_i h
    have go : ∀ t, mz_PW p l e (mz_room (d + 1)) s m args below meth c SH LAY cA ad D cls me.2.2.1 (MQ below (mz_QC SH LAY cA ad D cls r0 μ0) args s 0 0 (mz_A LAY ad)) (t, L, r, μ) → W p l e (mz_room (d + 1)) s m args below meth c H locs 0 0 (MQ below (mz_QC SH LAY cA ad D cls r0 μ0) args s 0 0 (mz_A LAY ad)) (F0 m t ls (r.map (mz_cv ad))) := fun t h => h H locs ls hl hvl (mz_vs_t hvs) hP hS
    rcases mz_sw_i h with ⟨q, hq, hxq, hk⟩ | ⟨hno, hk⟩
    · rw [g2] at hq
      obtain ⟨j, o, hj, rfl⟩ := mz_prs_m hq
      have hjl : j < offs.toList.length := (List.getElem?_eq_some_iff.mp hj).1
      have hxi : x.toInt = lo + j := by
        rw [hxq, nI_toInt (by omega)]
        omega
      have ho0 : 0 ≤ (pc : Int) + o := of_decide_eq_true (List.all_eq_true.mp g6 o (List.mem_of_getElem? hj))
      refine lv_tableIn (off := o) (tgt := ((pc : Int) + o).toNat) hx hb hd (by omega) (by omega) ?_ (by omega) (go _ hk)
      rw [hxi, show (lo + (j : Int) - lo).toNat = j by omega, ← Array.getElem?_toList]
      exact hj
    · refine lv_tableOut hx hb hd ?_ g1 (go _ hk)
      rcases Int.lt_or_le x.toInt lo with q | q
      · exact Or.inl q
      · rcases Int.lt_or_le hi x.toInt with q2 | q2
        · exact Or.inr q2
        · obtain ⟨z, hz, hz1⟩ := mz_prs_in (pc := pc) (offs := offs.toList) (lo := lo) (j := (x.toInt - lo).toNat) (by omega)
          refine absurd ?_ (hno z (by rw [g2]; exact hz))
          rw [hz1, show (lo + ((x.toInt - lo).toNat : Int)).toNat = x.toInt.toNat by omega]
          apply Int32.toInt_inj.mp
          rw [nI_toInt (by omega)]
          omega
  case lookupswitch df prs =>
    simp only [Bool.and_eq_true, decide_eq_true_eq] at hok
    obtain ⟨⟨⟨g1, g2⟩, g3⟩, g4⟩ := hok
    obtain ⟨x, r, rfl, h⟩ := mz_p1_i h
    subst g2
    obtain ⟨off, tgt, b1, b2, b3⟩ := mz_look (prs := prs.toList) g1 (fun q hq => by
      have := List.all_eq_true.mp g4 q hq
      simp only [Bool.and_eq_true, decide_eq_true_eq] at this
      exact ⟨this.1.1, this.1.2, this.2⟩) h
    exact lv_lookup hx hb hd g3 b1 b2 (b3 H locs ls hl hvl (mz_vs_t hvs) hP hS)
  case getfield idx =>
    rw [Bool.and_eq_true] at hok
    obtain ⟨h3, hok⟩ := hok
    obtain rfl := of_decide_eq_true h3
    split at hok
    · next ci f nest pl =>
      obtain ⟨t, pp, r, rfl, k1⟩ := mz_h1_i h
      split at k1
      · next ci' fs cj k rest0 hsh heq =>
        cases heq
        obtain ⟨hci, k2⟩ := mz_bif_i k1
        obtain rfl := Nat.eq_of_beq_eq_true hci
        have hvp : LAY[pp]? = some t := mz_vs_h hvs
        split at k2
        · next hf =>
          exact mz_getW hW0 hX0 hd hP hvp hsh hf hok (k2 H locs ls (mz_has_kp kn hl) (mz_vl_kp kn hvl) (mz_vs_c trivial (mz_vs_t hvs)) hP hS)
        · next b off t' hf =>
          exact mz_getW hW0 hX0 hd hP hvp hsh hf hok (k2 H locs ls (mz_has_kp kn hl) (mz_vl_kp kn hvl) (mz_vs_c (hL1 _ _ _ _ _ _ _ _ hvp hsh hf) (mz_vs_t hvs)) hP hS)
        · first | exact k1.elim | exact k2.elim | exact k3.elim | exact h.elim
      · first | exact k1.elim | exact k2.elim | exact k3.elim | exact h.elim
    · cases hok
  case putfield idx =>
    rw [Bool.and_eq_true] at hok
    obtain ⟨h3, hok⟩ := hok
    obtain rfl := of_decide_eq_true h3
    split at hok
    · next ci f b nest pl =>
      rw [Bool.and_eq_true] at hok
      obtain ⟨hok, hok2⟩ := hok
      obtain ⟨x, r1, rfl, k1⟩ := mz_p1_i h
      obtain ⟨t, pp, r, rfl, k2⟩ := mz_h1_i k1
      split at k2
      · next ci' fs cj k bb rest0 hsh heq =>
        cases heq
        obtain ⟨hci, k3⟩ := mz_bif_i k2
        obtain rfl := Nat.eq_of_beq_eq_true hci
        have hvp : LAY[pp]? = some t := mz_vs_h (mz_vs_t hvs)
        split at k3
        · next hf =>
          have hb2 : (b ≠ 0 → x = 0 ∨ x = 1) ∧ mz_PW p l e (mz_room (d + 1)) s m args below meth c SH LAY cA ad D cls me.2.2.1 (MQ below (mz_QC SH LAY cA ad D cls r0 μ0) args s 0 0 (mz_A LAY ad)) (pc + 3, mz_kp kn L, r, mz_wI μ pp f x) := by
            cases b with
            | zero => exact ⟨fun q => absurd rfl q, k3⟩
            | succ b => exact ⟨fun _ => k3.1, k3.2⟩
          refine mz_putW (b := b) hW0 hX0 hd hP hS hvp hsh hf hok (fun q hq => ?_) hb2.1 (fun H1 locs1 a1 a2 => hb2.2 H1 locs1 ls (mz_has_kp kn hl) (mz_vl_kp kn hvl) (mz_vs_t (mz_vs_t hvs)) a1 a2)
          rw [hq] at hok2
          simp only [Bool.and_eq_true, decide_eq_true_eq] at hok2
          exact hok2
        · first | exact k1.elim | exact k2.elim | exact k3.elim | exact h.elim
      · first | exact k1.elim | exact k2.elim | exact k3.elim | exact h.elim
    · cases hok
  case iaload =>
    obtain rfl := of_decide_eq_true hok
    obtain ⟨x, r1, rfl, k1⟩ := mz_p1_i h
    obtain ⟨t, pp, r, rfl, k2⟩ := mz_h1_i k1
    have hvp : LAY[pp]? = some t := mz_vs_h (mz_vs_t hvs)
    split at k2
    · next ti n q hsh =>
      exact va_iald hx hb hK hP pp ti (mz_w_get (cA := cA) (ad := ad) (μ := μ) hvp hsh) (mz_ty_at (hS0 _ _ _ _ hsh)) k2.1 hd (k2.2 H locs ls (mz_has_kp kn hl) (mz_vl_kp kn hvl) (mz_vs_c trivial (mz_vs_t (mz_vs_t hvs))) hP hS)
    · first | exact k1.elim | exact k2.elim | exact k3.elim | exact h.elim
  case laload =>
    obtain rfl := of_decide_eq_true hok
    obtain ⟨x, r1, rfl, k1⟩ := mz_p1_i h
    obtain ⟨t, pp, r, rfl, k2⟩ := mz_h1_i k1
    have hvp : LAY[pp]? = some t := mz_vs_h (mz_vs_t hvs)
    split at k2
    · next ti n q hsh =>
      exact va_lald hx hb hK hP pp ti (mz_w_get (cA := cA) (ad := ad) (μ := μ) hvp hsh) (mz_ty_at (hS1 _ _ _ _ hsh)) k2.1 hd (k2.2 H locs ls (mz_has_kp kn hl) (mz_vl_kp kn hvl) (mz_vs_c trivial (mz_vs_t (mz_vs_t hvs))) hP hS)
    · first | exact k1.elim | exact k2.elim | exact k3.elim | exact h.elim
  case aaload =>
    obtain rfl := of_decide_eq_true hok
    obtain ⟨x, r1, rfl, k1⟩ := mz_p1_i h
    obtain ⟨t, pp, r, rfl, k2⟩ := mz_h1_i k1
    have hvp : LAY[pp]? = some t := mz_vs_h (mz_vs_t hvs)
    split at k2
    · next ti n t' b off w hsh =>
      obtain ⟨Cn, hCn⟩ := hS2 _ _ _ _ hsh
      have hlt : x.toNatClampNeg < n := Nat.not_le.mp fun q => k2.1 (Or.inr q)
      exact va_aldq hx hb hK hP pp ti (mz_w_get (cA := cA) (ad := ad) (μ := μ) hvp hsh) (mz_ty_at hCn) k2.1 hd (k2.2 H locs ls (mz_has_kp kn hl) (mz_vl_kp kn hvl) (mz_vs_c (hL2 _ _ _ _ _ _ _ _ _ hvp hsh hlt) (mz_vs_t (mz_vs_t hvs))) hP hS)
    · first | exact k1.elim | exact k2.elim | exact k3.elim | exact h.elim
  case iastore =>
    obtain rfl := of_decide_eq_true hok
    obtain ⟨v, r2, rfl, k1⟩ := mz_p1_i h
    obtain ⟨x, r1, rfl, k2⟩ := mz_p1_i k1
    obtain ⟨t, pp, r, rfl, k3⟩ := mz_h1_i k2
    have hvp : LAY[pp]? = some t := mz_vs_h (mz_vs_t (mz_vs_t hvs))
    split at k3
    · next ti n q hsh =>
      refine va_iast hx hb hK hP hD hS pp ti (mz_w_get (cA := cA) (ad := ad) (μ := μ) hvp hsh) (mz_ty_at (hS0 _ _ _ _ hsh)) k3.1 hd (fun H1 locs1 a1 a2 a3 => k3.2 H1 locs1 ls (mz_has_kp kn hl) (mz_vl_kp kn hvl) (mz_vs_t (mz_vs_t (mz_vs_t hvs))) ?_ a3)
      have e := mz_w_set (cA := cA) (ad := ad) (μ := μ) (μ' := mz_wI μ pp x.toNatClampNeg v) hvp hsh (fun q hq => ⟨by simp [mz_wI, mz_wr, hq], rfl⟩)
      rw [← e]
      have e2 : mz_cell cA ad (mz_wI μ pp x.toNatClampNeg v) pp (.inr (ti, n, 0, q)) = .inl (cA ti, n, .inl (upd (μ.1 pp) x.toNatClampNeg v)) := by
        show Sum.inl (cA ti, n, Sum.inl (mz_wr μ.1 pp (upd (μ.1 pp) x.toNatClampNeg v) pp)) = _
        simp [mz_wr]
      rw [e2]
      exact a1
    · first | exact k1.elim | exact k2.elim | exact k3.elim | exact h.elim
  case lastore =>
    obtain rfl := of_decide_eq_true hok
    obtain ⟨v, r2, rfl, k1⟩ := mz_g1_i h
    obtain ⟨x, r1, rfl, k2⟩ := mz_p1_i k1
    obtain ⟨t, pp, r, rfl, k3⟩ := mz_h1_i k2
    have hvp : LAY[pp]? = some t := mz_vs_h (mz_vs_t (mz_vs_t hvs))
    split at k3
    · next ti n q hsh =>
      refine va_last hx hb hK hP hD hS pp ti (mz_w_get (cA := cA) (ad := ad) (μ := μ) hvp hsh) (mz_ty_at (hS1 _ _ _ _ hsh)) k3.1 hd (fun H1 locs1 a1 a2 a3 => k3.2 H1 locs1 ls (mz_has_kp kn hl) (mz_vl_kp kn hvl) (mz_vs_t (mz_vs_t (mz_vs_t hvs))) ?_ a3)
      have e := mz_w_set (cA := cA) (ad := ad) (μ := μ) (μ' := mz_wL μ pp x.toNatClampNeg v) hvp hsh (fun q hq => ⟨rfl, by simp [mz_wL, mz_wr, hq]⟩)
      rw [← e]
      have e2 : mz_cell cA ad (mz_wL μ pp x.toNatClampNeg v) pp (.inr (ti, n, 1, q)) = .inl (cA ti, n, .inr (.inl (vp_updL (μ.2 pp) x.toNatClampNeg v))) := by
        show Sum.inl (cA ti, n, Sum.inr (Sum.inl (mz_wr μ.2 pp (vp_updL (μ.2 pp) x.toNatClampNeg v) pp))) = _
        simp [mz_wr]
      rw [e2]
      exact a1
    · first | exact k1.elim | exact k2.elim | exact k3.elim | exact h.elim
  case arraylength =>
    obtain rfl := of_decide_eq_true hok
    obtain ⟨t, pp, r, rfl, k1⟩ := mz_h1_i h
    have hvp : LAY[pp]? = some t := mz_vs_h hvs
    split at k1
    · next ti n q hsh =>
      obtain ⟨kk, t', b, off, w⟩ := q
      have go := k1 H locs ls (mz_has_kp kn hl) (mz_vl_kp kn hvl) (mz_vs_c trivial (mz_vs_t hvs)) hP hS
      have hk2 := hS3 _ _ _ _ _ hsh
      rcases (show kk = 0 ∨ kk = 1 ∨ kk = 2 by omega) with rfl | rfl | rfl
      · exact va_alen hx hb hK hP pp ti (mz_w_get (cA := cA) (ad := ad) (μ := μ) hvp hsh) (mz_ty_at (hS0 _ _ _ _ hsh)) rfl hd go
      · exact va_alen hx hb hK hP pp ti (mz_w_get (cA := cA) (ad := ad) (μ := μ) hvp hsh) (mz_ty_at (hS1 _ _ _ _ hsh)) rfl hd go
      · obtain ⟨Cn, hCn⟩ := hS2 _ _ _ _ hsh
        exact va_alen hx hb hK hP pp ti (mz_w_get (cA := cA) (ad := ad) (μ := μ) hvp hsh) (mz_ty_at hCn) rfl hd go
    · first | exact k1.elim | exact k2.elim | exact k3.elim | exact h.elim
  case invokevirtual idx =>
    rw [Bool.and_eq_true] at hok
    obtain ⟨h3, hok⟩ := hok
    obtain rfl := of_decide_eq_true h3
    cases a with
    | nil => cases hok
    | cons cj a' =>
      dsimp only at hok
      rw [Bool.and_eq_true] at hok
      obtain ⟨hok, hok2⟩ := hok
      obtain ⟨y, n, k, t, ml, nest, pl, me', rfl, hy, hst, hn, hml', hlk⟩ := mz_oka_i hok
      obtain ⟨as, rest, r, μ', e1, rfl, e3, e4, e5, e6, k1⟩ := mz_cl_i (C := C) (g := mz_rv SH cj) (y := y) (n := n) (k := k) (t := t) (ml := ml) (a' := [nest, pl]) (st := st) (μ := μ) (f := fun v μ' => mz_PW p l e (mz_room (d + 1)) s m args below meth c SH LAY cA ad D cls me.2.2.1 (MQ below (mz_QC SH LAY cA ad D cls r0 μ0) args s 0 0 (mz_A LAY ad)) (pc + 3, mz_kp kn L, v, μ')) h
      have hvas : ∀ v ∈ as, mz_vd LAY v := fun v hv => hvs v (List.mem_append_left _ (List.mem_reverse.mpr hv))
      refine mz_callW (me' := me') rfl hM hC hX0 hls hP hS hy hst (e1.trans hn) e3 (by rw [← hml']; exact e4) hlk hd (fun _ => ?_) hvas e6 (fun H1 locs1 a1 a2 a3 => ?_)
      · unfold mz_rv at e5
        split at e5
        · next t' pp rest' =>
          split at e5
          · next ci fs hsh =>
            obtain rfl := Nat.eq_of_beq_eq_true e5
            dsimp only [mz_a0] at hok2
            rw [hy] at hok2
            split at hok2
            · next q me2 hq he =>
              cases he
              exact ⟨t', pp, rest', ci, fs, q, rfl, hvas _ List.mem_cons_self, hsh, hq, of_decide_eq_true hok2⟩
            · cases hok2
          · cases e5
        · cases e5
      · have go := k1 H1 locs1 ls (mz_has_kp kn hl) (mz_vl_kp kn hvl) (mz_vs_app (fun v hv => a1 v (by cases r with
          | none => cases hv
          | some z => rcases List.mem_cons.mp hv with rfl | hv
                      · rfl
                      · cases hv)) (fun v hv => hvs v (List.mem_append_right _ hv))) a2 a3
        have e : (r.map (mz_cv ad)).toList ++ rest.map (mz_cv ad) = (r.toList ++ rest).map (mz_cv ad) := by
          cases r <;> rfl
        rw [e]
        exact go
  case invokestatic idx =>
    rw [Bool.and_eq_true] at hok
    obtain ⟨h3, hok⟩ := hok
    obtain rfl := of_decide_eq_true h3
    cases a with
    | nil => cases hok
    | cons z a' =>
      cases z with
      | zero =>
        have hok2 : mz_okac TBL me.1.cls idx a' = true := hok
        unfold mz_okac at hok2
        split at hok2
        · next p0' p1' p2' p3' =>
          simp only [Bool.and_eq_true] at hok2
          obtain ⟨⟨⟨w0, w1⟩, w2⟩, w3⟩ := hok2
          obtain ⟨n, dd, t1, p1, ss, t0, p0, r, rfl, hcs, k1⟩ := mz_ac_i h
          · 
            have hv1 : LAY[p1]? = some t1 := hvs (mz_R t1 p1) (by simp)
            have hv0 : LAY[p0]? = some t0 := hvs (mz_R t0 p0) (by simp)
            have hwd : nativeFrameWords "java/lang/System" "arraycopy" 5 ≤ 40 := by decide +kernel
            have hvr : mz_vs LAY r := mz_vs_t (mz_vs_t (mz_vs_t (mz_vs_t (mz_vs_t hvs))))
            rcases k1 with ⟨i0, n0, q0, i1, n1, q1, hsh0, hsh1, ⟨g1, g2, g3, g4, g5⟩, k2⟩ | ⟨i0, n0, q0, i1, n1, q1, hsh0, hsh1, ⟨g1, g2, g3, g4, g5⟩, k2⟩
            ·
              refine va_copyi (rest := r.map (mz_cv ad)) hx hb (hml.trans hls.symm) hown (gw _ (mz_lw_m w0) rfl) (gw _ (mz_lw_m w1) rfl) (gw _ (mz_lw_m w2) rfl) (gw _ (mz_lw_m w3) rfl) hK hP hD hS p0 p1 i0 i1 (mz_w_get (cA := cA) (ad := ad) (μ := μ) hv0 hsh0) (mz_w_get (cA := cA) (ad := ad) (μ := μ) hv1 hsh1) (mz_ty_at (hS0 _ _ _ _ hsh0)) (mz_ty_at (hS0 _ _ _ _ hsh1)) rfl g1 g2 g3 g4 g5 (fun _ _ => rfl) (show 1 ≤ d + 1 by omega) (by rw [mz_cs_sum]; show mz_cs r + (nativeFrameWords "java/lang/System" "arraycopy" 5 + 11) ≤ 60 * (d + 1) + 100; omega) hd (fun H1 locs1 a1 a2 a3 => k2 H1 locs1 ls (mz_has_kp kn hl) (mz_vl_kp kn hvl) hvr ?_ a3)
              have e := mz_w_set (cA := cA) (ad := ad) (μ := μ) (μ' := mz_cI μ p0 p1 ss.toNatClampNeg dd.toNatClampNeg n.toNatClampNeg) hv1 hsh1 (fun q hq => ⟨by simp [mz_cI, mz_wr, hq], rfl⟩)
              rw [← e]
              have e2 : mz_cell cA ad (mz_cI μ p0 p1 ss.toNatClampNeg dd.toNatClampNeg n.toNatClampNeg) p1 (.inr (i1, n1, 0, q1)) = .inl (cA i1, n1, .inl (va_cpy (μ.1 p0) (μ.1 p1) ss.toNatClampNeg dd.toNatClampNeg n.toNatClampNeg)) := by
                show Sum.inl (cA i1, n1, Sum.inl (mz_wr μ.1 p1 _ p1)) = _
                simp [mz_wr]
              rw [e2]
              exact a1
            ·
              refine va_copyl (rest := r.map (mz_cv ad)) hx hb (hml.trans hls.symm) hown (gw _ (mz_lw_m w0) rfl) (gw _ (mz_lw_m w1) rfl) (gw _ (mz_lw_m w2) rfl) (gw _ (mz_lw_m w3) rfl) hK hP hD hS p0 p1 i0 i1 (mz_w_get (cA := cA) (ad := ad) (μ := μ) hv0 hsh0) (mz_w_get (cA := cA) (ad := ad) (μ := μ) hv1 hsh1) (mz_ty_at (hS1 _ _ _ _ hsh0)) (mz_ty_at (hS1 _ _ _ _ hsh1)) rfl g1 g2 g3 g4 g5 (fun _ _ => rfl) (show 1 ≤ d + 1 by omega) (by rw [mz_cs_sum]; show mz_cs r + (nativeFrameWords "java/lang/System" "arraycopy" 5 + 11) ≤ 60 * (d + 1) + 100; omega) hd (fun H1 locs1 a1 a2 a3 => k2 H1 locs1 ls (mz_has_kp kn hl) (mz_vl_kp kn hvl) hvr ?_ a3)
              have e := mz_w_set (cA := cA) (ad := ad) (μ := μ) (μ' := mz_cL μ p0 p1 ss.toNatClampNeg dd.toNatClampNeg n.toNatClampNeg) hv1 hsh1 (fun q hq => ⟨rfl, by simp [mz_cL, mz_wr, hq]⟩)
              rw [← e]
              have e2 : mz_cell cA ad (mz_cL μ p0 p1 ss.toNatClampNeg dd.toNatClampNeg n.toNatClampNeg) p1 (.inr (i1, n1, 1, q1)) = .inl (cA i1, n1, .inr (.inl (va_cpy (μ.2 p0) (μ.2 p1) ss.toNatClampNeg dd.toNatClampNeg n.toNatClampNeg))) := by
                show Sum.inl (cA i1, n1, Sum.inr (Sum.inl (mz_wr μ.2 p1 _ p1))) = _
                simp [mz_wr]
              rw [e2]
              exact a1
        · cases hok2
      | succ z =>
        obtain ⟨y, n, k, t, ml, nest, pl, me', rfl, hy, hst, hn, hml', hlk⟩ := mz_oka_i hok
        obtain ⟨as, rest, r, μ', e1, rfl, e3, e4, e5, e6, k1⟩ := mz_cl_i (C := C) (g := fun _ => true) (y := y) (n := n) (k := k) (t := t) (ml := ml) (a' := [nest, pl]) (st := st) (μ := μ) (f := fun v μ' => mz_PW p l e (mz_room (d + 1)) s m args below meth c SH LAY cA ad D cls me.2.2.1 (MQ below (mz_QC SH LAY cA ad D cls r0 μ0) args s 0 0 (mz_A LAY ad)) (pc + 3, mz_kp kn L, v, μ')) h
        have hvas : ∀ v ∈ as, mz_vd LAY v := fun v hv => hvs v (List.mem_append_left _ (List.mem_reverse.mpr hv))
        refine mz_callW (me' := me') rfl hM hC hX0 hls hP hS hy hst (e1.trans hn) e3 (by rw [← hml']; exact e4) hlk hd (fun q => by cases q) hvas e6 (fun H1 locs1 a1 a2 a3 => ?_)
        have go := k1 H1 locs1 ls (mz_has_kp kn hl) (mz_vl_kp kn hvl) (mz_vs_app (fun v hv => a1 v (by cases r with
          | none => cases hv
          | some z => rcases List.mem_cons.mp hv with rfl | hv
                      · rfl
                      · cases hv)) (fun v hv => hvs v (List.mem_append_right _ hv))) a2 a3
        have e : (r.map (mz_cv ad)).toList ++ rest.map (mz_cv ad) = (r.toList ++ rest).map (mz_cv ad) := by
          cases r <;> rfl
        rw [e]
        exact go
  case iadd =>
    obtain rfl := of_decide_eq_true hok
    obtain ⟨x, y, r, rfl, h⟩ := mz_p2_i h
    exact lv_iadd hx hb hd (h H locs ls (mz_has_kp kn hl) (mz_vl_kp kn hvl) (mz_vs_c trivial (mz_vs_t (mz_vs_t hvs))) hP hS)
  case isub =>
    obtain rfl := of_decide_eq_true hok
    obtain ⟨x, y, r, rfl, h⟩ := mz_p2_i h
    exact lv_isub hx hb hd (h H locs ls (mz_has_kp kn hl) (mz_vl_kp kn hvl) (mz_vs_c trivial (mz_vs_t (mz_vs_t hvs))) hP hS)
  case imul =>
    obtain rfl := of_decide_eq_true hok
    obtain ⟨x, y, r, rfl, h⟩ := mz_p2_i h
    exact lv_imul hx hb hd (h H locs ls (mz_has_kp kn hl) (mz_vl_kp kn hvl) (mz_vs_c trivial (mz_vs_t (mz_vs_t hvs))) hP hS)
  case iand =>
    obtain rfl := of_decide_eq_true hok
    obtain ⟨x, y, r, rfl, h⟩ := mz_p2_i h
    exact lv_iand hx hb hd (h H locs ls (mz_has_kp kn hl) (mz_vl_kp kn hvl) (mz_vs_c trivial (mz_vs_t (mz_vs_t hvs))) hP hS)
  case ior =>
    obtain rfl := of_decide_eq_true hok
    obtain ⟨x, y, r, rfl, h⟩ := mz_p2_i h
    exact lv_ior hx hb hd (h H locs ls (mz_has_kp kn hl) (mz_vl_kp kn hvl) (mz_vs_c trivial (mz_vs_t (mz_vs_t hvs))) hP hS)
  case ixor =>
    obtain rfl := of_decide_eq_true hok
    obtain ⟨x, y, r, rfl, h⟩ := mz_p2_i h
    exact lv_ixor hx hb hd (h H locs ls (mz_has_kp kn hl) (mz_vl_kp kn hvl) (mz_vs_c trivial (mz_vs_t (mz_vs_t hvs))) hP hS)
  case ishl =>
    obtain rfl := of_decide_eq_true hok
    obtain ⟨x, y, r, rfl, h⟩ := mz_p2_i h
    exact lv_ishl hx hb hd (h H locs ls (mz_has_kp kn hl) (mz_vl_kp kn hvl) (mz_vs_c trivial (mz_vs_t (mz_vs_t hvs))) hP hS)
  case idiv =>
    obtain rfl := of_decide_eq_true hok
    obtain ⟨x, y, r, rfl, k1⟩ := mz_p2_i h
    exact lv_idiv hx hb hd k1.1 (k1.2 H locs ls (mz_has_kp kn hl) (mz_vl_kp kn hvl) (mz_vs_c trivial (mz_vs_t (mz_vs_t hvs))) hP hS)
  case irem =>
    obtain rfl := of_decide_eq_true hok
    obtain ⟨x, y, r, rfl, k1⟩ := mz_p2_i h
    exact lv_irem hx hb hd k1.1 (k1.2 H locs ls (mz_has_kp kn hl) (mz_vl_kp kn hvl) (mz_vs_c trivial (mz_vs_t (mz_vs_t hvs))) hP hS)
  case ladd =>
    obtain rfl := of_decide_eq_true hok
    obtain ⟨x, y, r, rfl, h⟩ := mz_g2_i h
    exact lv_ladd hx hb hd (h H locs ls (mz_has_kp kn hl) (mz_vl_kp kn hvl) (mz_vs_c trivial (mz_vs_t (mz_vs_t hvs))) hP hS)
  case lsub =>
    obtain rfl := of_decide_eq_true hok
    obtain ⟨x, y, r, rfl, h⟩ := mz_g2_i h
    exact lv_lsub hx hb hd (h H locs ls (mz_has_kp kn hl) (mz_vl_kp kn hvl) (mz_vs_c trivial (mz_vs_t (mz_vs_t hvs))) hP hS)
  case lmul =>
    obtain rfl := of_decide_eq_true hok
    obtain ⟨x, y, r, rfl, h⟩ := mz_g2_i h
    exact lv_lmul hx hb hd (h H locs ls (mz_has_kp kn hl) (mz_vl_kp kn hvl) (mz_vs_c trivial (mz_vs_t (mz_vs_t hvs))) hP hS)
  case land =>
    obtain rfl := of_decide_eq_true hok
    obtain ⟨x, y, r, rfl, h⟩ := mz_g2_i h
    exact lv_land hx hb hd (h H locs ls (mz_has_kp kn hl) (mz_vl_kp kn hvl) (mz_vs_c trivial (mz_vs_t (mz_vs_t hvs))) hP hS)
  case ldiv =>
    obtain rfl := of_decide_eq_true hok
    obtain ⟨x, y, r, rfl, k1⟩ := mz_g2_i h
    exact lv_ldiv hx hb hd k1.1 (k1.2 H locs ls (mz_has_kp kn hl) (mz_vl_kp kn hvl) (mz_vs_c trivial (mz_vs_t (mz_vs_t hvs))) hP hS)
  case lrem =>
    obtain rfl := of_decide_eq_true hok
    obtain ⟨x, y, r, rfl, k1⟩ := mz_g2_i h
    exact lv_lrem hx hb hd k1.1 (k1.2 H locs ls (mz_has_kp kn hl) (mz_vl_kp kn hvl) (mz_vs_c trivial (mz_vs_t (mz_vs_t hvs))) hP hS)
  case lcmp =>
    obtain rfl := of_decide_eq_true hok
    obtain ⟨x, y, r, rfl, h⟩ := mz_g2_i h
    exact W.lcmp hx hb hd (h H locs ls (mz_has_kp kn hl) (mz_vl_kp kn hvl) (mz_vs_c trivial (mz_vs_t (mz_vs_t hvs))) hP hS)
  case ineg =>
    obtain rfl := of_decide_eq_true hok
    obtain ⟨x, r, rfl, h⟩ := mz_p1_i h
    exact lv_ineg hx hb hd (h H locs ls (mz_has_kp kn hl) (mz_vl_kp kn hvl) (mz_vs_c trivial (mz_vs_t hvs)) hP hS)
  case lneg =>
    obtain rfl := of_decide_eq_true hok
    obtain ⟨x, r, rfl, h⟩ := mz_g1_i h
    exact lv_lneg hx hb hd (h H locs ls (mz_has_kp kn hl) (mz_vl_kp kn hvl) (mz_vs_c trivial (mz_vs_t hvs)) hP hS)
  case i2l =>
    obtain rfl := of_decide_eq_true hok
    obtain ⟨x, r, rfl, h⟩ := mz_p1_i h
    exact lv_i2l hx hb hd rfl (h H locs ls (mz_has_kp kn hl) (mz_vl_kp kn hvl) (mz_vs_c trivial (mz_vs_t hvs)) hP hS)
  case l2i =>
    obtain rfl := of_decide_eq_true hok
    obtain ⟨x, r, rfl, h⟩ := mz_g1_i h
    exact lv_l2i hx hb hd rfl (h H locs ls (mz_has_kp kn hl) (mz_vl_kp kn hvl) (mz_vs_c trivial (mz_vs_t hvs)) hP hS)
  case i2b =>
    obtain rfl := of_decide_eq_true hok
    obtain ⟨x, r, rfl, h⟩ := mz_p1_i h
    exact lv_i2b hx hb hd rfl (h H locs ls (mz_has_kp kn hl) (mz_vl_kp kn hvl) (mz_vs_c trivial (mz_vs_t hvs)) hP hS)
  case i2s =>
    obtain rfl := of_decide_eq_true hok
    obtain ⟨x, r, rfl, h⟩ := mz_p1_i h
    exact lv_i2s hx hb hd rfl (h H locs ls (mz_has_kp kn hl) (mz_vl_kp kn hvl) (mz_vs_c trivial (mz_vs_t hvs)) hP hS)
  case pop =>
    obtain rfl := of_decide_eq_true hok
    match st, h, hvs with
    | .inl x :: r, h, hvs => exact lv_pop hx hb hd rfl (h H locs ls (mz_has_kp kn hl) (mz_vl_kp kn hvl) (mz_vs_t hvs) hP hS)
  case dup =>
    obtain rfl := of_decide_eq_true hok
    match st, h, hvs with
    | .inl x :: r, h, hvs => exact lv_dup hx hb hd rfl (h H locs ls (mz_has_kp kn hl) (mz_vl_kp kn hvl) (mz_vs_c trivial hvs) hP hS)
    | .inr (.inr (t, pp)) :: r, h, hvs => exact lv_dup hx hb hd rfl (h H locs ls (mz_has_kp kn hl) (mz_vl_kp kn hvl) (mz_vs_c (mz_vs_h hvs) hvs) hP hS)
  case dup2 =>
    obtain rfl := of_decide_eq_true hok
    match st, h, hvs with
    | .inl x :: .inr (.inr (t, pp)) :: r, h, hvs => exact lv_dup2_11 hx hb hd rfl rfl (h H locs ls (mz_has_kp kn hl) (mz_vl_kp kn hvl) (mz_vs_c trivial (mz_vs_c (mz_vs_h (mz_vs_t hvs)) hvs)) hP hS)
  case ireturn =>
    simp only [Bool.and_eq_true, decide_eq_true_eq] at hok
    obtain ⟨rfl, hrt⟩ := hok
    have fin : ∀ x : Int32, some (mz_I x) = r0 ∧ μ = μ0 → ∀ t : State, t.heap = H → s.WarmedH t.vm → mz_QC SH LAY cA ad D cls r0 μ0 args s (.returned (some (.int x))) t := by
      intro x hq t ht _
      obtain ⟨rfl, rfl⟩ := hq
      exact ⟨rfl, fun v hv => by cases hv; trivial, by rw [ht]; exact hP, hS.F ht⟩
    match st, h with
    | [.inl x], h =>
      match ha : mz_a0 a, h, hrt with
      | 0, h, hrt =>
        dsimp only [mz_op] at h
        rw [ha] at h
        exact W.iret hx hb (hr.trans hrt) (fin x h) hS.2.2 hd hlocks
      | n + 1, h, hrt =>
        dsimp only [mz_op] at h
        rw [ha] at h
        obtain ⟨hb01, h⟩ := h
        refine W.zret (ty := .boolean) hx hb (hr.trans hrt) ?_ (fin x h) hS.2.2 hd hlocks
        rcases hb01 with rfl | rfl
        · decide +kernel
        · decide +kernel
  case lreturn =>
    simp only [Bool.and_eq_true, decide_eq_true_eq] at hok
    obtain ⟨rfl, hrt⟩ := hok
    match st, h with
    | [.inr (.inl x)], h =>
      obtain ⟨rfl, rfl⟩ := h
      exact W.lret hx hb (hr.trans hrt) (fun t ht _ => ⟨rfl, fun v hv => by cases hv; trivial, by rw [ht]; exact hP, hS.F ht⟩) hS.2.2 hd hlocks
  case areturn =>
    rw [Bool.and_eq_true] at hok
    obtain ⟨h3, hok⟩ := hok
    obtain rfl := of_decide_eq_true h3
    match st, h, hvs with
    | [.inr (.inr (t', pp))], h, hvs =>
      obtain ⟨rfl, rfl⟩ := h
      split at hok
      · next nm hrt =>
        exact W.aret hx hb (hr.trans hrt) (Or.inl ⟨_, rfl⟩) (Or.inr ⟨_, rfl⟩) (fun t ht _ => ⟨rfl, fun v hv => by cases hv; exact mz_vs_h hvs, by rw [ht]; exact hP, hS.F ht⟩) hS.2.2 hd hlocks
      · cases hok
  case return_ =>
    simp only [Bool.and_eq_true, decide_eq_true_eq] at hok
    obtain ⟨rfl, hrt⟩ := hok
    match st, h with
    | [], h =>
      obtain ⟨rfl, rfl⟩ := h
      exact W.vret hx hb (hr.trans hrt) (fun t ht _ => ⟨rfl, fun v hv => (by cases hv), by rw [ht]; exact hP, hS.F ht⟩) hS.2.2 hd hlocks
  all_goals exact h.elim
theorem mz_sl_len : ∀ b : List mz_V, (lg_sl (b.map (mz_cv ad))).length = mz_cs b
  | [] => rfl
  | v :: r => by
    have ih := mz_sl_len r
    unfold lg_sl at ih ⊢
    rw [List.map_cons, List.flatMap_cons, List.length_append, ih, mz_cat_cv]
    match v with
    | .inl _ => rfl
    | .inr (.inl _) => rfl
    | .inr (.inr _) => rfl
theorem mz_ent_args : ∀ (i : Nat) (a : List mz_V), mz_lc ad (mz_ent i a) = lv_args i (a.map (mz_cv ad))
  | _, [] => rfl
  | i, v :: r => by
    have ih := mz_ent_args (i + mz_cat v) r
    show (i, mz_cv ad v) :: mz_lc ad (mz_ent (i + mz_cat v) r) = (i, mz_cv ad v) :: lv_args (if (mz_cv ad v).category = 2 then i + 2 else i + 1) (r.map (mz_cv ad))
    rw [ih, mz_cat_cv]
    match v with
    | .inl _ => rfl
    | .inr (.inl _) => rfl
    | .inr (.inr _) => rfl
theorem mz_ent_mem {q : Nat × mz_V} : ∀ {i : Nat} {a : List mz_V}, q ∈ mz_ent i a → q.2 ∈ a
  | _, [], h => by cases h
  | i, v :: r, h => by
    rcases List.mem_cons.mp h with rfl | h
    · exact List.mem_cons_self
    · exact List.mem_cons_of_mem _ (mz_ent_mem h)
set_option maxHeartbeats 4000000 in
/-- a run of the second machine is a contract of the first -/
theorem mz_sound (TB : Nat → mz_T) (hT : ∀ (y : Nat) (me : mz_Me), mz_nth MS y = some me → TB y = me.2.2.2.2.2.2.2) (hW : mz_Wd SH LAY ad cls TBL ats) (hM : ∀ (y : Nat) (me : mz_Me), mz_nth MS y = some me → mz_okM TBL host cls MS me = true) : ∀ d : Nat, mz_Hc l SH LAY cA ad D cls TBL MS ats d (mz_Rel SH TB d)
  | 0 => fun y a μ r μ' me h => h.elim
  | d + 1 => by
    intro y a μ r μ' me h hy hva hcs
    have hC := mz_sound TB hT hW hM d
    obtain ⟨o1, o2, o3, o4, o5, o6, o7, o8, o9⟩ := mz_okM_i (hM y me hy)
    refine Met.ofW (cc := me.2.1) (maxL := me.2.2.1) (ret := me.2.2.2.1) o5 rfl ?_
    intro p e s m args below meth c s₁ B hml hv
    obtain ⟨rfl, hP, hK, hN⟩ := hv
    have hX : mz_Cx p s m (a.map (mz_cv ad)).toArray meth c cA D cls TBL ats me := ⟨B.exec, B.bytes, hml, findClass_of_methodNamed B.named, atoms_spec (ws := mz_ws TBL me) B.pre, B.returns, B.notSynchronized, hK, hN⟩
    have hstep := h (mz_PW p l e (mz_room (d + 1)) s m (a.map (mz_cv ad)).toArray below meth c SH LAY cA ad D cls me.2.2.1 (MQ below (mz_QC SH LAY cA ad D cls r μ') (a.map (mz_cv ad)).toArray s 0 0 (mz_A LAY ad))) (by
      intro z hz
      unfold mz_step at hz
      rw [hT y me hy] at hz
      match hk : mz_nth me.2.2.2.2.2.2.2 z.1, hz with
      | some (some ee), hz =>
        have hok := mz_okR_at o9 hk
        rw [Nat.zero_add] at hok
        exact mz_opW hW hM hC hX hok hz)
    have hlen : (lg_sl (a.map (mz_cv ad))).length ≤ me.2.2.1 := by
      rw [mz_sl_len]
      exact hcs
    have hl := lv_entry (a.map (mz_cv ad)) hlen
    rw [lg_entry_eq]
    refine hstep s.heap [] _ ?_ (fun q hq => hva _ (mz_ent_mem hq)) (fun v hv => by cases hv) hP va_S.rf
    show lv_has _ _ (mz_lc ad (mz_ent 0 a))
    rw [mz_ent_args]
    exact hl
end MZU
end
