/-! A second machine, over numbers alone: objects are places of a fixed layout, a state is what their whole-number fields and rows hold. mz_Ev: from a state a method comes to a return with Q. -/
abbrev mz_V : Type := Int32 ⊕ (Int64 ⊕ (Nat × Nat))
abbrev mz_I (x : Int32) : mz_V := .inl x
abbrev mz_L (x : Int64) : mz_V := .inr (.inl x)
abbrev mz_R (t p : Nat) : mz_V := .inr (.inr (t, p))
abbrev mz_M : Type := (Nat → Nat → Int32) × (Nat → Nat → Int64)
abbrev mz_Lo : Type := List (Nat × mz_V)
abbrev mz_S : Type := Nat × mz_Lo × List mz_V × mz_M
/-- instruction, length, int constant, long constant, numbers, a switch's pairs, locals kept at the target, locals kept at the next instruction -/
abbrev mz_E : Type := Instr × Nat × Int32 × Int64 × List Nat × List (Nat × Nat) × Option (List Nat) × Option (List Nat)
abbrev mz_T : Type := List (Option mz_E)
abbrev mz_q (i : Instr) (n : Nat) : Option mz_E := some (i, n, 0, 0, [], [], none, none)
abbrev mz_qc (i : Instr) (n : Nat) (c : Int32) : Option mz_E := some (i, n, c, 0, [], [], none, none)
abbrev mz_ql (i : Instr) (n : Nat) (c : Int64) (a : List Nat) : Option mz_E := some (i, n, 0, c, a, [], none, none)
abbrev mz_qa (i : Instr) (n : Nat) (a : List Nat) : Option mz_E := some (i, n, 0, 0, a, [], none, none)
abbrev mz_qk (i : Instr) (n : Nat) (c : Int32) (a : List Nat) (ps : List (Nat × Nat)) (kt kn : Option (List Nat)) : Option mz_E := some (i, n, c, 0, a, ps, kt, kn)
def mz_cat (v : mz_V) : Nat := match v with
  | .inl _ => 1
  | .inr (.inl _) => 2
  | .inr (.inr _) => 1
def mz_nth {α : Type} : List α → Nat → Option α
  | [], _ => none
  | a :: _, 0 => some a
  | _ :: r, n + 1 => mz_nth r n
def mz_lk : mz_Lo → Nat → Option mz_V
  | [], _ => none
  | q :: r, i => bif Nat.beq q.1 i then some q.2 else mz_lk r i
def mz_ins (i : Nat) (v : mz_V) : mz_Lo → mz_Lo
  | [] => [(i, v)]
  | q :: r => bif Nat.ble q.1 i then q :: mz_ins i v r else (i, v) :: q :: r
/-- what stays when a value is stored at i (and, where w, at i + 1) -/
def mz_rm (i : Nat) (w : Bool) : mz_Lo → mz_Lo
  | [] => []
  | q :: r => bif Nat.beq q.1 i || (w && Nat.beq q.1 (i + 1)) || (Nat.beq (q.1 + 1) i && Nat.beq (mz_cat q.2) 2) then mz_rm i w r else q :: mz_rm i w r
def mz_st1 (L : mz_Lo) (i : Nat) (v : mz_V) : mz_Lo := mz_ins i v (mz_rm i false L)
def mz_st2 (L : mz_Lo) (i : Nat) (v : mz_V) : mz_Lo := mz_ins i v (mz_rm i true L)
def mz_el (i : Nat) : List Nat → Bool
  | [] => false
  | k :: r => Nat.beq k i || mz_el i r
def mz_kl (ks : List Nat) : mz_Lo → mz_Lo
  | [] => []
  | q :: r => bif mz_el q.1 ks then q :: mz_kl ks r else mz_kl ks r
def mz_kp (o : Option (List Nat)) (L : mz_Lo) : mz_Lo := match o with
  | none => L
  | some ks => mz_kl ks L
/-- a field: a number, or a fixed place (from its own on, or from the start), of a kind -/
abbrev mz_F : Type := Option (Bool × Nat × Nat)
/-- an object: its class's number, its fields; a row: number of its type, length, 0 ints 1 longs 2 references, then of these their kind and places -/
abbrev mz_Sh : Type := (Nat × List mz_F) ⊕ (Nat × Nat × Nat × Nat × Bool × Nat × Nat)
def mz_pl (b : Bool) (p off : Nat) : Nat := bif b then p + off else off
def mz_wr {α : Type} (g : Nat → α) (p : Nat) (f : α) : Nat → α := fun q => if q = p then f else g q
def mz_wI (μ : mz_M) (p k : Nat) (x : Int32) : mz_M := (mz_wr μ.1 p (upd (μ.1 p) k x), μ.2)
def mz_wL (μ : mz_M) (p k : Nat) (x : Int64) : mz_M := (μ.1, mz_wr μ.2 p (vp_updL (μ.2 p) k x))
def mz_cI (μ : mz_M) (p0 p1 a b n : Nat) : mz_M := (mz_wr μ.1 p1 (va_cpy (μ.1 p0) (μ.1 p1) a b n), μ.2)
def mz_cL (μ : mz_M) (p0 p1 a b n : Nat) : mz_M := (μ.1, mz_wr μ.2 p1 (va_cpy (μ.2 p0) (μ.2 p1) a b n))
def mz_cs : List mz_V → Nat
  | [] => 0
  | v :: r => mz_cat v + mz_cs r
def mz_tk : Nat → List mz_V → List mz_V → Option (List mz_V × List mz_V)
  | 0, acc, st => some (acc, st)
  | _ + 1, _, [] => none
  | n + 1, acc, v :: st => mz_tk n (v :: acc) st
def mz_ent : Nat → List mz_V → mz_Lo
  | _, [] => []
  | i, v :: r => (i, v) :: mz_ent (i + mz_cat v) r
abbrev mz_Cl : Type := Nat → List mz_V → mz_M → Option mz_V → mz_M → Prop
/-- one and two numbers from the stack -/
def mz_p1 (st : List mz_V) (f : Int32 → List mz_V → Prop) : Prop := match st with
  | .inl x :: r => f x r
  | _ => False
def mz_p2 (st : List mz_V) (f : Int32 → Int32 → List mz_V → Prop) : Prop := match st with
  | .inl y :: .inl x :: r => f x y r
  | _ => False
def mz_g1 (st : List mz_V) (f : Int64 → List mz_V → Prop) : Prop := match st with
  | .inr (.inl x) :: r => f x r
  | _ => False
def mz_g2 (st : List mz_V) (f : Int64 → Int64 → List mz_V → Prop) : Prop := match st with
  | .inr (.inl y) :: .inr (.inl x) :: r => f x y r
  | _ => False
def mz_h1 (st : List mz_V) (f : Nat → Nat → List mz_V → Prop) : Prop := match st with
  | .inr (.inr (t, p)) :: r => f t p r
  | _ => False
def mz_li (L : mz_Lo) (i : Nat) (f : Int32 → Prop) : Prop := match mz_lk L i with
  | some (.inl x) => f x
  | _ => False
def mz_ll (L : mz_Lo) (i : Nat) (f : Int64 → Prop) : Prop := match mz_lk L i with
  | some (.inr (.inl x)) => f x
  | _ => False
def mz_lr (L : mz_Lo) (i : Nat) (f : Nat → Nat → Prop) : Prop := match mz_lk L i with
  | some (.inr (.inr (t, p))) => f t p
  | _ => False
def mz_a0 (a : List Nat) : Nat := match a with
  | [] => 0
  | k :: _ => k
def mz_ic (op : ClassFile.Cond) (x y : Int32) (A B : Prop) : Prop := match op with
  | .eq => if x = y then A else B
  | .ne => if x = y then B else A
  | .lt => if x < y then A else B
  | .ge => if y ≤ x then A else B
  | .gt => if y < x then A else B
  | .le => if x ≤ y then A else B
def mz_if (op : ClassFile.Cond) (x : Int32) (A B : Prop) : Prop := match op with
  | .eq => if x = 0 then A else B
  | .ne => if x = 0 then B else A
  | .lt => if x < 0 then A else B
  | .ge => if 0 ≤ x then A else B
  | .gt => if 0 < x then A else B
  | .le => if x ≤ 0 then A else B
def mz_sw (x : Int32) (K : Nat → Prop) (d : Nat) : List (Nat × Nat) → Prop
  | [] => K d
  | q :: r => if x = nI q.1 then K q.2 else mz_sw x K d r
def mz_bool (b : Nat) (x : Int32) (A : Prop) : Prop := match b with
  | 0 => A
  | _ + 1 => (x = 0 ∨ x = 1) ∧ A
/-- a call's answer, by its kind: 0 none, 1 int, 2 long, 3 a reference of a kind -/
def mz_an (k t : Nat) (R : Option mz_V → mz_M → Prop) (f : List mz_V → mz_M → Prop) : Prop := match k with
  | 0 => ∃ μ, R none μ ∧ f [] μ
  | 1 => ∃ x μ, R (some (mz_I x)) μ ∧ f [mz_I x] μ
  | 2 => ∃ x μ, R (some (mz_L x)) μ ∧ f [mz_L x] μ
  | _ => ∃ p μ, R (some (mz_R t p)) μ ∧ f [mz_R t p] μ
/-- a call: method, arguments with the object, kind of answer, its own kind; mz_rv: the object is of a class -/
def mz_rv (SH : List mz_Sh) (cj : Nat) (as : List mz_V) : Bool := match as with
  | .inr (.inr (t, _)) :: _ => (match mz_nth SH t with
    | some (.inl (ci, _)) => Nat.beq ci cj
    | _ => false)
  | _ => false
def mz_cl (C : mz_Cl) (g : List mz_V → Bool) (a : List Nat) (st : List mz_V) (μ : mz_M) (f : List mz_V → mz_M → Prop) : Prop := match a with
  | y :: n :: k :: t :: ml :: _ => (match mz_tk n [] st with
    | some (as, rest) => bif Nat.ble (mz_cs rest) 8 && Nat.ble (mz_cs as) ml && g as then mz_an k t (fun r μ' => C y as μ r μ') (fun v μ' => f (v ++ rest) μ') else False
    | none => False)
  | _ => False
/-- System.arraycopy of ints, of longs -/
def mz_ac (SH : List mz_Sh) (st : List mz_V) (fI fL : Nat → Nat → Int32 → Int32 → Int32 → List mz_V → Prop) : Prop := match st with
  | .inl n :: .inl d :: .inr (.inr (t1, p1)) :: .inl s :: .inr (.inr (t0, p0)) :: r => (match mz_nth SH t0, mz_nth SH t1 with
    | some (.inr (_, n0, 0, _)), some (.inr (_, n1, 0, _)) => (¬ s < 0 ∧ ¬ d < 0 ∧ ¬ n < 0 ∧ s.toNatClampNeg + n.toNatClampNeg ≤ n0 ∧ d.toNatClampNeg + n.toNatClampNeg ≤ n1) ∧ (bif Nat.ble (mz_cs r) 8 then fI p0 p1 s d n r else False)
    | some (.inr (_, n0, 1, _)), some (.inr (_, n1, 1, _)) => (¬ s < 0 ∧ ¬ d < 0 ∧ ¬ n < 0 ∧ s.toNatClampNeg + n.toNatClampNeg ≤ n0 ∧ d.toNatClampNeg + n.toNatClampNeg ≤ n1) ∧ (bif Nat.ble (mz_cs r) 8 then fL p0 p1 s d n r else False)
    | _, _ => False)
  | _ => False
