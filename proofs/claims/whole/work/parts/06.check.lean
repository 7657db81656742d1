/-! What must hold of a method's rows beside the tables: a program checks it. -/
/-- name, bytes, locals, answer's type, arguments without the object, static, places of its words in the tables (code, initialized, static or instanceMethod, selects), rows -/
abbrev mz_Me : Type := MethodName × ByteArray × Nat × Option FieldType × Nat × Bool × List Nat × mz_T
def mz_lw (TBL : List Jvm.Cond) (pl : Nat) (w : Jvm.Cond) : Bool := decide (TBL[pl]? = some w)
def mz_prs (pc : Nat) : Int → List Int → List (Nat × Nat)
  | _, [] => []
  | lo, o :: r => (lo.toNat, ((pc : Int) + o).toNat) :: mz_prs pc (lo + 1) r
def mz_prl (pc : Nat) : List (Int × Int) → List (Nat × Nat)
  | [] => []
  | q :: r => (q.1.toNat, ((pc : Int) + q.2).toNat) :: mz_prl pc r
def mz_oka (TBL : List Jvm.Cond) (host : String) (MS : List mz_Me) (own : String) (idx : Nat) (st : Bool) (a : List Nat) : Bool := match a with
  | [y, n, _, _, ml, nest, pl] => (match mz_nth MS y with
    | some me => decide (me.2.2.2.2.2.1 = st) && decide (n = me.2.2.2.2.1 + (bif st then 0 else 1)) && decide (ml = me.2.2.1) && (match nest with
      | 0 => mz_lw TBL pl (.methodLink own idx me.1)
      | _ + 1 => mz_lw TBL pl (.methodLinkNest own idx me.1 host))
    | none => false)
  | _ => false
def mz_okc (TBL : List Jvm.Cond) (host : String) (cls : List vw_C) (own : String) (idx : Nat) (ci f nest pl : Nat) : Bool := match cls[ci]? with
  | some q => decide (f < q.2.2) && (match nest with
    | 0 => mz_lw TBL pl (.fieldLink own idx (q.2.1 f).1 (q.2.1 f).2.1 (q.2.1 f).2.2.1)
    | _ + 1 => mz_lw TBL pl (.fieldLinkNest own idx (q.2.1 f).1 (q.2.1 f).2.1 (q.2.1 f).2.2.1 host))
  | none => false
def mz_okac (TBL : List Jvm.Cond) (own : String) (k : Nat) (a : List Nat) : Bool := match a with
  | [p0, p1, p2, p3] => mz_lw TBL p0 (.methodLink own k arraycopyName) && mz_lw TBL p1 (.native arraycopyName) && mz_lw TBL p2 (.static arraycopyName) && mz_lw TBL p3 (.initialized "java/lang/System")
  | _ => false
set_option maxHeartbeats 1000000 in
def mz_ok (TBL : List Jvm.Cond) (host : String) (cls : List vw_C) (MS : List mz_Me) (me : mz_Me) (pc : Nat) (e : mz_E) : Bool :=
  decide (decode me.2.1 pc = .ok (e.1, e.2.1)) && (match e with
  | (i, len, c, cl, a, ps, kt, kn) => match i with
    | .iconst n => decide (len = 1) && decide (Int32.ofInt n = c)
    | .bipush n => decide (len = 2) && decide ((Int8.ofInt n).toInt32 = c)
    | .sipush n => decide (len = 3) && decide ((Int16.ofInt n).toInt32 = c)
    | .ldc k => decide (len = 2) && mz_lw TBL (mz_a0 a) (.constant me.1.cls k c)
    | .ldc_w k => decide (len = 3) && mz_lw TBL (mz_a0 a) (.constant me.1.cls k c)
    | .lconst n => decide (len = 1) && decide (Int64.ofNat (n : Nat) = cl)
    | .ldc2_w k => decide (len = 3) && mz_lw TBL (mz_a0 a) (.constantLong me.1.cls k cl)
    | .iload_n k => decide (len = 1) && decide ((k : Nat) = mz_a0 a)
    | .iload k => decide (len = 2) && decide (k = mz_a0 a)
    | .lload_n k => decide (len = 1) && decide ((k : Nat) = mz_a0 a)
    | .lload k => decide (len = 2) && decide (k = mz_a0 a)
    | .aload_n k => decide (len = 1) && decide ((k : Nat) = mz_a0 a)
    | .aload k => decide (len = 2) && decide (k = mz_a0 a)
    | .istore_n k => decide (len = 1) && decide ((k : Nat) = mz_a0 a) && decide (mz_a0 a < me.2.2.1)
    | .istore k => decide (len = 2) && decide (k = mz_a0 a) && decide (mz_a0 a < me.2.2.1)
    | .lstore_n k => decide (len = 1) && decide ((k : Nat) = mz_a0 a) && decide (mz_a0 a + 1 < me.2.2.1)
    | .lstore k => decide (len = 2) && decide (k = mz_a0 a) && decide (mz_a0 a + 1 < me.2.2.1)
    | .astore_n k => decide (len = 1) && decide ((k : Nat) = mz_a0 a) && decide (mz_a0 a < me.2.2.1)
    | .astore k => decide (len = 2) && decide (k = mz_a0 a) && decide (mz_a0 a < me.2.2.1)
    | .iinc k n => decide (len = 3) && decide (k = mz_a0 a) && decide (mz_a0 a < me.2.2.1) && decide (Int32.ofInt n = c)
    | .goto off => decide (len = 3) && decide ((pc : Int) + off = (mz_a0 a : Int))
    | .if_icmp _ off => decide (len = 3) && decide ((pc : Int) + off = (mz_a0 a : Int))
    | .ifCond _ off => decide (len = 3) && decide ((pc : Int) + off = (mz_a0 a : Int))
    | .tableswitch d lo hi offs => decide ((pc : Int) + d = (mz_a0 a : Int)) && decide (ps = mz_prs pc lo offs.toList) && decide (hi = lo + offs.toList.length - 1) && decide (0 ≤ lo) && decide (hi < 2147483648) && offs.toList.all (fun o => decide (0 ≤ (pc : Int) + o))
    | .lookupswitch d prs => decide ((pc : Int) + d = (mz_a0 a : Int)) && decide (ps = mz_prl pc prs.toList) && (prs.toList.zip (prs.toList.drop 1)).all (fun (a, next) => a.1 < next.1) && prs.toList.all (fun q => decide (0 ≤ q.1) && decide (q.1 < 2147483648) && decide (0 ≤ (pc : Int) + q.2))
    | .getfield k => decide (len = 3) && (match a with
      | [ci, f, nest, pl] => mz_okc TBL host cls me.1.cls k ci f nest pl
      | _ => false)
    | .putfield k => decide (len = 3) && (match a with
      | [ci, f, b, nest, pl] => mz_okc TBL host cls me.1.cls k ci f nest pl && (match cls[ci]? with
        | some q => decide ((q.2.1 f).2.2.2 = false) && decide (parseFieldDescriptor (q.2.1 f).2.2.1 = some (match b with
          | 0 => .int
          | _ + 1 => .boolean))
        | none => false)
      | _ => false)
    | .invokevirtual k => decide (len = 3) && (match a with
      | cj :: a' => mz_oka TBL host MS me.1.cls k false a' && (match cls[cj]?, mz_nth MS (mz_a0 a') with
        | some q, some me' => decide (q.1 = me'.1.cls)
        | _, _ => false)
      | [] => false)
    | .invokestatic k => decide (len = 3) && (match a with
      | 0 :: a' => mz_okac TBL me.1.cls k a'
      | _ :: a' => mz_oka TBL host MS me.1.cls k true a'
      | [] => false)
    | .ireturn => decide (len = 1) && decide (me.2.2.2.1 = some (match mz_a0 a with
          | 0 => .int
          | _ + 1 => .boolean))
    | .lreturn => decide (len = 1) && decide (me.2.2.2.1 = some .long)
    | .areturn => decide (len = 1) && (match me.2.2.2.1 with
      | some (.object _) => true
      | _ => false)
    | .return_ => decide (len = 1) && decide (me.2.2.2.1 = none)
    | _ => decide (len = 1))
def mz_okR (TBL : List Jvm.Cond) (host : String) (cls : List vw_C) (MS : List mz_Me) (me : mz_Me) : Nat → mz_T → Bool
  | _, [] => true
  | pc, none :: r => mz_okR TBL host cls MS me (pc + 1) r
  | pc, some e :: r => mz_ok TBL host cls MS me pc e && mz_okR TBL host cls MS me (pc + 1) r
def mz_okM (TBL : List Jvm.Cond) (host : String) (cls : List vw_C) (MS : List mz_Me) (me : mz_Me) : Bool :=
  (match me.2.2.2.2.2.2.1 with
  | [p0, p1, p2, p3] => mz_lw TBL p0 (.code me.1 me.2.1 me.2.2.1 me.2.2.2.1) && mz_lw TBL p1 (.initialized me.1.cls) && (bif me.2.2.2.2.2.1 then mz_lw TBL p2 (.static me.1) else mz_lw TBL p2 (.instanceMethod me.1) && mz_lw TBL p3 (.selects me.1.cls me.1 me.1))
  | _ => false) && plainFor me.1 && decide (me.1.cls ≠ "java/lang/invoke/MethodHandle" ∧ me.1.cls ≠ "java/lang/invoke/VarHandle") && decide ((parseMethodDescriptor me.1.desc).map (fun d => d.parameters.length) = some me.2.2.2.2.1) && decide (me.2.2.1 ≤ 30) && mz_okR TBL host cls MS me 0 me.2.2.2.2.2.2.2
theorem mz_okR_at {TBL : List Jvm.Cond} {host : String} {cls : List vw_C} {MS : List mz_Me} {me : mz_Me} {e : mz_E} : ∀ {t : mz_T} {n k : Nat}, mz_okR TBL host cls MS me n t = true → mz_nth t k = some (some e) → mz_ok TBL host cls MS me (n + k) e = true
  | [], _, _, _, h => by cases h
  | none :: r, n, 0, _, h => by cases h
  | some e' :: r, n, 0, h1, h => by
    cases h
    unfold mz_okR at h1
    rw [Bool.and_eq_true] at h1
    exact h1.1
  | none :: r, n, k + 1, h1, h => by
    have := mz_okR_at (t := r) (n := n + 1) (k := k) h1 h
    rwa [show n + 1 + k = n + (k + 1) by omega] at this
  | some e' :: r, n, k + 1, h1, h => by
    unfold mz_okR at h1
    rw [Bool.and_eq_true] at h1
    have := mz_okR_at (t := r) (n := n + 1) (k := k) h1.2 h
    rwa [show n + 1 + k = n + (k + 1) by omega] at this
def mz_nest : Jvm.Cond → Bool
  | .fieldLinkNest .. => true
  | .methodLinkNest .. => true
  | _ => false
/-- the words on nest mates, which are not kept among the others -/
def mz_NW (TBL : List Jvm.Cond) (U : State) : Prop := ∀ w ∈ TBL, mz_nest w = true → va_Nw w U
theorem mz_NW.warm {TBL : List Jvm.Cond} {s U : State} (hW : s.WarmedH U.vm) (h : mz_NW TBL s) : mz_NW TBL U := by
  intro w hw hn
  have h1 := h w hw hn
  cases w <;> first | (cases hn; done) | exact va_Nw.warmF hW h1 | exact va_Nw.warmM hW h1
theorem mz_NW.same {TBL : List Jvm.Cond} {s U : State} (hv : s.vm = U.vm) (h : mz_NW TBL s) : mz_NW TBL U := by
  intro w hw hn
  have h1 := h w hw hn
  cases w <;> first | (cases hn; done) | exact va_Nw.same rfl hv h1
