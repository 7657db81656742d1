set_option maxHeartbeats 1000000 in
def mz_op (SH : List mz_Sh) (C : mz_Cl) (Q : Option mz_V → mz_M → Prop) (K : mz_S → Prop) (e : mz_E) (pc : Nat) (L : mz_Lo) (st : List mz_V) (μ : mz_M) : Prop :=
  match e with
  | (i, len, c, cl, a, ps, kt, kn) => match i with
    | .iconst _ => K (pc + len, mz_kp kn L, mz_I c :: st, μ)
    | .bipush _ => K (pc + len, mz_kp kn L, mz_I c :: st, μ)
    | .sipush _ => K (pc + len, mz_kp kn L, mz_I c :: st, μ)
    | .ldc _ => K (pc + len, mz_kp kn L, mz_I c :: st, μ)
    | .ldc_w _ => K (pc + len, mz_kp kn L, mz_I c :: st, μ)
    | .lconst _ => K (pc + len, mz_kp kn L, mz_L cl :: st, μ)
    | .ldc2_w _ => K (pc + len, mz_kp kn L, mz_L cl :: st, μ)
    | .iload_n _ => mz_li L (mz_a0 a) fun x => K (pc + len, mz_kp kn L, mz_I x :: st, μ)
    | .iload _ => mz_li L (mz_a0 a) fun x => K (pc + len, mz_kp kn L, mz_I x :: st, μ)
    | .lload_n _ => mz_ll L (mz_a0 a) fun x => K (pc + len, mz_kp kn L, mz_L x :: st, μ)
    | .lload _ => mz_ll L (mz_a0 a) fun x => K (pc + len, mz_kp kn L, mz_L x :: st, μ)
    | .aload_n _ => mz_lr L (mz_a0 a) fun t p => K (pc + len, mz_kp kn L, mz_R t p :: st, μ)
    | .aload _ => mz_lr L (mz_a0 a) fun t p => K (pc + len, mz_kp kn L, mz_R t p :: st, μ)
    | .istore_n _ => mz_p1 st fun x r => K (pc + len, mz_kp kn (mz_st1 L (mz_a0 a) (mz_I x)), r, μ)
    | .istore _ => mz_p1 st fun x r => K (pc + len, mz_kp kn (mz_st1 L (mz_a0 a) (mz_I x)), r, μ)
    | .lstore_n _ => mz_g1 st fun x r => K (pc + len, mz_kp kn (mz_st2 L (mz_a0 a) (mz_L x)), r, μ)
    | .lstore _ => mz_g1 st fun x r => K (pc + len, mz_kp kn (mz_st2 L (mz_a0 a) (mz_L x)), r, μ)
    | .astore_n _ => mz_h1 st fun t p r => K (pc + len, mz_kp kn (mz_st1 L (mz_a0 a) (mz_R t p)), r, μ)
    | .astore _ => mz_h1 st fun t p r => K (pc + len, mz_kp kn (mz_st1 L (mz_a0 a) (mz_R t p)), r, μ)
    | .iinc _ _ => mz_li L (mz_a0 a) fun x => K (pc + len, mz_kp kn (mz_st1 L (mz_a0 a) (mz_I (x + c))), st, μ)
    | .iadd => mz_p2 st fun x y r => K (pc + len, mz_kp kn L, mz_I (x + y) :: r, μ)
    | .isub => mz_p2 st fun x y r => K (pc + len, mz_kp kn L, mz_I (x - y) :: r, μ)
    | .imul => mz_p2 st fun x y r => K (pc + len, mz_kp kn L, mz_I (x * y) :: r, μ)
    | .iand => mz_p2 st fun x y r => K (pc + len, mz_kp kn L, mz_I (x &&& y) :: r, μ)
    | .ior => mz_p2 st fun x y r => K (pc + len, mz_kp kn L, mz_I (x ||| y) :: r, μ)
    | .ixor => mz_p2 st fun x y r => K (pc + len, mz_kp kn L, mz_I (x ^^^ y) :: r, μ)
    | .ishl => mz_p2 st fun x y r => K (pc + len, mz_kp kn L, mz_I (x <<< (y &&& 31)) :: r, μ)
    | .idiv => mz_p2 st fun x y r => ¬ y = 0 ∧ K (pc + len, mz_kp kn L, mz_I (x / y) :: r, μ)
    | .irem => mz_p2 st fun x y r => ¬ y = 0 ∧ K (pc + len, mz_kp kn L, mz_I (x - x / y * y) :: r, μ)
    | .ineg => mz_p1 st fun x r => K (pc + len, mz_kp kn L, mz_I (-x) :: r, μ)
    | .ladd => mz_g2 st fun x y r => K (pc + len, mz_kp kn L, mz_L (x + y) :: r, μ)
    | .lsub => mz_g2 st fun x y r => K (pc + len, mz_kp kn L, mz_L (x - y) :: r, μ)
    | .lmul => mz_g2 st fun x y r => K (pc + len, mz_kp kn L, mz_L (x * y) :: r, μ)
    | .land => mz_g2 st fun x y r => K (pc + len, mz_kp kn L, mz_L (x &&& y) :: r, μ)
    | .ldiv => mz_g2 st fun x y r => ¬ y = 0 ∧ K (pc + len, mz_kp kn L, mz_L (x / y) :: r, μ)
    | .lrem => mz_g2 st fun x y r => ¬ y = 0 ∧ K (pc + len, mz_kp kn L, mz_L (x - x / y * y) :: r, μ)
    | .lneg => mz_g1 st fun x r => K (pc + len, mz_kp kn L, mz_L (-x) :: r, μ)
    | .lcmp => mz_g2 st fun x y r => K (pc + len, mz_kp kn L, mz_I (lg_cmp x y) :: r, μ)
    | .i2l => mz_p1 st fun x r => K (pc + len, mz_kp kn L, mz_L x.toInt64 :: r, μ)
    | .l2i => mz_g1 st fun x r => K (pc + len, mz_kp kn L, mz_I x.toInt32 :: r, μ)
    | .i2b => mz_p1 st fun x r => K (pc + len, mz_kp kn L, mz_I x.toInt8.toInt32 :: r, μ)
    | .i2s => mz_p1 st fun x r => K (pc + len, mz_kp kn L, mz_I x.toInt16.toInt32 :: r, μ)
    | .pop => (match st with
      | .inl _ :: r => K (pc + len, mz_kp kn L, r, μ)
      | _ => False)
    | .dup => (match st with
      | .inl x :: r => K (pc + len, mz_kp kn L, mz_I x :: mz_I x :: r, μ)
      | .inr (.inr (t, p)) :: r => K (pc + len, mz_kp kn L, mz_R t p :: mz_R t p :: r, μ)
      | _ => False)
    | .dup2 => (match st with
      | .inl x :: .inr (.inr (t, p)) :: r => K (pc + len, mz_kp kn L, mz_I x :: mz_R t p :: mz_I x :: mz_R t p :: r, μ)
      | _ => False)
    | .goto _ => K (mz_a0 a, mz_kp kt L, st, μ)
    | .if_icmp op _ => mz_p2 st fun x y r => mz_ic op x y (K (mz_a0 a, mz_kp kt L, r, μ)) (K (pc + len, mz_kp kn L, r, μ))
    | .ifCond op _ => mz_p1 st fun x r => mz_if op x (K (mz_a0 a, mz_kp kt L, r, μ)) (K (pc + len, mz_kp kn L, r, μ))
    | .tableswitch _ _ _ _ => mz_p1 st fun x r => mz_sw x (fun t => K (t, L, r, μ)) (mz_a0 a) ps
    | .lookupswitch _ _ => mz_p1 st fun x r => mz_sw x (fun t => K (t, L, r, μ)) (mz_a0 a) ps
    | .getfield _ => mz_h1 st fun t p r => (match mz_nth SH t, a with
      | some (.inl (ci, fs)), cj :: k :: _ => bif Nat.beq ci cj then (match mz_nth fs k with
        | some none => K (pc + len, mz_kp kn L, mz_I (μ.1 p k) :: r, μ)
        | some (some (b, off, t')) => K (pc + len, mz_kp kn L, mz_R t' (mz_pl b p off) :: r, μ)
        | none => False) else False
      | _, _ => False)
    | .putfield _ => mz_p1 st fun x r0 => mz_h1 r0 fun t p r => (match mz_nth SH t, a with
      | some (.inl (ci, fs)), cj :: k :: b :: _ => bif Nat.beq ci cj then (match mz_nth fs k with
        | some none => mz_bool b x (K (pc + len, mz_kp kn L, r, mz_wI μ p k x))
        | _ => False) else False
      | _, _ => False)
    | .iaload => mz_p1 st fun x r0 => mz_h1 r0 fun t p r => (match mz_nth SH t with
      | some (.inr (_, n, 0, _)) => vp_in x n ∧ K (pc + len, mz_kp kn L, mz_I (μ.1 p x.toNatClampNeg) :: r, μ)
      | _ => False)
    | .laload => mz_p1 st fun x r0 => mz_h1 r0 fun t p r => (match mz_nth SH t with
      | some (.inr (_, n, 1, _)) => vp_in x n ∧ K (pc + len, mz_kp kn L, mz_L (μ.2 p x.toNatClampNeg) :: r, μ)
      | _ => False)
    | .aaload => mz_p1 st fun x r0 => mz_h1 r0 fun t p r => (match mz_nth SH t with
      | some (.inr (_, n, 2, t', b, off, w)) => vp_in x n ∧ K (pc + len, mz_kp kn L, mz_R t' (mz_pl b p off + w * x.toNatClampNeg) :: r, μ)
      | _ => False)
    | .iastore => mz_p1 st fun v r1 => mz_p1 r1 fun x r0 => mz_h1 r0 fun t p r => (match mz_nth SH t with
      | some (.inr (_, n, 0, _)) => vp_in x n ∧ K (pc + len, mz_kp kn L, r, mz_wI μ p x.toNatClampNeg v)
      | _ => False)
    | .lastore => mz_g1 st fun v r1 => mz_p1 r1 fun x r0 => mz_h1 r0 fun t p r => (match mz_nth SH t with
      | some (.inr (_, n, 1, _)) => vp_in x n ∧ K (pc + len, mz_kp kn L, r, mz_wL μ p x.toNatClampNeg v)
      | _ => False)
    | .arraylength => mz_h1 st fun t p r => (match mz_nth SH t with
      | some (.inr (_, n, _)) => K (pc + len, mz_kp kn L, mz_I (nI n) :: r, μ)
      | _ => False)
    | .invokevirtual _ => (match a with
      | cj :: a' => mz_cl C (mz_rv SH cj) a' st μ fun v μ' => K (pc + len, mz_kp kn L, v, μ')
      | [] => False)
    | .invokestatic _ => (match a with
      | 0 :: _ => mz_ac SH st (fun p0 p1 s d n r => K (pc + len, mz_kp kn L, r, mz_cI μ p0 p1 s.toNatClampNeg d.toNatClampNeg n.toNatClampNeg)) (fun p0 p1 s d n r => K (pc + len, mz_kp kn L, r, mz_cL μ p0 p1 s.toNatClampNeg d.toNatClampNeg n.toNatClampNeg))
      | _ :: a' => mz_cl C (fun _ => true) a' st μ fun v μ' => K (pc + len, mz_kp kn L, v, μ')
      | [] => False)
    | .ireturn => (match st with
      | [.inl x] => mz_bool (mz_a0 a) x (Q (some (mz_I x)) μ)
      | _ => False)
    | .lreturn => (match st with
      | [.inr (.inl x)] => Q (some (mz_L x)) μ
      | _ => False)
    | .areturn => (match st with
      | [.inr (.inr (t, p))] => Q (some (mz_R t p)) μ
      | _ => False)
    | .return_ => (match st with
      | [] => Q none μ
      | _ => False)
    | _ => False
def mz_step (SH : List mz_Sh) (tab : mz_T) (C : mz_Cl) (Q : Option mz_V → mz_M → Prop) (K : mz_S → Prop) (s : mz_S) : Prop := match mz_nth tab s.1 with
  | some (some e) => mz_op SH C Q K e s.1 s.2.1 s.2.2.1 s.2.2.2
  | _ => False
def mz_Ev (SH : List mz_Sh) (tab : mz_T) (C : mz_Cl) (Q : Option mz_V → mz_M → Prop) (s : mz_S) : Prop := ∀ P : mz_S → Prop, (∀ s, mz_step SH tab C Q P s → P s) → P s
def mz_Rel (SH : List mz_Sh) (TB : Nat → mz_T) : Nat → mz_Cl
  | 0 => fun _ _ _ _ _ => False
  | d + 1 => fun y a μ r μ' => mz_Ev SH (TB y) (mz_Rel SH TB d) (fun r2 μ2 => r2 = r ∧ μ2 = μ') (0, mz_ent 0 a, [], μ)
