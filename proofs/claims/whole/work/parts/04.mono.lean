theorem mz_p1_m {st : List mz_V} {f g : Int32 → List mz_V → Prop} (h : ∀ x r, f x r → g x r) : mz_p1 st f → mz_p1 st g := by
  match st with
  | [] => exact id
  | .inl x :: r => exact h x r
  | .inr _ :: _ => exact id
theorem mz_p2_m {st : List mz_V} {f g : Int32 → Int32 → List mz_V → Prop} (h : ∀ x y r, f x y r → g x y r) : mz_p2 st f → mz_p2 st g := by
  match st with
  | [] => exact id
  | [.inl _] => exact id
  | .inl y :: .inl x :: r => exact h x y r
  | .inl _ :: .inr _ :: _ => exact id
  | .inr _ :: _ => exact id
theorem mz_g1_m {st : List mz_V} {f g : Int64 → List mz_V → Prop} (h : ∀ x r, f x r → g x r) : mz_g1 st f → mz_g1 st g := by
  match st with
  | [] => exact id
  | .inl _ :: _ => exact id
  | .inr (.inl x) :: r => exact h x r
  | .inr (.inr _) :: _ => exact id
theorem mz_g2_m {st : List mz_V} {f g : Int64 → Int64 → List mz_V → Prop} (h : ∀ x y r, f x y r → g x y r) : mz_g2 st f → mz_g2 st g := by
  match st with
  | [] => exact id
  | .inl _ :: _ => exact id
  | .inr (.inr _) :: _ => exact id
  | [.inr (.inl _)] => exact id
  | .inr (.inl _) :: .inl _ :: _ => exact id
  | .inr (.inl _) :: .inr (.inr _) :: _ => exact id
  | .inr (.inl y) :: .inr (.inl x) :: r => exact h x y r
theorem mz_h1_m {st : List mz_V} {f g : Nat → Nat → List mz_V → Prop} (h : ∀ t p r, f t p r → g t p r) : mz_h1 st f → mz_h1 st g := by
  match st with
  | [] => exact id
  | .inl _ :: _ => exact id
  | .inr (.inl _) :: _ => exact id
  | .inr (.inr (t, p)) :: r => exact h t p r
theorem mz_li_m {L : mz_Lo} {i : Nat} {f g : Int32 → Prop} (h : ∀ x, f x → g x) : mz_li L i f → mz_li L i g := by
  unfold mz_li
  match mz_lk L i with
  | none => exact id
  | some (.inl x) => exact h x
  | some (.inr _) => exact id
theorem mz_ll_m {L : mz_Lo} {i : Nat} {f g : Int64 → Prop} (h : ∀ x, f x → g x) : mz_ll L i f → mz_ll L i g := by
  unfold mz_ll
  match mz_lk L i with
  | none => exact id
  | some (.inl _) => exact id
  | some (.inr (.inl x)) => exact h x
  | some (.inr (.inr _)) => exact id
theorem mz_lr_m {L : mz_Lo} {i : Nat} {f g : Nat → Nat → Prop} (h : ∀ t p, f t p → g t p) : mz_lr L i f → mz_lr L i g := by
  unfold mz_lr
  match mz_lk L i with
  | none => exact id
  | some (.inl _) => exact id
  | some (.inr (.inl _)) => exact id
  | some (.inr (.inr (t, p))) => exact h t p
theorem mz_ite_m {c : Prop} [Decidable c] {A B A' B' : Prop} (ha : A → A') (hb : B → B') : (if c then A else B) → (if c then A' else B') := by
  by_cases h : c
  · rw [if_pos h, if_pos h]; exact ha
  · rw [if_neg h, if_neg h]; exact hb
theorem mz_ic_m {op : ClassFile.Cond} {x y : Int32} {A B A' B' : Prop} (ha : A → A') (hb : B → B') : mz_ic op x y A B → mz_ic op x y A' B' := by
  cases op <;> first | exact mz_ite_m ha hb | exact mz_ite_m hb ha
theorem mz_if_m {op : ClassFile.Cond} {x : Int32} {A B A' B' : Prop} (ha : A → A') (hb : B → B') : mz_if op x A B → mz_if op x A' B' := by
  cases op <;> first | exact mz_ite_m ha hb | exact mz_ite_m hb ha
theorem mz_sw_m {x : Int32} {K K' : Nat → Prop} {d : Nat} (h : ∀ t, K t → K' t) : ∀ {ps : List (Nat × Nat)}, mz_sw x K d ps → mz_sw x K' d ps
  | [] => h d
  | q :: r => by
    unfold mz_sw
    exact mz_ite_m (h q.2) (mz_sw_m h)
theorem mz_bool_m {b : Nat} {x : Int32} {A A' : Prop} (h : A → A') : mz_bool b x A → mz_bool b x A' := by
  match b with
  | 0 => exact h
  | _ + 1 => exact fun q => ⟨q.1, h q.2⟩
theorem mz_bif_m {b : Bool} {A A' : Prop} (h : A → A') : (bif b then A else False) → (bif b then A' else False) := by
  cases b
  · exact id
  · exact h
theorem mz_an_m {k t : Nat} {R : Option mz_V → mz_M → Prop} {f g : List mz_V → mz_M → Prop} (h : ∀ v μ, f v μ → g v μ) : mz_an k t R f → mz_an k t R g := by
  match k with
  | 0 => exact fun ⟨μ, a, b⟩ => ⟨μ, a, h _ _ b⟩
  | 1 => exact fun ⟨x, μ, a, b⟩ => ⟨x, μ, a, h _ _ b⟩
  | 2 => exact fun ⟨x, μ, a, b⟩ => ⟨x, μ, a, h _ _ b⟩
  | _ + 3 => exact fun ⟨x, μ, a, b⟩ => ⟨x, μ, a, h _ _ b⟩
theorem mz_cl_m {C : mz_Cl} {ga : List mz_V → Bool} {a : List Nat} {st : List mz_V} {μ : mz_M} {f g : List mz_V → mz_M → Prop} (h : ∀ v μ, f v μ → g v μ) : mz_cl C ga a st μ f → mz_cl C ga a st μ g := by
  match a with
  | [] => exact id
  | [_] => exact id
  | [_, _] => exact id
  | [_, _, _] => exact id
  | [_, _, _, _] => exact id
  | y :: n :: k :: t :: ml :: _ =>
    show (match mz_tk n [] st with
    | some (as, rest) => bif Nat.ble (mz_cs rest) 8 && Nat.ble (mz_cs as) ml && ga as then mz_an k t (fun r μ' => C y as μ r μ') (fun v μ' => f (v ++ rest) μ') else False
    | none => False) → (match mz_tk n [] st with
    | some (as, rest) => bif Nat.ble (mz_cs rest) 8 && Nat.ble (mz_cs as) ml && ga as then mz_an k t (fun r μ' => C y as μ r μ') (fun v μ' => g (v ++ rest) μ') else False
    | none => False)
    cases mz_tk n [] st with
    | none => exact id
    | some q => exact mz_bif_m (mz_an_m (fun v μ => h _ _))
theorem mz_ac_m {SH : List mz_Sh} {st : List mz_V} {fI fL gI gL : Nat → Nat → Int32 → Int32 → Int32 → List mz_V → Prop} (h1 : ∀ a b c d e f, fI a b c d e f → gI a b c d e f) (h2 : ∀ a b c d e f, fL a b c d e f → gL a b c d e f) : mz_ac SH st fI fL → mz_ac SH st gI gL := by
  unfold mz_ac
  split
  · split
    · exact fun q => ⟨q.1, mz_bif_m (h1 _ _ _ _ _ _) q.2⟩
    · exact fun q => ⟨q.1, mz_bif_m (h2 _ _ _ _ _ _) q.2⟩
    · exact id
  · exact id
set_option maxHeartbeats 4000000 in
theorem mz_op_m {SH : List mz_Sh} {C : mz_Cl} {Q : Option mz_V → mz_M → Prop} {K K' : mz_S → Prop} (hK : ∀ s, K s → K' s) {e : mz_E} {pc : Nat} {L : mz_Lo} {st : List mz_V} {μ : mz_M} : mz_op SH C Q K e pc L st μ → mz_op SH C Q K' e pc L st μ := by
  obtain ⟨i, len, c, cl, a, ps, kt, kn⟩ := e
  cases i
  case dup =>
    match st with
    | [] => exact id
    | .inl x :: r => exact hK _
    | .inr (.inl _) :: _ => exact id
    | .inr (.inr (t, p)) :: r => exact hK _
  case pop =>
    match st with
    | [] => exact id
    | .inl x :: r => exact hK _
    | .inr _ :: _ => exact id
  case dup2 =>
    match st with
    | [] => exact id
    | .inr _ :: _ => exact id
    | [.inl _] => exact id
    | .inl _ :: .inl _ :: _ => exact id
    | .inl _ :: .inr (.inl _) :: _ => exact id
    | .inl x :: .inr (.inr (t, p)) :: r => exact hK _
  case if_icmp op off => exact mz_p2_m fun x y r => mz_ic_m (hK _) (hK _)
  case ifCond op off => exact mz_p1_m fun x r => mz_if_m (hK _) (hK _)
  case tableswitch => exact mz_p1_m fun x r => mz_sw_m (fun t => hK _)
  case lookupswitch => exact mz_p1_m fun x r => mz_sw_m (fun t => hK _)
  case invokevirtual =>
    dsimp only [mz_op]
    split
    · exact mz_cl_m (f := fun v μ' => K (pc + len, mz_kp kn L, v, μ')) (g := fun v μ' => K' (pc + len, mz_kp kn L, v, μ')) (fun v μ => hK _)
    · exact id
  case getfield =>
    refine mz_h1_m fun t p r => ?_
    split
    · refine mz_bif_m ?_
      split
      · exact hK _
      · exact hK _
      · exact id
    · exact id
  case putfield =>
    refine mz_p1_m fun x r0 => mz_h1_m fun t p r => ?_
    split
    · refine mz_bif_m ?_
      split
      · exact mz_bool_m (hK _)
      · exact id
    · exact id
  case iaload =>
    refine mz_p1_m fun x r0 => mz_h1_m fun t p r => ?_
    split
    · exact fun q => ⟨q.1, hK _ q.2⟩
    · exact id
  case laload =>
    refine mz_p1_m fun x r0 => mz_h1_m fun t p r => ?_
    split
    · exact fun q => ⟨q.1, hK _ q.2⟩
    · exact id
  case aaload =>
    refine mz_p1_m fun x r0 => mz_h1_m fun t p r => ?_
    split
    · exact fun q => ⟨q.1, hK _ q.2⟩
    · exact id
  case iastore =>
    refine mz_p1_m fun v r1 => mz_p1_m fun x r0 => mz_h1_m fun t p r => ?_
    split
    · exact fun q => ⟨q.1, hK _ q.2⟩
    · exact id
  case lastore =>
    refine mz_g1_m fun v r1 => mz_p1_m fun x r0 => mz_h1_m fun t p r => ?_
    split
    · exact fun q => ⟨q.1, hK _ q.2⟩
    · exact id
  case arraylength =>
    refine mz_h1_m fun t p r => ?_
    split
    · exact hK _
    · exact id
  case invokestatic =>
    dsimp only [mz_op]
    split
    · exact mz_ac_m (fun _ _ _ _ _ _ => hK _) (fun _ _ _ _ _ _ => hK _)
    · exact mz_cl_m (f := fun v μ' => K (pc + len, mz_kp kn L, v, μ')) (g := fun v μ' => K' (pc + len, mz_kp kn L, v, μ')) (fun v μ => hK _)
    · exact id
  case ireturn => exact id
  case lreturn => exact id
  case areturn => exact id
  case return_ => exact id
  all_goals first
    | exact hK _
    | exact id
    | exact mz_p1_m fun x r => hK _
    | exact mz_p2_m fun x y r => hK _
    | exact mz_p2_m fun x y r q => ⟨q.1, hK _ q.2⟩
    | exact mz_g1_m fun x r => hK _
    | exact mz_g2_m fun x y r => hK _
    | exact mz_g2_m fun x y r q => ⟨q.1, hK _ q.2⟩
    | exact mz_h1_m fun x y r => hK _
    | exact mz_li_m fun x => hK _
    | exact mz_ll_m fun x => hK _
    | exact mz_lr_m fun x y => hK _
theorem mz_step_m {SH : List mz_Sh} {tab : mz_T} {C : mz_Cl} {Q : Option mz_V → mz_M → Prop} {K K' : mz_S → Prop} (hK : ∀ s, K s → K' s) {s : mz_S} : mz_step SH tab C Q K s → mz_step SH tab C Q K' s := by
  unfold mz_step
  match mz_nth tab s.1 with
  | none => exact id
  | some none => exact id
  | some (some e) => exact mz_op_m hK
theorem mz_Ev.step {SH : List mz_Sh} {tab : mz_T} {C : mz_Cl} {Q : Option mz_V → mz_M → Prop} {s : mz_S} (h : mz_step SH tab C Q (mz_Ev SH tab C Q) s) : mz_Ev SH tab C Q s :=
  fun P hP => hP s (mz_step_m (fun s' h' => h' P hP) h)
/-- up to k steps at once, to the next cut -/
def mz_run (SH : List mz_Sh) (tab : mz_T) (C : mz_Cl) (Q : Option mz_V → mz_M → Prop) (cuts : List Nat) : Nat → mz_S → Prop
  | 0, s => mz_Ev SH tab C Q s
  | k + 1, s => mz_step SH tab C Q (fun s' => bif mz_el s'.1 cuts then mz_Ev SH tab C Q s' else mz_run SH tab C Q cuts k s') s
theorem mz_Ev.run {SH : List mz_Sh} {tab : mz_T} {C : mz_Cl} {Q : Option mz_V → mz_M → Prop} (cuts : List Nat) : ∀ (k : Nat) {s : mz_S}, mz_run SH tab C Q cuts k s → mz_Ev SH tab C Q s
  | 0, _, h => h
  | k + 1, s, h => mz_Ev.step (mz_step_m (fun s' h' => by
      cases hc : mz_el s'.1 cuts with
      | true => rw [hc] at h'; exact h'
      | false => rw [hc] at h'; exact mz_Ev.run cuts k h') h)
