/-! A run that ends with Q ends with one answer and one state that have Q. -/
abbrev mz_O : Type := Option mz_V × mz_M
section MX
variable {A : mz_O → Prop}
theorem mz_p1_x {st : List mz_V} {f : Int32 → List mz_V → Prop} {g : mz_O → Int32 → List mz_V → Prop} (h : ∀ x r, f x r → ∃ w, A w ∧ g w x r) (hp : mz_p1 st f) : ∃ w, A w ∧ mz_p1 st (g w) := by
  obtain ⟨x, r, rfl, hf⟩ := mz_p1_i hp
  exact h x r hf
theorem mz_p2_x {st : List mz_V} {f : Int32 → Int32 → List mz_V → Prop} {g : mz_O → Int32 → Int32 → List mz_V → Prop} (h : ∀ x y r, f x y r → ∃ w, A w ∧ g w x y r) (hp : mz_p2 st f) : ∃ w, A w ∧ mz_p2 st (g w) := by
  obtain ⟨x, y, r, rfl, hf⟩ := mz_p2_i hp
  exact h x y r hf
theorem mz_g1_x {st : List mz_V} {f : Int64 → List mz_V → Prop} {g : mz_O → Int64 → List mz_V → Prop} (h : ∀ x r, f x r → ∃ w, A w ∧ g w x r) (hp : mz_g1 st f) : ∃ w, A w ∧ mz_g1 st (g w) := by
  obtain ⟨x, r, rfl, hf⟩ := mz_g1_i hp
  exact h x r hf
theorem mz_g2_x {st : List mz_V} {f : Int64 → Int64 → List mz_V → Prop} {g : mz_O → Int64 → Int64 → List mz_V → Prop} (h : ∀ x y r, f x y r → ∃ w, A w ∧ g w x y r) (hp : mz_g2 st f) : ∃ w, A w ∧ mz_g2 st (g w) := by
  obtain ⟨x, y, r, rfl, hf⟩ := mz_g2_i hp
  exact h x y r hf
theorem mz_h1_x {st : List mz_V} {f : Nat → Nat → List mz_V → Prop} {g : mz_O → Nat → Nat → List mz_V → Prop} (h : ∀ t p r, f t p r → ∃ w, A w ∧ g w t p r) (hp : mz_h1 st f) : ∃ w, A w ∧ mz_h1 st (g w) := by
  obtain ⟨t, p, r, rfl, hf⟩ := mz_h1_i hp
  exact h t p r hf
theorem mz_li_x {L : mz_Lo} {i : Nat} {f : Int32 → Prop} {g : mz_O → Int32 → Prop} (h : ∀ x, f x → ∃ w, A w ∧ g w x) (hp : mz_li L i f) : ∃ w, A w ∧ mz_li L i (g w) := by
  obtain ⟨x, hk, hf⟩ := mz_li_i hp
  obtain ⟨w, h1, h2⟩ := h x hf
  exact ⟨w, h1, by unfold mz_li; rw [hk]; exact h2⟩
theorem mz_ll_x {L : mz_Lo} {i : Nat} {f : Int64 → Prop} {g : mz_O → Int64 → Prop} (h : ∀ x, f x → ∃ w, A w ∧ g w x) (hp : mz_ll L i f) : ∃ w, A w ∧ mz_ll L i (g w) := by
  obtain ⟨x, hk, hf⟩ := mz_ll_i hp
  obtain ⟨w, h1, h2⟩ := h x hf
  exact ⟨w, h1, by unfold mz_ll; rw [hk]; exact h2⟩
theorem mz_lr_x {L : mz_Lo} {i : Nat} {f : Nat → Nat → Prop} {g : mz_O → Nat → Nat → Prop} (h : ∀ x y, f x y → ∃ w, A w ∧ g w x y) (hp : mz_lr L i f) : ∃ w, A w ∧ mz_lr L i (g w) := by
  obtain ⟨t, p, hk, hf⟩ := mz_lr_i hp
  obtain ⟨w, h1, h2⟩ := h t p hf
  exact ⟨w, h1, by unfold mz_lr; rw [hk]; exact h2⟩
theorem mz_ite_x {c : Prop} [Decidable c] {F G : Prop} {f g : mz_O → Prop} (hf : F → ∃ w, A w ∧ f w) (hg : G → ∃ w, A w ∧ g w) (h : if c then F else G) : ∃ w, A w ∧ (if c then f w else g w) := by
  by_cases hc : c
  · rw [if_pos hc] at h
    obtain ⟨w, h1, h2⟩ := hf h
    exact ⟨w, h1, by rw [if_pos hc]; exact h2⟩
  · rw [if_neg hc] at h
    obtain ⟨w, h1, h2⟩ := hg h
    exact ⟨w, h1, by rw [if_neg hc]; exact h2⟩
theorem mz_ic_x {op : ClassFile.Cond} {x y : Int32} {F G : Prop} {f g : mz_O → Prop} (hf : F → ∃ w, A w ∧ f w) (hg : G → ∃ w, A w ∧ g w) : mz_ic op x y F G → ∃ w, A w ∧ mz_ic op x y (f w) (g w) := by
  cases op <;> first | exact mz_ite_x hf hg | exact mz_ite_x hg hf
theorem mz_if_x {op : ClassFile.Cond} {x : Int32} {F G : Prop} {f g : mz_O → Prop} (hf : F → ∃ w, A w ∧ f w) (hg : G → ∃ w, A w ∧ g w) : mz_if op x F G → ∃ w, A w ∧ mz_if op x (f w) (g w) := by
  cases op <;> first | exact mz_ite_x hf hg | exact mz_ite_x hg hf
theorem mz_sw_x {x : Int32} {K : Nat → Prop} {g : mz_O → Nat → Prop} {d : Nat} (h : ∀ t, K t → ∃ w, A w ∧ g w t) : ∀ {ps : List (Nat × Nat)}, mz_sw x K d ps → ∃ w, A w ∧ mz_sw x (g w) d ps
  | [], hk => h d hk
  | q :: r, hk => by
    unfold mz_sw at hk ⊢
    exact mz_ite_x (h q.2) (mz_sw_x h) hk
theorem mz_bool_x {b : Nat} {x : Int32} {F : Prop} {f : mz_O → Prop} (h : F → ∃ w, A w ∧ f w) (hb : mz_bool b x F) : ∃ w, A w ∧ mz_bool b x (f w) := by
  match b, hb with
  | 0, hb => exact h hb
  | _ + 1, hb =>
    obtain ⟨w, h1, h2⟩ := h hb.2
    exact ⟨w, h1, hb.1, h2⟩
theorem mz_bif_x {b : Bool} {F : Prop} {f : mz_O → Prop} (h : F → ∃ w, A w ∧ f w) (hb : bif b then F else False) : ∃ w, A w ∧ (bif b then f w else False) := by
  cases b
  · exact hb.elim
  · exact h hb
theorem mz_an_x {k t : Nat} {R : Option mz_V → mz_M → Prop} {f : List mz_V → mz_M → Prop} {g : mz_O → List mz_V → mz_M → Prop} (h : ∀ v μ, f v μ → ∃ w, A w ∧ g w v μ) (hk : mz_an k t R f) : ∃ w, A w ∧ mz_an k t R (g w) := by
  match k, hk with
  | 0, ⟨μ, a, b⟩ =>
    obtain ⟨w, h1, h2⟩ := h _ _ b
    exact ⟨w, h1, μ, a, h2⟩
  | 1, ⟨x, μ, a, b⟩ =>
    obtain ⟨w, h1, h2⟩ := h _ _ b
    exact ⟨w, h1, x, μ, a, h2⟩
  | 2, ⟨x, μ, a, b⟩ =>
    obtain ⟨w, h1, h2⟩ := h _ _ b
    exact ⟨w, h1, x, μ, a, h2⟩
  | _ + 3, ⟨x, μ, a, b⟩ =>
    obtain ⟨w, h1, h2⟩ := h _ _ b
    exact ⟨w, h1, x, μ, a, h2⟩
theorem mz_cl_x {C : mz_Cl} {ga : List mz_V → Bool} {a : List Nat} {st : List mz_V} {μ : mz_M} {f : List mz_V → mz_M → Prop} {g : mz_O → List mz_V → mz_M → Prop} (h : ∀ v μ, f v μ → ∃ w, A w ∧ g w v μ) (hc : mz_cl C ga a st μ f) : ∃ w, A w ∧ mz_cl C ga a st μ (g w) := by
  match a, hc with
  | y :: n :: k :: t :: ml :: _, hc =>
    unfold mz_cl at hc ⊢
    dsimp only at hc ⊢
    cases hk : mz_tk n [] st with
    | none => rw [hk] at hc; exact hc.elim
    | some q =>
      rw [hk] at hc
      exact mz_bif_x (mz_an_x (fun v μ => h _ _)) hc
theorem mz_and_x {P F : Prop} {f : mz_O → Prop} (h : F → ∃ w, A w ∧ f w) (hb : P ∧ F) : ∃ w, A w ∧ (P ∧ f w) := by
  obtain ⟨w, h1, h2⟩ := h hb.2
  exact ⟨w, h1, hb.1, h2⟩
theorem mz_ac_x {SH : List mz_Sh} {st : List mz_V} {fI fL : Nat → Nat → Int32 → Int32 → Int32 → List mz_V → Prop} {gI gL : mz_O → Nat → Nat → Int32 → Int32 → Int32 → List mz_V → Prop} (h1 : ∀ a b c d e f, fI a b c d e f → ∃ w, A w ∧ gI w a b c d e f) (h2 : ∀ a b c d e f, fL a b c d e f → ∃ w, A w ∧ gL w a b c d e f) (h : mz_ac SH st fI fL) : ∃ w, A w ∧ mz_ac SH st (gI w) (gL w) := by
  unfold mz_ac at h ⊢
  split at h
  · split at h
    · exact mz_and_x (mz_bif_x (h1 _ _ _ _ _ _)) h
    · exact mz_and_x (mz_bif_x (h2 _ _ _ _ _ _)) h
    · exact h.elim
  · exact h.elim
end MX
set_option maxHeartbeats 4000000 in
theorem mz_op_x {SH : List mz_Sh} {C : mz_Cl} {Q : Option mz_V → mz_M → Prop} {K : mz_S → Prop} {K' : mz_O → mz_S → Prop} (hK : ∀ s, K s → ∃ w : mz_O, Q w.1 w.2 ∧ K' w s) {e : mz_E} {pc : Nat} {L : mz_Lo} {st : List mz_V} {μ : mz_M} : mz_op SH C Q K e pc L st μ → ∃ w : mz_O, Q w.1 w.2 ∧ mz_op SH C (fun r2 μ2 => r2 = w.1 ∧ μ2 = w.2) (K' w) e pc L st μ := by
  obtain ⟨i, len, c, cl, a, ps, kt, kn⟩ := e
  cases i
  case dup =>
    match st with
    | [] => exact False.elim
    | .inl x :: r => exact hK _
    | .inr (.inl _) :: _ => exact False.elim
    | .inr (.inr (t, p)) :: r => exact hK _
  case pop =>
    match st with
    | [] => exact False.elim
    | .inl x :: r => exact hK _
    | .inr _ :: _ => exact False.elim
  case dup2 =>
    match st with
    | [] => exact False.elim
    | .inr _ :: _ => exact False.elim
    | [.inl _] => exact False.elim
    | .inl _ :: .inl _ :: _ => exact False.elim
    | .inl _ :: .inr (.inl _) :: _ => exact False.elim
    | .inl x :: .inr (.inr (t, p)) :: r => exact hK _
  case if_icmp op off => exact mz_p2_x (g := fun w x y r => mz_ic op x y (K' w (mz_a0 a, mz_kp kt L, r, μ)) (K' w (pc + len, mz_kp kn L, r, μ))) fun x y r => mz_ic_x (hK _) (hK _)
  case ifCond op off => exact mz_p1_x (g := fun w x r => mz_if op x (K' w (mz_a0 a, mz_kp kt L, r, μ)) (K' w (pc + len, mz_kp kn L, r, μ))) fun x r => mz_if_x (hK _) (hK _)
  case tableswitch => exact mz_p1_x (g := fun w x r => mz_sw x (fun t => K' w (t, L, r, μ)) (mz_a0 a) ps) fun x r => mz_sw_x (fun t => hK _)
  case lookupswitch => exact mz_p1_x (g := fun w x r => mz_sw x (fun t => K' w (t, L, r, μ)) (mz_a0 a) ps) fun x r => mz_sw_x (fun t => hK _)
  case invokevirtual =>
    cases a with
    | nil => exact False.elim
    | cons cj a' => exact mz_cl_x (g := fun w v μ' => K' w (pc + len, mz_kp kn L, v, μ')) (fun v μ => hK _)
  case getfield =>
    intro h
    obtain ⟨t, p, r, rfl, k1⟩ := mz_h1_i h
    split at k1
    · next ci fs cj k rest hsh =>
      obtain ⟨hb, k2⟩ := mz_bif_i k1
      split at k2
      · next hf =>
        obtain ⟨w, h1, h2⟩ := hK _ k2
        exact ⟨w, h1, by dsimp only [mz_op, mz_h1]; rw [hsh]; dsimp only; rw [hb, hf]; exact h2⟩
      · next b off t' hf =>
        obtain ⟨w, h1, h2⟩ := hK _ k2
        exact ⟨w, h1, by dsimp only [mz_op, mz_h1]; rw [hsh]; dsimp only; rw [hb, hf]; exact h2⟩
      · exact k2.elim
    · exact k1.elim
  case putfield =>
    intro h
    obtain ⟨x, r0, rfl, k0⟩ := mz_p1_i h
    obtain ⟨t, p, r, rfl, k1⟩ := mz_h1_i k0
    split at k1
    · next ci fs cj k b rest hsh =>
      obtain ⟨hb, k2⟩ := mz_bif_i k1
      split at k2
      · next hf =>
        obtain ⟨w, h1, h2⟩ := mz_bool_x (hK _) k2
        exact ⟨w, h1, by dsimp only [mz_op, mz_h1, mz_p1]; rw [hsh]; dsimp only; rw [hb, hf]; exact h2⟩
      · exact k2.elim
    · exact k1.elim
  case iaload =>
    intro h
    obtain ⟨x, r0, rfl, k0⟩ := mz_p1_i h
    obtain ⟨t, p, r, rfl, k1⟩ := mz_h1_i k0
    split at k1
    · next ti n q hsh =>
      obtain ⟨w, h1, h2⟩ := mz_and_x (hK _) k1
      exact ⟨w, h1, by dsimp only [mz_op, mz_h1, mz_p1]; rw [hsh]; exact h2⟩
    · exact k1.elim
  case laload =>
    intro h
    obtain ⟨x, r0, rfl, k0⟩ := mz_p1_i h
    obtain ⟨t, p, r, rfl, k1⟩ := mz_h1_i k0
    split at k1
    · next ti n q hsh =>
      obtain ⟨w, h1, h2⟩ := mz_and_x (hK _) k1
      exact ⟨w, h1, by dsimp only [mz_op, mz_h1, mz_p1]; rw [hsh]; exact h2⟩
    · exact k1.elim
  case aaload =>
    intro h
    obtain ⟨x, r0, rfl, k0⟩ := mz_p1_i h
    obtain ⟨t, p, r, rfl, k1⟩ := mz_h1_i k0
    split at k1
    · next ti n t' b off w' hsh =>
      obtain ⟨w, h1, h2⟩ := mz_and_x (hK _) k1
      exact ⟨w, h1, by dsimp only [mz_op, mz_h1, mz_p1]; rw [hsh]; exact h2⟩
    · exact k1.elim
  case iastore =>
    intro h
    obtain ⟨v, r1, rfl, k00⟩ := mz_p1_i h
    obtain ⟨x, r0, rfl, k0⟩ := mz_p1_i k00
    obtain ⟨t, p, r, rfl, k1⟩ := mz_h1_i k0
    split at k1
    · next ti n q hsh =>
      obtain ⟨w, h1, h2⟩ := mz_and_x (hK _) k1
      exact ⟨w, h1, by dsimp only [mz_op, mz_h1, mz_p1]; rw [hsh]; exact h2⟩
    · exact k1.elim
  case lastore =>
    intro h
    obtain ⟨v, r1, rfl, k00⟩ := mz_g1_i h
    obtain ⟨x, r0, rfl, k0⟩ := mz_p1_i k00
    obtain ⟨t, p, r, rfl, k1⟩ := mz_h1_i k0
    split at k1
    · next ti n q hsh =>
      obtain ⟨w, h1, h2⟩ := mz_and_x (hK _) k1
      exact ⟨w, h1, by dsimp only [mz_op, mz_h1, mz_p1, mz_g1]; rw [hsh]; exact h2⟩
    · exact k1.elim
  case arraylength =>
    intro h
    obtain ⟨t, p, r, rfl, k1⟩ := mz_h1_i h
    split at k1
    · next ti n q hsh =>
      obtain ⟨w, h1, h2⟩ := hK _ k1
      exact ⟨w, h1, by dsimp only [mz_op, mz_h1]; rw [hsh]; exact h2⟩
    · exact k1.elim
  case invokestatic =>
    cases a with
    | nil => exact False.elim
    | cons z a' =>
      cases z with
      | zero => exact mz_ac_x (gI := fun w p0 p1 s d n r => K' w (pc + len, mz_kp kn L, r, mz_cI μ p0 p1 s.toNatClampNeg d.toNatClampNeg n.toNatClampNeg)) (gL := fun w p0 p1 s d n r => K' w (pc + len, mz_kp kn L, r, mz_cL μ p0 p1 s.toNatClampNeg d.toNatClampNeg n.toNatClampNeg)) (fun _ _ _ _ _ _ => hK _) (fun _ _ _ _ _ _ => hK _)
      | succ z => exact mz_cl_x (g := fun w v μ' => K' w (pc + len, mz_kp kn L, v, μ')) (fun v μ => hK _)
  case ireturn =>
    match st with
    | [.inl x] => exact mz_bool_x (f := fun w => some (mz_I x) = w.1 ∧ μ = w.2) (fun h => ⟨(some (mz_I x), μ), h, rfl, rfl⟩)
    | [] => exact False.elim
    | [.inr _] => exact False.elim
    | .inl _ :: _ :: _ => exact False.elim
    | .inr (.inl _) :: _ :: _ => exact False.elim
    | .inr (.inr _) :: _ :: _ => exact False.elim
  case lreturn =>
    match st with
    | [.inr (.inl x)] => exact fun h => ⟨(some (mz_L x), μ), h, rfl, rfl⟩
    | [] => exact False.elim
    | [.inl _] => exact False.elim
    | [.inr (.inr _)] => exact False.elim
    | .inl _ :: _ :: _ => exact False.elim
    | .inr (.inl _) :: _ :: _ => exact False.elim
    | .inr (.inr _) :: _ :: _ => exact False.elim
  case areturn =>
    match st with
    | [.inr (.inr (t, p))] => exact fun h => ⟨(some (mz_R t p), μ), h, rfl, rfl⟩
    | [] => exact False.elim
    | [.inl _] => exact False.elim
    | [.inr (.inl _)] => exact False.elim
    | .inl _ :: _ :: _ => exact False.elim
    | .inr (.inl _) :: _ :: _ => exact False.elim
    | .inr (.inr _) :: _ :: _ => exact False.elim
  case return_ =>
    match st with
    | [] => exact fun h => ⟨(none, μ), h, rfl, rfl⟩
    | _ :: _ => exact False.elim
  all_goals first
    | exact hK _
    | exact False.elim
    | exact mz_p1_x fun x r => hK _
    | exact mz_p2_x fun x y r => hK _
    | exact mz_p2_x fun x y r => mz_and_x (hK _)
    | exact mz_g1_x fun x r => hK _
    | exact mz_g2_x fun x y r => hK _
    | exact mz_g2_x fun x y r => mz_and_x (hK _)
    | exact mz_h1_x fun x y r => hK _
    | exact mz_li_x fun x => hK _
    | exact mz_ll_x fun x => hK _
    | exact mz_lr_x fun x y => hK _
theorem mz_Ev.ex {SH : List mz_Sh} {tab : mz_T} {C : mz_Cl} {Q : Option mz_V → mz_M → Prop} {s : mz_S} (h : mz_Ev SH tab C Q s) : ∃ w : mz_O, Q w.1 w.2 ∧ mz_Ev SH tab C (fun r2 μ2 => r2 = w.1 ∧ μ2 = w.2) s := by
  refine h (fun s => ∃ w : mz_O, Q w.1 w.2 ∧ mz_Ev SH tab C (fun r2 μ2 => r2 = w.1 ∧ μ2 = w.2) s) (fun s hs => ?_)
  unfold mz_step at hs
  cases hk : mz_nth tab s.1 with
  | none => rw [hk] at hs; exact hs.elim
  | some o =>
    cases o with
    | none => rw [hk] at hs; exact hs.elim
    | some e =>
      rw [hk] at hs
      obtain ⟨w, h1, h2⟩ := mz_op_x (K' := fun w s => mz_Ev SH tab C (fun r2 μ2 => r2 = w.1 ∧ μ2 = w.2) s) (fun s h => h) hs
      exact ⟨w, h1, mz_Ev.step (by unfold mz_step; rw [hk]; exact h2)⟩
/-- the class's and the reference's methods, d calls deep -/
abbrev es_R (d : Nat) : mz_Cl := mz_Rel es_SH es_TB d
theorem es_ex {d y : Nat} {a : List mz_V} {μ : mz_M} {Q : Option mz_V → mz_M → Prop} (h : mz_Ev es_SH (es_TB y) (es_R d) Q (0, mz_ent 0 a, [], μ)) : ∃ r μ', es_R (d + 1) y a μ r μ' ∧ Q r μ' := by
  obtain ⟨⟨r, μ'⟩, h1, h2⟩ := h.ex
  exact ⟨r, μ', h2, h1⟩
