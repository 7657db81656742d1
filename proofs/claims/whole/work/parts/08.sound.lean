/-! The second machine's runs are the machine's. -/
def mz_ty (ats : List FieldType) (cA : Nat → ClassId) : List (ClassId × FieldType) := (List.range ats.length).map (fun i => (cA i, ats.getD i .int))
theorem mz_ty_at {ats : List FieldType} {cA : Nat → ClassId} {i : Nat} {ty : FieldType} (h : ats[i]? = some ty) : (mz_ty ats cA)[i]? = some (cA i, ty) := by
  have hl := (List.getElem?_eq_some_iff.mp h).1
  unfold mz_ty
  rw [List.getElem?_map, List.getElem?_range hl]
  show some (cA i, ats.getD i FieldType.int) = _
  rw [List.getD_eq_getElem?_getD, h]
  rfl
def mz_room (d : Nat) : Room := { frames := d, cells := 0, slots := 0, locals := 60 * d + 100 }
def mz_ws (TBL : List Jvm.Cond) (me : mz_Me) : List Jvm.Cond := Jvm.Cond.code me.1 me.2.1 me.2.2.1 me.2.2.2.1 :: TBL.filter goodWord
def mz_Pc (SH : List mz_Sh) (LAY : List Nat) (cA : Nat → ClassId) (ad : Nat → Nat) (D : va_G) (cls : List vw_C) (TBL : List Jvm.Cond) (ats : List FieldType) (a : List mz_V) (μ : mz_M) : Array Value → State → Prop :=
  va_Pc (a.map (mz_cv ad)) (fun U => va_P D cls (mz_w SH LAY cA ad μ) U.heap ∧ va_K D cls (mz_ty ats cA) U ∧ mz_NW TBL U)
def mz_QC (SH : List mz_Sh) (LAY : List Nat) (cA : Nat → ClassId) (ad : Nat → Nat) (D : va_G) (cls : List vw_C) (r : Option mz_V) (μ' : mz_M) : Array Value → State → Outcome → State → Prop :=
  fun _ st oc t => oc = .returned (r.map (mz_cv ad)) ∧ (∀ v, r = some v → mz_vd LAY v) ∧ va_P D cls (mz_w SH LAY cA ad μ') t.heap ∧ va_F (mz_A LAY ad) st t
/-- what is fixed: addresses apart; the layout is closed; rows' types; the classes' words -/
def mz_Wd (SH : List mz_Sh) (LAY : List Nat) (ad : Nat → Nat) (cls : List vw_C) (TBL : List Jvm.Cond) (ats : List FieldType) : Prop :=
  (∀ i j, i < LAY.length → j < LAY.length → ad i = ad j → i = j) ∧
  (∀ (p t ci : Nat) (fs : List mz_F) (k : Nat) (b : Bool) (off t' : Nat), LAY[p]? = some t → mz_nth SH t = some (.inl (ci, fs)) → mz_nth fs k = some (some (b, off, t')) → LAY[mz_pl b p off]? = some t') ∧
  (∀ (p t ti n t' : Nat) (b : Bool) (off w i : Nat), LAY[p]? = some t → mz_nth SH t = some (.inr (ti, n, 2, t', b, off, w)) → i < n → LAY[mz_pl b p off + w * i]? = some t') ∧
  (∀ t ti n q, mz_nth SH t = some (.inr (ti, n, 0, q)) → ats[ti]? = some .int) ∧
  (∀ t ti n q, mz_nth SH t = some (.inr (ti, n, 1, q)) → ats[ti]? = some .long) ∧
  (∀ t ti n q, mz_nth SH t = some (.inr (ti, n, 2, q)) → ∃ C, ats[ti]? = some (.object C)) ∧
  (∀ t ti n k q, mz_nth SH t = some (.inr (ti, n, k, q)) → k ≤ 2) ∧
  (∀ (ci : Nat) (q : vw_C), cls[ci]? = some q → (∀ w ∈ u_ws q.1 q.2.1 q.2.2, w ∈ TBL.filter goodWord) ∧ ∃ ty0 : Nat → FieldType, (∀ k, k < q.2.2 → parseFieldDescriptor (q.2.1 k).2.2.1 = some (ty0 k)) ∧ ∀ a, a < q.2.2 → ∀ b, b < q.2.2 → a ≠ b → (q.2.1 a).2.1 ≠ (q.2.1 b).2.1)
section MZS
variable {p : Program} {l : Launch} {e : Env} {s : State} {m : MethodId} {args : Array Value} {below : List Frame} {meth : Method} {c : Code} {d : Nat}
variable {SH : List mz_Sh} {LAY : List Nat} {cA : Nat → ClassId} {ad : Nat → Nat} {D : va_G} {cls : List vw_C} {TBL : List Jvm.Cond} {host : String} {MS : List mz_Me} {ats : List FieldType}
/-- a method is being run -/
def mz_Cx (p : Program) (s : State) (m : MethodId) (args : Array Value) (meth : Method) (c : Code) (cA : Nat → ClassId) (D : va_G) (cls : List vw_C) (TBL : List Jvm.Cond) (ats : List FieldType) (me : mz_Me) : Prop :=
  p.tables.exec = Jvm.exec ∧ c.code = me.2.1 ∧ c.maxLocals = me.2.2.1 ∧ s.vm.findClass me.1.cls = some m.cls ∧ (∀ w ∈ mz_ws TBL me, w.before args s = true) ∧ meth.sig.returnType = me.2.2.2.1 ∧ meth.locks = false ∧ va_K D cls (mz_ty ats cA) s ∧ mz_NW TBL s
def mz_PW (p : Program) (l : Launch) (e : Env) (R : Room) (s : State) (m : MethodId) (args : Array Value) (below : List Frame) (meth : Method) (c : Code) (SH : List mz_Sh) (LAY : List Nat) (cA : Nat → ClassId) (ad : Nat → Nat) (D : va_G) (cls : List vw_C) (nL : Nat) (Qf : State → Prop) (z : mz_S) : Prop :=
  ∀ (H : Heap) (locs : List Loc) (ls : Array Slot), lv_has ls nL (mz_lc ad z.2.1) → mz_vl LAY z.2.1 → mz_vs LAY z.2.2.1 → va_P D cls (mz_w SH LAY cA ad z.2.2.2) H → va_S (mz_A LAY ad) s.heap H locs → W p l e R s m args below meth c H locs 0 0 Qf (F0 m z.1 ls (z.2.2.1.map (mz_cv ad)))
theorem mz_call {H : Heap} {locs : List Loc} {R : Room} {a : Array Value} {rest : List Value} {st0 : List Value} {pc : Nat} {ls : Array Slot} {r : Option mz_V} {μ' : mz_M} {Qf : State → Prop}
    (hr : va_Run p l e R s m args below meth c H locs 0 0 0 0 (F0 m pc ls st0) rest (mz_QC SH LAY cA ad D cls r μ' a) (mz_A LAY ad)) (hS : va_S (mz_A LAY ad) s.heap H locs)
    (kk : ∀ (H1 : Heap) (locs1 : List Loc), (∀ v, r = some v → mz_vd LAY v) → va_P D cls (mz_w SH LAY cA ad μ') H1 → va_S (mz_A LAY ad) s.heap H1 locs1 → W p l e R s m args below meth c H1 locs1 0 0 Qf (F0 m (pc + 3) ls ((r.map (mz_cv ad)).toList ++ rest))) : W p l e R s m args below meth c H locs 0 0 Qf (F0 m pc ls st0) := by
  intro T hT X
  obtain ⟨v, st₀, t, T', L, h0, X', hL, e1, e2, ⟨hv, hvd, hp, hz, hk⟩, st⟩ := hr T hT X
  cases hv
  rw [h0] at hz hk
  obtain ⟨t2, a1, b1⟩ := kk T'.heap (locs ++ L) hvd (by rw [e1]; exact hp)
    ⟨Nat.le_trans hS.1 (by rw [e1]; exact hz), fun q h1 h2 => by rw [e1, hk q (Nat.lt_of_lt_of_le h1 hS.1) h2]; exact hS.2.1 q h1 h2, fun q hq => by
      rcases List.mem_append.mp hq with h | h
      · exact hS.2.2 q h
      · exact hL q h⟩ T' rfl X'
  exact ⟨t2, st t2 a1, b1⟩
theorem mz_vs_app {a b : List mz_V} (h1 : ∀ v ∈ a, mz_vd LAY v) (h2 : mz_vs LAY b) : mz_vs LAY (a ++ b) := fun v hv => by
  rcases List.mem_append.mp hv with h | h
  · exact h1 v h
  · exact h2 v h
theorem mz_blind {a : List mz_V} {μ : mz_M} : FrameBlind (mz_Pc SH LAY cA ad D cls TBL ats a μ) := by
  intro a U g mk q
  obtain ⟨h1, h2, h3, h4⟩ := q
  exact ⟨h1, h2, va_K.moved (u := U) (U := U.calling g mk a) (Vm.Alike.refl U.vm) h3, mz_NW.same (s := U) (U := U.calling g mk a) rfl h4⟩
theorem mz_pre {H : Heap} {a : List mz_V} {μ : mz_M} (hP : va_P D cls (mz_w SH LAY cA ad μ) H) (hK : va_K D cls (mz_ty ats cA) s) (hN : mz_NW TBL s) : ∀ U : State, U.heap = H → s.WarmedH U.vm → mz_Pc SH LAY cA ad D cls TBL ats a μ (a.map (mz_cv ad)).toArray U :=
  fun U hU hW => ⟨rfl, by rw [hU]; exact hP, va_K.moved hW.alike hK, mz_NW.warm hW hN⟩
/-- the words of one method among another's -/
theorem mz_good {me me' : mz_Me} (h : Jvm.Cond.code me'.1 me'.2.1 me'.2.2.1 me'.2.2.2.1 ∈ TBL) : GoodIn (mz_ws TBL me) (mz_ws TBL me') := by
  intro w hw
  rcases List.mem_cons.mp hw with rfl | hw
  · exact ⟨List.mem_cons_of_mem _ (List.mem_filter.mpr ⟨h, rfl⟩), Or.inl rfl⟩
  · exact ⟨List.mem_cons_of_mem _ hw, good_of_word (List.mem_filter.mp hw).2⟩
theorem mz_okM_i {me : mz_Me} (h : mz_okM TBL host cls MS me = true) : Jvm.Cond.code me.1 me.2.1 me.2.2.1 me.2.2.2.1 ∈ TBL ∧ Jvm.Cond.initialized me.1.cls ∈ TBL ∧ (me.2.2.2.2.2.1 = true → Jvm.Cond.static me.1 ∈ TBL) ∧ (me.2.2.2.2.2.1 = false → Jvm.Cond.instanceMethod me.1 ∈ TBL ∧ Jvm.Cond.selects me.1.cls me.1 me.1 ∈ TBL) ∧ plainFor me.1 = true ∧ (me.1.cls ≠ "java/lang/invoke/MethodHandle" ∧ me.1.cls ≠ "java/lang/invoke/VarHandle") ∧ (parseMethodDescriptor me.1.desc).map (fun d => d.parameters.length) = some me.2.2.2.2.1 ∧ me.2.2.1 ≤ 30 ∧ mz_okR TBL host cls MS me 0 me.2.2.2.2.2.2.2 = true := by
  unfold mz_okM at h
  simp only [Bool.and_eq_true] at h
  obtain ⟨⟨⟨⟨⟨h1, h2⟩, h3⟩, h4⟩, h5⟩, h6⟩ := h
  split at h1
  · simp only [Bool.and_eq_true] at h1
    obtain ⟨⟨a1, a2⟩, a3⟩ := h1
    refine ⟨mz_lw_m a1, mz_lw_m a2, fun hs => ?_, fun hs => ?_, h2, of_decide_eq_true h3, of_decide_eq_true h4, of_decide_eq_true h5, h6⟩
    · rw [hs] at a3
      exact mz_lw_m a3
    · rw [hs] at a3
      simp only [cond_false, Bool.and_eq_true] at a3
      exact ⟨mz_lw_m a3.1, mz_lw_m a3.2⟩
  · cases h1
end MZS
