/-! What the constructors build: cell by cell, one behind the other. -/
theorem mb_u0 : ∀ w ∈ u_ws RX0 TX0 4, w ∈ lw_tbl ∧ goodWord w = true := by decide +kernel
theorem mb_u1 : ∀ w ∈ u_ws RX1 TX1 10, w ∈ lw_tbl ∧ goodWord w = true := by decide +kernel
theorem mb_u2 : ∀ w ∈ u_ws RX2 TX2 3, w ∈ lw_tbl ∧ goodWord w = true := by decide +kernel
theorem mb_u3 : ∀ w ∈ u_ws RX3 TX3 2, w ∈ lw_tbl ∧ goodWord w = true := by decide +kernel
theorem mb_u4 : ∀ w ∈ u_ws RX4 TX4 3, w ∈ lw_tbl ∧ goodWord w = true := by decide +kernel
theorem mb_u5 : ∀ w ∈ u_ws RX5 TX5 7, w ∈ lw_tbl ∧ goodWord w = true := by decide +kernel
theorem mb_u6 : ∀ w ∈ u_ws RX6 TX6 9, w ∈ lw_tbl ∧ goodWord w = true := by decide +kernel
theorem mb_u7 : ∀ w ∈ u_ws RX7 TX7 28, w ∈ lw_tbl ∧ goodWord w = true := by decide +kernel
theorem mb_cls : ∀ (ci : Nat) (q : vw_C), vwCl[ci]? = some q → (∀ w ∈ u_ws q.1 q.2.1 q.2.2, w ∈ lw_tbl.filter goodWord) ∧ ∃ ty0 : Nat → FieldType, (∀ k, k < q.2.2 → parseFieldDescriptor (q.2.1 k).2.2.1 = some (ty0 k)) ∧ ∀ a, a < q.2.2 → ∀ b, b < q.2.2 → a ≠ b → (q.2.1 a).2.1 ≠ (q.2.1 b).2.1 := by
  intro ci q hq
  match ci, hq with
  | 0, hq => cases hq; exact ⟨fun w hw => List.mem_filter.mpr (mb_u0 w hw), tyX0, tyX0_ok, nmX0⟩
  | 1, hq => cases hq; exact ⟨fun w hw => List.mem_filter.mpr (mb_u1 w hw), tyX1, tyX1_ok, nmX1⟩
  | 2, hq => cases hq; exact ⟨fun w hw => List.mem_filter.mpr (mb_u2 w hw), tyX2, tyX2_ok, nmX2⟩
  | 3, hq => cases hq; exact ⟨fun w hw => List.mem_filter.mpr (mb_u3 w hw), tyX3, tyX3_ok, nmX3⟩
  | 4, hq => cases hq; exact ⟨fun w hw => List.mem_filter.mpr (mb_u4 w hw), tyX4, tyX4_ok, nmX4⟩
  | 5, hq => cases hq; exact ⟨fun w hw => List.mem_filter.mpr (mb_u5 w hw), tyX5, tyX5_ok, nmX5⟩
  | 6, hq => cases hq; exact ⟨fun w hw => List.mem_filter.mpr (mb_u6 w hw), tyX6, tyX6_ok, nmX6⟩
  | 7, hq => cases hq; exact ⟨fun w hw => List.mem_filter.mpr (mb_u7 w hw), tyX7, tyX7_ok, nmX7⟩
  | k + 8, hq => simp [vwCl] at hq
def mb_AO (U : State) : Prop := va_AO RX3 U ∧ va_AO RX4 U ∧ va_AO RX0 U
/-- what a constructor, or the law, stands on -/
def mb_C (p : Program) (s : State) (m : MethodId) (args : Array Value) (c : Code) (D : va_G) (cA : Nat → ClassId) (cc : ByteArray) (own : String) : Prop :=
  p.tables.exec = Jvm.exec ∧ c.code = cc ∧ s.vm.findClass own = some m.cls ∧ (∀ w ∈ lw_tbl, goodWord w = true → w.before args s = true) ∧ va_K D vwCl (mz_ty es_ats cA) s ∧ mz_NW lw_tbl s ∧ mb_AO s
/-- the cells ws lie from a on, n of them -/
def mb_S (D : va_G) (s : State) (a n : Nat) (ws : va_W) (H : Heap) (locs : List Loc) : Prop := H.size = a + n ∧ va_P D vwCl ws H ∧ va_D (fun q => a ≤ q) ws ∧ va_S (fun q => a ≤ q) s.heap H locs
section MB
variable {p : Program} {l : Launch} {e : Env} {R : Room} {s : State} {m : MethodId} {args : Array Value} {below : List Frame} {meth : Method} {c : Code} {H : Heap} {locs : List Loc} {cells slots : Nat} {Q : State → Prop}
variable {D : va_G} {cA : Nat → ClassId} {cc : ByteArray} {own : String} {a n pc : Nat} {ws : va_W} {ls : Array Slot} {rest : List Value}
theorem mb_C.gf (C : mb_C p s m args c D cA cc own) : ∀ w ∈ lw_tbl.filter goodWord, w.before args s = true := fun w hw => C.2.2.2.1 w (List.mem_filter.mp hw).1 (List.mem_filter.mp hw).2
/-- behind a new cell -/
theorem mb_S.born (ha : a ≤ s.heap.size) (S : mb_S D s a n ws H locs) {H1 : Heap} {x : va_E} (z1 : H1.size = a + n + 1) (o1 : ∀ q, q < a + n → H1[q]? = H[q]?) (hx : va_at D vwCl (a + n, x) H1) : mb_S D s a (n + 1) (ws ++ [(a + n, x)]) H1 locs := by
  obtain ⟨hz, hP, hD, hS⟩ := S
  have hk : ∀ (k : Nat) (x : Nat × va_E), ws[k]? = some x → H1[x.1]? = H[x.1]? := fun k x hx => o1 x.1 (by have := (hP k x hx).lt; omega)
  have hs := hS.1
  refine ⟨by omega, (hP.kept hk).app (fun k y hy => ?_), hD.push hP hz.symm (by show a ≤ a + n; omega), ⟨by omega, fun q h1 h2 => (o1 q (by omega)).trans (hS.2.1 q h1 h2), hS.2.2⟩⟩
  have hz2 : k < 1 := (List.getElem?_eq_some_iff.mp hy).1
  rw [show k = 0 by omega] at hy
  cases hy
  exact hx
theorem mb_new (C : mb_C p s m args c D cA cc own) (ha : a ≤ s.heap.size) (S : mb_S D s a n ws H locs) {ci N index : Nat} {Cn : String} {T : u_T} {fs : List Value} (hc : vwCl[ci]? = some (Cn, T, N)) (w1 : Cond.classLink own index Cn ∈ lw_tbl) (w2 : Cond.instantiable Cn N ∈ lw_tbl) (w3 : Cond.initialized Cn ∈ lw_tbl) (ty : Nat → FieldType) (hty : ∀ k, k < N → parseFieldDescriptor (T k).2.2.1 = some (ty k)) (hfs : ∀ j, j < N → defaultValue (ty j) = vp_V fs j) (hcells : cells + 1 ≤ R.cells) (hslots : slots + N ≤ R.slots) (hdg : decode cc pc = .ok (.new index, 3))
    (kk : ∀ H1 : Heap, mb_S D s a (n + 1) (ws ++ [(a + n, .inr (ci, fs))]) H1 locs → W p l e R s m args below meth c H1 locs (cells + 1) (slots + N) Q (F0 m (pc + 3) ls (.ref (a + n) :: rest))) : W p l e R s m args below meth c H locs cells slots Q (F0 m pc ls rest) := by
  obtain ⟨hx, hb, hown, gw, hK, -, -⟩ := id C
  have hKn := hK.1 ci _ hc
  refine W.newcK (h := a + n) hx hb hown (gw _ w1 rfl) (gw _ w2 rfl) (gw _ w3 rfl) rfl hdg hcells hslots hKn.2.1 S.1 fun H1 kC hkC e1 z1 o1 => ?_
  exact kk H1 (S.born ha z1 o1 ⟨_, hc, (u_born ty C.gf (mb_cls ci _ hc).1 hKn hkC e1 hty).to hfs⟩)
theorem mb_newi (C : mb_C p s m args c D cA cc own) (ha : a ≤ s.heap.size) (S : mb_S D s a n ws H locs) (w1 : Cond.arrayClass .int ∈ lw_tbl) {k : Int32} {N : Nat} (hn : ¬ k < 0) (hN : k.toNatClampNeg = N) (hbytes : N * 4 ≤ 536870912) (hcells : cells + 1 ≤ R.cells) (hslots : slots + N ≤ R.slots) (hdg : decode cc pc = .ok (.newarray .int, 2))
    (kk : ∀ H1 : Heap, mb_S D s a (n + 1) (ws ++ [(a + n, .inl (cA 0, N, .inl (fun _ => 0)))]) H1 locs → W p l e R s m args below meth c H1 locs (cells + 1) (slots + N) Q (F0 m (pc + 2) ls (.ref (a + n) :: rest))) : W p l e R s m args below meth c H locs cells slots Q (F0 m pc ls (.int k :: rest)) := by
  obtain ⟨hx, hb, hown, gw, hK, -, -⟩ := id C
  refine va_newaK (h := a + n) (atype := .int) hx hb (gw _ w1 rfl) rfl hdg rfl hn hN hbytes hcells hslots S.1 fun H1 cA' e1 z1 o1 hAr hNm => ?_
  have h0 : s.vm.findClass ("[" ++ FieldType.int.toString) = some (cA 0) := (hK.2 0 _ (mz_ty_at (i := 0) rfl)).2
  have hc : cA' = cA 0 := Option.some.inj (hNm.symm.trans h0)
  subst hc
  exact kk H1 (S.born ha z1 o1 e1)
theorem mb_newl (C : mb_C p s m args c D cA cc own) (ha : a ≤ s.heap.size) (S : mb_S D s a n ws H locs) (w1 : Cond.arrayClass .long ∈ lw_tbl) {k : Int32} {N : Nat} (hn : ¬ k < 0) (hN : k.toNatClampNeg = N) (hbytes : N * 8 ≤ 536870912) (hcells : cells + 1 ≤ R.cells) (hslots : slots + N ≤ R.slots) (hdg : decode cc pc = .ok (.newarray .long, 2))
    (kk : ∀ H1 : Heap, mb_S D s a (n + 1) (ws ++ [(a + n, .inl (cA 1, N, .inr (.inl (fun _ => 0))))]) H1 locs → W p l e R s m args below meth c H1 locs (cells + 1) (slots + N) Q (F0 m (pc + 2) ls (.ref (a + n) :: rest))) : W p l e R s m args below meth c H locs cells slots Q (F0 m pc ls (.int k :: rest)) := by
  obtain ⟨hx, hb, hown, gw, hK, -, -⟩ := id C
  refine va_newaK (h := a + n) (atype := .long) hx hb (gw _ w1 rfl) rfl hdg rfl hn hN hbytes hcells hslots S.1 fun H1 cA' e1 z1 o1 hAr hNm => ?_
  have h0 : s.vm.findClass ("[" ++ FieldType.long.toString) = some (cA 1) := (hK.2 1 _ (mz_ty_at (i := 1) rfl)).2
  have hc : cA' = cA 1 := Option.some.inj (hNm.symm.trans h0)
  subst hc
  exact kk H1 (S.born ha z1 o1 e1)
theorem mb_newq (C : mb_C p s m args c D cA cc own) (ha : a ≤ s.heap.size) (S : mb_S D s a n ws H locs) {index t0 : Nat} {Cn : String} (w1 : Cond.classLink own index Cn ∈ lw_tbl) (hO : va_AO Cn s) (ht : es_ats[t0]? = some (.object Cn)) {k : Int32} {N : Nat} (hn : ¬ k < 0) (hN : k.toNatClampNeg = N) (hbytes : N * 4 ≤ 536870912) (hcells : cells + 1 ≤ R.cells) (hslots : slots + N ≤ R.slots) (hdg : decode cc pc = .ok (.anewarray index, 3))
    (kk : ∀ H1 : Heap, mb_S D s a (n + 1) (ws ++ [(a + n, .inl (cA t0, N, .inr (.inr (.inr (.inr (fun _ => none))))))]) H1 locs → W p l e R s m args below meth c H1 locs (cells + 1) (slots + N) Q (F0 m (pc + 3) ls (.ref (a + n) :: rest))) : W p l e R s m args below meth c H locs cells slots Q (F0 m pc ls (.int k :: rest)) := by
  obtain ⟨hx, hb, hown, gw, hK, -, -⟩ := id C
  subst hN
  refine W.anew hx hb hown (gw _ w1 rfl) (va_AO.use hO) rfl hdg rfl hn hbytes hcells hslots fun cA' kA comp f1 f2 f3 f4 => ?_
  obtain ⟨kA', comp', g1, g2, g3, g4⟩ := (hK.2 t0 _ (mz_ty_at ht)).2
  have hc : cA' = cA t0 := Option.some.inj (f1.symm.trans g4)
  subst hc
  generalize hH1 : H.push ({ cls := cA t0, slots := Array.replicate k.toNatClampNeg .null, vm := .none } : Cell) = H1
  have z1 : H1.size = a + n + 1 := by rw [← hH1, Array.size_push, S.1]
  have e1 : H1[a + n]? = some (arrV (cA t0) k.toNatClampNeg (fun _ => .null)) := by rw [← hH1, ← S.1, Array.getElem?_push_size, ← arrV_new]
  have o1 : ∀ q : Nat, q < a + n → H1[q]? = H[q]? := fun q hq => by rw [← hH1, Array.getElem?_push, if_neg (by have := S.1; omega)]
  have hsz : H.size = a + n := S.1
  rw [hsz]
  exact kk H1 (S.born ha z1 o1 e1)
/-- behind a write of a cell -/
theorem mb_S.wrote (S : mb_S D s a n ws H locs) {H1 : Heap} {q0 q k : Nat} {x0 x : va_E} (he : ws[q0]? = some (q, x0)) (z : H1.size = H.size) (oq : ∀ j : Nat, j ≠ q → H1[j]? = H[j]?) (hx : va_at D vwCl (q, x) H1) : mb_S D s a n (ws.set q0 (q, x)) H1 (locs ++ [⟨q, k⟩]) :=
  ⟨z.trans S.1, S.2.1.set S.2.2.1 he hx oq, S.2.2.1.set he, S.2.2.2.put z oq (S.2.2.1.2 q0 _ he)⟩
theorem mb_put (C : mb_C p s m args c D cA cc own) (S : mb_S D s a n ws H locs) {ci N index q : Nat} {Cn : String} {T : u_T} (q0 : Nat) {fs : List Value} (he : ws[q0]? = some (q, .inr (ci, fs))) (hc : vwCl[ci]? = some (Cn, T, N)) (k : Nat) (hk : k < N) (w1 : Cond.fieldLink own index (T k).1 (T k).2.1 (T k).2.2.1 ∈ lw_tbl) (hfin : (T k).2.2.2 = false) {ty : FieldType} {v : Value} (hd : parseFieldDescriptor (T k).2.2.1 = some ty) (hn : narrow ty v = v) (hfit : fits ty v = true) (hl : k < fs.length) (hdg : decode cc pc = .ok (.putfield index, 3))
    (kk : ∀ (H1 : Heap) (locs1 : List Loc), mb_S D s a n (ws.set q0 (q, .inr (ci, fs.set k v))) H1 locs1 → W p l e R s m args below meth c H1 locs1 cells slots Q (F0 m (pc + 3) ls rest)) : W p l e R s m args below meth c H locs cells slots Q (F0 m pc ls (v :: .ref q :: rest)) := by
  obtain ⟨hx, hb, hown, gw, hK, -, -⟩ := id C
  obtain ⟨hin, ty0, hty, hnm⟩ := mb_cls ci _ hc
  have hap := va_apart (own := own) C.gf hin ty0 hty hnm hK hc
  obtain ⟨r, h1, cell, q1, q2, q3, q4⟩ := S.2.1 q0 _ he
  have hr : r = (Cn, T, N) := Option.some.inj (h1.symm.trans hc)
  subst hr
  obtain ⟨hS, hfc, kC, hkC, hkind⟩ := hK.1 ci _ hc
  obtain ⟨cf, kf, fi, f, hi, hsl⟩ := hS k hk
  have hlay := C.gf _ (hin _ (u_in_lay hk))
  unfold u_lay at hlay
  rw [if_neg (by rw [hfin]; decide)] at hlay
  have hst := (u_facts hfc hkC (u_lays C.gf hin hk) hi).1
  have h6 := u_store hfc hkC hkind hlay hi hd hn hfit
  refine W.putK hx hb (f := f) ⟨hown, gw _ w1 rfl, ⟨_, _, _, hi⟩, hst⟩ (by rw [q2]; exact h6) q1 q3 (by rw [hsl]; exact k2_hasslot (q4 k hk)) rfl rfl hdg fun H' e1 e2 e3 => ?_
  rw [hsl] at e1 ⊢
  exact kk H' _ (S.wrote he e2 e3 ⟨_, hc, t_OB.to (V := updV (vp_V fs) k v) ⟨_, e1, q2, q3, t_set q4 hap hk v⟩ (fun j _ => vp_updV_set hl v j)⟩)
theorem mb_putF (C : mb_C p s m args c D cA cc own) (hin2 : meth.name = "<init>") (S : mb_S D s a n ws H locs) {ci N index q : Nat} {Cn : String} {T : u_T} (q0 : Nat) {fs : List Value} (he : ws[q0]? = some (q, .inr (ci, fs))) (hc : vwCl[ci]? = some (Cn, T, N)) (k : Nat) (hk : k < N) (w1 : Cond.fieldLink own index (T k).1 (T k).2.1 (T k).2.2.1 ∈ lw_tbl) (hfin : (T k).2.2.2 = true) (hdecl : (T k).1 = own) {ty : FieldType} {v : Value} (hd : parseFieldDescriptor (T k).2.2.1 = some ty) (hn : narrow ty v = v) (hfit : fits ty v = true) (hl : k < fs.length) (hdg : decode cc pc = .ok (.putfield index, 3))
    (kk : ∀ (H1 : Heap) (locs1 : List Loc), mb_S D s a n (ws.set q0 (q, .inr (ci, fs.set k v))) H1 locs1 → W p l e R s m args below meth c H1 locs1 cells slots Q (F0 m (pc + 3) ls rest)) : W p l e R s m args below meth c H locs cells slots Q (F0 m pc ls (v :: .ref q :: rest)) := by
  obtain ⟨hx, hb, hown, gw, hK, -, -⟩ := id C
  obtain ⟨hin, ty0, hty, hnm⟩ := mb_cls ci _ hc
  have hap := va_apart (own := own) C.gf hin ty0 hty hnm hK hc
  obtain ⟨r, h1, cell, q1, q2, q3, q4⟩ := S.2.1 q0 _ he
  have hr : r = (Cn, T, N) := Option.some.inj (h1.symm.trans hc)
  subst hr
  obtain ⟨hS, hfc, kC, hkC, hkind⟩ := hK.1 ci _ hc
  obtain ⟨cf, kf, fi, f, hi, hsl⟩ := hS k hk
  have hlay := C.gf _ (hin _ (u_in_lay hk))
  unfold u_lay at hlay
  rw [if_pos hfin] at hlay
  have hst := (u_facts hfc hkC (u_lays C.gf hin hk) hi).1
  have hcf : m.cls = cf := by
    obtain ⟨_, _, c', _, _, _, -, -, hf', -, -, -, hown2, -⟩ := Cond.laysFinal_spec hlay
    have e1 : c' = cf := by have := hi.symm.trans hf'; simp at this; exact this.1.symm
    rw [hdecl] at hown2
    rw [← e1]; exact Option.some.inj (hown.symm.trans hown2)
  have h6 := u_fits hfc hkC hkind (Or.inr hlay) hi hd hn hfit
  refine W.putFinK hx hb hown (gw _ w1 rfl) hi hst hcf hin2 (by rw [q2]; exact h6) q1 q3 (by rw [hsl]; exact k2_hasslot (q4 k hk)) rfl rfl hdg fun H' e1 e2 e3 => ?_
  rw [hsl] at e1 ⊢
  exact kk H' _ (S.wrote he e2 e3 ⟨_, hc, t_OB.to (V := updV (vp_V fs) k v) ⟨_, e1, q2, q3, t_set q4 hap hk v⟩ (fun j _ => vp_updV_set hl v j)⟩)
theorem mb_get (C : mb_C p s m args c D cA cc own) (S : mb_S D s a n ws H locs) {ci N index q : Nat} {Cn : String} {T : u_T} {v : Value} (q0 : Nat) {fs : List Value} (he : ws[q0]? = some (q, .inr (ci, fs))) (hc : vwCl[ci]? = some (Cn, T, N)) (k : Nat) (hk : k < N) (w1 : Cond.fieldLink own index (T k).1 (T k).2.1 (T k).2.2.1 ∈ lw_tbl) (hv : fs[k]? = some v) (hdg : decode cc pc = .ok (.getfield index, 3))
    (kk : W p l e R s m args below meth c H locs cells slots Q (F0 m (pc + 3) ls (v :: rest))) : W p l e R s m args below meth c H locs cells slots Q (F0 m pc ls (.ref q :: rest)) := by
  obtain ⟨hx, hb, hown, gw, hK, -, -⟩ := id C
  exact va_get hx hb C.gf (mb_cls ci _ hc).1 hown hK S.2.1 q0 he hc k hk (gw _ w1 rfl) (fun _ h => h) hv hdg kk
theorem mb_iast (C : mb_C p s m args c D cA cc own) (S : mb_S D s a n ws H locs) {q N : Nat} (q0 : Nat) {f : Nat → Int32} (he : ws[q0]? = some (q, .inl (cA 0, N, .inl f))) {i x : Int32} (hin : vp_in i N) (hdg : decode cc pc = .ok (.iastore, 1))
    (kk : ∀ (H1 : Heap) (locs1 : List Loc), mb_S D s a n (ws.set q0 (q, .inl (cA 0, N, .inl (upd f i.toNatClampNeg x)))) H1 locs1 → W p l e R s m args below meth c H1 locs1 cells slots Q (F0 m (pc + 1) ls rest)) : W p l e R s m args below meth c H locs cells slots Q (F0 m pc ls (.int x :: .int i :: .ref q :: rest)) := by
  obtain ⟨hx, hb, hown, gw, hK, -, -⟩ := id C
  refine W.iast hx hb (S.2.1 q0 _ he) ((hK.2 0 _ (mz_ty_at (i := 0) rfl)).1 N (fun j => .int (f j))) (fun q => by cases q) (by show ¬ (i < 0 ∨ (arrV _ _ _).slots.size ≤ _); rw [arrV_size]; exact hin) rfl rfl hdg fun H1 e z oq => ?_
  refine kk H1 _ (S.wrote he z oq ?_)
  show H1[q]? = some (vp_cell _ _)
  rw [e, vp_cell_i, vp_cell_i, arrV_store]
  congr 2
  funext j
  by_cases hq : j = i.toNatClampNeg
  · subst hq
    simp [updV, upd]
  · simp [updV, upd, hq]
theorem mb_aast (C : mb_C p s m args c D cA cc own) (S : mb_S D s a n ws H locs) {q N v ci t0 : Nat} {r : vw_C} {vs : List Value} (q0 qk : Nat) {f : Nat → Option Nat} (he : ws[q0]? = some (q, .inl (cA t0, N, .inr (.inr (.inr (.inr f)))))) (ht : es_ats[t0]? = some (.object r.1)) (hv : ws[qk]? = some (v, .inr (ci, vs))) (hc : vwCl[ci]? = some r) {i : Int32} (hin : vp_in i N) (hdg : decode cc pc = .ok (.aastore, 1))
    (kk : ∀ (H1 : Heap) (locs1 : List Loc), mb_S D s a n (ws.set q0 (q, .inl (cA t0, N, .inr (.inr (.inr (.inr (va_up f i.toNatClampNeg (some v)))))))) H1 locs1 → W p l e R s m args below meth c H1 locs1 cells slots Q (F0 m (pc + 1) ls rest)) : W p l e R s m args below meth c H locs cells slots Q (F0 m pc ls (.ref v :: .int i :: .ref q :: rest)) := by
  obtain ⟨hx, hb, hown, gw, hK, -, -⟩ := id C
  have hlt : i.toNatClampNeg < N := Nat.not_le.mp fun q => hin (Or.inr q)
  have h0 : ¬ i < 0 := fun q => hin (Or.inl q)
  obtain ⟨r', hr', cellV, g1, g2, g3, -⟩ := S.2.1 qk _ hv
  have hcls := (hK.1 ci r hc).2
  obtain ⟨kA, comp, k1, k2, k3, -⟩ := (hK.2 t0 _ (mz_ty_at ht)).2
  have hcomp : comp = D.1 ci := Option.some.inj (k3.symm.trans hcls.1)
  subst hcomp
  obtain ⟨kC, hkC, -⟩ := hcls.2
  refine W.aast hx hb (S.2.1 q0 _ he) (fun q h => by cases h) (fun h => by cases h) k1 k2 rfl hkC ⟨h0, by show _ < (arrV _ _ _).slots.size; rw [arrV_size]; exact hlt⟩ g1 (fun q h => by rw [g3] at h; cases h) (by rw [g2]; exact hkC) (by rw [g2]; exact va_assign hcls) rfl rfl hdg fun H1 e z oq => ?_
  refine kk H1 _ (S.wrote he z oq ?_)
  show H1[q]? = some (vp_cell _ _)
  rw [e, vp_cell_q, vp_cell_q, arrV_store]
  congr 2
  funext j
  by_cases hq : j = i.toNatClampNeg
  · subst hq
    simp [updV, va_up, va_rf]
  · simp [updV, va_up, hq]
end MB
