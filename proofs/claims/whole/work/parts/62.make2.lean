/-! Places and their cells; a constructor's contract. -/
def mb_c (LAY : List Nat) (cA : Nat → ClassId) (B : Nat) (μ : mz_M) (p : Nat) : Nat × va_E := (B + p, mz_cell cA (fun p => B + p) μ p (mz_sh es_SH (LAY.getD p 0)))
def mb_b (LAY : List Nat) (cA : Nat → ClassId) (B : Nat) (μ : mz_M) : Nat → Nat → va_W
  | _, 0 => []
  | lo, n + 1 => mb_c LAY cA B μ lo :: mb_b LAY cA B μ (lo + 1) n
section MBB
variable {LAY : List Nat} {cA : Nat → ClassId} {B : Nat} {μ : mz_M}
theorem mb_b_at : ∀ {n lo i : Nat}, i < n → (mb_b LAY cA B μ lo n)[i]? = some (mb_c LAY cA B μ (lo + i))
  | 0, _, _, h => absurd h (Nat.not_lt_zero _)
  | n + 1, lo, 0, _ => rfl
  | n + 1, lo, i + 1, h => by
    show (mb_b LAY cA B μ (lo + 1) n)[i]? = _
    rw [mb_b_at (Nat.lt_of_succ_lt_succ h), show lo + 1 + i = lo + (i + 1) by omega]
theorem mb_b_len : ∀ {n lo : Nat}, (mb_b LAY cA B μ lo n).length = n
  | 0, _ => rfl
  | n + 1, lo => by show (mb_b LAY cA B μ (lo + 1) n).length + 1 = n + 1; rw [mb_b_len]
theorem mb_b_app {k : Nat} : ∀ {n lo : Nat}, mb_b LAY cA B μ lo (n + k) = mb_b LAY cA B μ lo n ++ mb_b LAY cA B μ (lo + n) k
  | 0, lo => by rw [Nat.zero_add]; rfl
  | n + 1, lo => by
    rw [show n + 1 + k = (n + k) + 1 by omega]
    show mb_c LAY cA B μ lo :: mb_b LAY cA B μ (lo + 1) (n + k) = mb_c LAY cA B μ lo :: (mb_b LAY cA B μ (lo + 1) n ++ mb_b LAY cA B μ (lo + (n + 1)) k)
    rw [mb_b_app, show lo + 1 + n = lo + (n + 1) by omega]
theorem mb_b_w : mb_b LAY cA B μ 0 LAY.length = mz_w es_SH LAY cA (fun p => B + p) μ := by
  apply List.ext_getElem?
  intro i
  by_cases h : i < LAY.length
  · rw [mb_b_at h, Nat.zero_add]
    unfold mz_w
    rw [List.getElem?_map, List.getElem?_range h]
    rfl
  · rw [List.getElem?_eq_none (by rw [mb_b_len]; omega), List.getElem?_eq_none (by rw [mz_w_len]; omega)]
theorem mb_b_mem {q : Nat × va_E} {n lo : Nat} (h : q ∈ mb_b LAY cA B μ lo n) : ∃ i, i < n ∧ q = mb_c LAY cA B μ (lo + i) := by
  obtain ⟨i, hi⟩ := List.getElem?_of_mem h
  have hl : i < n := by
    have := (List.getElem?_eq_some_iff.mp hi).1
    rw [mb_b_len] at this
    exact this
  rw [mb_b_at hl] at hi
  exact ⟨i, hl, (Option.some.inj hi).symm⟩
theorem mb_b_D {n lo : Nat} : va_D (fun q => B + lo ≤ q) (mb_b LAY cA B μ lo n) := by
  have key : ∀ (i : Nat) (q : Nat × va_E), (mb_b LAY cA B μ lo n)[i]? = some q → q.1 = B + (lo + i) := by
    intro i q hi
    have hl := (List.getElem?_eq_some_iff.mp hi).1
    rw [mb_b_len] at hl
    rw [mb_b_at hl] at hi
    cases hi
    rfl
  refine ⟨fun i j x y hi hj hxy => ?_, fun k q hk => ?_⟩
  · have h1 := key i x hi
    have h2 := key j y hj
    omega
  · have h1 := key k q hk
    show B + lo ≤ q.1
    omega
theorem mb_mem {D : va_G} {ws : va_W} {H : Heap} (h : va_P D vwCl ws H) {q : Nat × va_E} (hq : q ∈ ws) : va_at D vwCl q H := by
  obtain ⟨i, hi⟩ := List.getElem?_of_mem hq
  exact h i q hi
theorem mb_P_of {D : va_G} {ws : va_W} {H : Heap} (h : ∀ q ∈ ws, va_at D vwCl q H) : va_P D vwCl ws H := fun k q hk => h q (List.mem_of_getElem? hk)
/-- an array of references, by what it holds -/
theorem mb_arr {D : va_G} {H : Heap} {q n : Nat} {t : ClassId} {f g : Nat → Option Nat} (h : va_at D vwCl (q, .inl (t, n, .inr (.inr (.inr (.inr f))))) H) (hfg : ∀ i, i < n → f i = g i) : va_at D vwCl (q, .inl (t, n, .inr (.inr (.inr (.inr g))))) H := by
  have h : H[q]? = some (vp_cell t (n, .inr (.inr (.inr (.inr f))))) := h
  show H[q]? = some (vp_cell t (n, .inr (.inr (.inr (.inr g)))))
  rw [h, vp_cell_q, vp_cell_q]
  congr 1
  unfold arrV
  congr 1
  apply Array.ext
  · simp
  · intro i h1 h2
    simp at h1
    simp [hfg i h1]
end MBB
def mb_me (y : MethodName) (cc : ByteArray) (maxL : Nat) : mz_Me := (y, cc, maxL, none, 0, false, [], [])
def mb_Pre (D : va_G) (cA : Nat → ClassId) (av : List Value) (h ci : Nat) (fs : List Value) : Array Value → State → Prop := va_Pc av (fun U => U.heap.size = h + 1 ∧ va_P D vwCl [(h, .inr (ci, fs))] U.heap ∧ va_K D vwCl (mz_ty es_ats cA) U ∧ mz_NW lw_tbl U ∧ mb_AO U)
def mb_Post (D : va_G) (h n : Nat) (ws : va_W) : Array Value → State → Outcome → State → Prop := fun _ st oc t => oc = .returned none ∧ t.heap.size = h + n ∧ va_P D vwCl ws t.heap ∧ va_D (fun q => h ≤ q) ws ∧ va_F (fun q => h ≤ q) st t
theorem mb_AO.moved {u U : State} (hvm : u.vm.Alike U.vm) (h : mb_AO u) : mb_AO U := ⟨h.1.moved hvm, h.2.1.moved hvm, h.2.2.moved hvm⟩
theorem mb_good {Ts : List Cond} {me : mz_Me} (hT : Ts = lw_tbl.filter goodWord) (h : Jvm.Cond.code me.1 me.2.1 me.2.2.1 me.2.2.2.1 ∈ lw_tbl) : GoodIn Ts (mz_ws lw_tbl me) := by
  subst hT
  intro w hw
  rcases List.mem_cons.mp hw with rfl | hw
  · exact ⟨List.mem_filter.mpr ⟨h, rfl⟩, Or.inl rfl⟩
  · exact ⟨hw, good_of_word (List.mem_filter.mp hw).2⟩
section MBC
variable {p : Program} {l : Launch} {e : Env} {R : Room} {s : State} {m : MethodId} {args : Array Value} {below : List Frame} {meth : Method} {c : Code} {H : Heap} {locs : List Loc} {cells slots : Nat} {Q : State → Prop}
variable {D : va_G} {cA : Nat → ClassId} {cc : ByteArray} {own : String} {a n pc : Nat} {ws : va_W} {ls : Array Slot} {rest : List Value}
theorem mb_ofW {y : MethodName} {maxL : Nat} {rm : Room} {av : List Value} {h ci mc ms : Nat} {fs : List Value} {w1 : va_W} (hy : plainFor y = true) (hyn : y.name = "<init>")
    (body : ∀ (p : Program) (e : Env) (s : State) (m : MethodId) (below : List Frame) (meth : Method) (c : Code), mb_C p s m av.toArray c D cA cc y.cls → meth.name = "<init>" → c.maxLocals = maxL → meth.sig.returnType = none → meth.locks = false → h ≤ s.heap.size → mb_S D s h 1 [(h, .inr (ci, fs))] s.heap [] → W p l e rm s m av.toArray below meth c s.heap [] 0 0 (MQ below (mb_Post D h n w1) av.toArray s mc ms (fun q => h ≤ q)) (entryFrame m av.toArray maxL)) :
    Met l y (mz_ws lw_tbl (mb_me y cc maxL)) rm (mb_Pre D cA av h ci fs) (mb_Post D h n w1) mc ms (fun q => h ≤ q) := by
  refine mz_ofW (cc := cc) (maxL := maxL) (ret := none) hy rfl ?_
  intro p e s m args below meth c s₁ B hml hv
  obtain ⟨rfl, hsz, hP, hK, hN, hO⟩ := hv
  have hts := atoms_spec (ws := mz_ws lw_tbl (mb_me y cc maxL)) B.pre
  have hin : meth.name = "<init>" := (name_of_methodNamed B.named B.method).1.trans hyn
  refine body p e s m below meth c ⟨B.exec, B.bytes, findClass_of_methodNamed B.named, fun w hw hg => hts w (List.mem_cons_of_mem _ (List.mem_filter.mpr ⟨hw, hg⟩)), hK, hN, hO⟩ hin hml B.returns B.notSynchronized (by omega) ⟨hsz, hP, ⟨fun i j x y hi hj _ => ?_, fun k q hk => ?_⟩, va_S.rf⟩
  · have h1 : i < 1 := (List.getElem?_eq_some_iff.mp hi).1
    have h2 : j < 1 := (List.getElem?_eq_some_iff.mp hj).1
    omega
  · have h1 : k < 1 := (List.getElem?_eq_some_iff.mp hk).1
    rw [show k = 0 by omega] at hk
    cases hk
    exact Nat.le_refl h
theorem mb_end {w1 : va_W} {mc ms : Nat} (C : mb_C p s m args c D cA cc own) (hr : meth.sig.returnType = none) (hlocks : meth.locks = false) (S : mb_S D s a n ws H locs) (hP : va_P D vwCl w1 H) (hD : va_D (fun q => a ≤ q) w1) (hc : cells ≤ mc) (hs : slots ≤ ms) (hdg : decode cc pc = .ok (.return_, 1)) : W p l e R s m args below meth c H locs cells slots (MQ below (mb_Post D a n w1) args s mc ms (fun q => a ≤ q)) (F0 m pc ls []) :=
  W.widen (k := mc) (n := ms) hc hs (W.vret C.1 C.2.1 hr (fun t ht hW => ⟨rfl, by rw [ht]; exact S.1, by rw [ht]; exact hP, hD, S.2.2.2.F ht⟩) S.2.2.2.2.2 hdg hlocks)
/-- behind a constructor's call -/
theorem mb_called {k mc ms : Nat} {w1 : va_W} {x : va_E} {st0 : List Value} {a' : Array Value} (hr : va_Run p l e R s m args below meth c H locs cells slots mc ms (F0 m pc ls st0) rest (mb_Post D (a + n) k w1 a') (fun q => a + n ≤ q)) (S : mb_S D s a (n + 1) (ws ++ [(a + n, x)]) H locs)
    (kk : ∀ (H1 : Heap) (locs1 : List Loc), mb_S D s a (n + k) (ws ++ w1) H1 locs1 → W p l e R s m args below meth c H1 locs1 (cells + mc) (slots + ms) Q (F0 m (pc + 3) ls rest)) : W p l e R s m args below meth c H locs cells slots Q (F0 m pc ls st0) := by
  intro T hT X
  obtain ⟨v, st₀, t, T', L, h0, X', hL, e1, e2, ⟨hv, hz, hP1, hD1, hz2, hk⟩, st⟩ := hr T hT X
  cases hv
  rw [h0] at hz2 hk
  obtain ⟨hsz, hP, hD, hS⟩ := S
  have hw : ∀ (i : Nat) (q : Nat × va_E), ws[i]? = some q → q.1 < a + n ∧ (ws ++ [(a + n, x)])[i]? = some q := by
    intro i q hi
    have hl := (List.getElem?_eq_some_iff.mp hi).1
    have h1 : (ws ++ [(a + n, x)])[i]? = some q := by rw [List.getElem?_append_left hl]; exact hi
    have h2 : (ws ++ [(a + n, x)])[ws.length]? = some (a + n, x) := by rw [List.getElem?_append_right (Nat.le_refl _), Nat.sub_self]; rfl
    have h3 := (hP i q h1).lt
    refine ⟨?_, h1⟩
    by_cases h4 : q.1 = a + n
    · have := hD.1 i ws.length q _ h1 h2 h4
      omega
    · omega
  have hk1 : ∀ q : Nat, q < a + n → T'.heap[q]? = H[q]? := fun q hq => by rw [e1]; exact hk q (by omega) (by show ¬ a + n ≤ q; omega)
  have hDw : va_D (fun q => a ≤ q) ws := ⟨fun i j x y hi hj hxy => hD.1 i j x y (hw i x hi).2 (hw j y hj).2 hxy, fun i q hi => hD.2 i q (hw i q hi).2⟩
  have hs1 := hS.1
  obtain ⟨t2, a1, b1⟩ := kk T'.heap (locs ++ L) ⟨by rw [e1, hz]; omega, va_P.app (fun i q hi => (hP i q (hw i q hi).2).kept (hk1 q.1 (hw i q hi).1)) (by rw [e1]; exact hP1), va_D.app hDw (hD1.weaken (fun _ q _ h => by show a ≤ q.1; have : a + n ≤ q.1 := h; omega)) (fun i j x y hx hy hxy => by
      have h1 := (hw i x hx).1
      have h2 : a + n ≤ y.1 := hD1.2 j y hy
      omega), by rw [e1, hz]; omega, fun q h1 h2 => by
      have h2 : ¬ a ≤ q := h2
      rw [hk1 q (by omega)]
      exact hS.2.1 q h1 h2, fun q hq => by
      rcases List.mem_append.mp hq with h | h
      · exact hS.2.2 q h
      · have : a + n ≤ q.base := hL q h
        show a ≤ q.base
        omega⟩ T' rfl X'
  exact ⟨t2, st t2 a1, b1⟩
theorem mb_blind {av : List Value} {h ci : Nat} {fs : List Value} : FrameBlind (mb_Pre D cA av h ci fs) := by
  intro a U g mk q
  obtain ⟨h1, h2, h3, h4, h5, h6⟩ := q
  exact ⟨h1, h2, h3, va_K.moved (u := U) (U := U.calling g mk a) (Vm.Alike.refl U.vm) h4, mz_NW.same (s := U) (U := U.calling g mk a) rfl h5, mb_AO.moved (u := U) (U := U.calling g mk a) (Vm.Alike.refl U.vm) h6⟩
theorem mb_pre (C : mb_C p s m args c D cA cc own) {x : Nat} {fs : List Value} (S : mb_S D s a (n + 1) (ws ++ [(a + n, .inr (x, fs))]) H locs) (As : List Value) : ∀ U : State, U.heap = H → s.WarmedH U.vm → mb_Pre D cA (.ref (a + n) :: As) (a + n) x fs (Value.ref (a + n) :: As).toArray U := by
  intro U hU hW
  obtain ⟨hx, hb, hown, gw, hK, hN, hO⟩ := C
  refine ⟨rfl, by rw [hU]; exact S.1, ?_, va_K.moved hW.alike hK, mz_NW.warm hW hN, hO.moved hW.alike⟩
  rw [hU]
  refine mb_P_of (fun q hq => mb_mem S.2.1 ?_)
  exact List.mem_append_right _ hq
/-- a private constructor of a nest mate is called -/
theorem mb_initN {y : MethodName} {bytes : ByteArray} {maxL nL index ci mc ms np k : Nat} {rm : Room} {fs : List Value} {As : List Value} {w1 : va_W} {host : String} (C : mb_C p s m args c D cA cc own) (hml : c.maxLocals = nL) (hls : ls.size = nL) (S : mb_S D s a (n + 1) (ws ++ [(a + n, .inr (ci, fs))]) H locs)
    (hM : Met l y (mz_ws lw_tbl (mb_me y bytes maxL)) rm (mb_Pre D cA (.ref (a + n) :: As) (a + n) ci fs) (mb_Post D (a + n) k w1) mc ms (fun q => a + n ≤ q))
    (hcode : Jvm.Cond.code y bytes maxL none ∈ lw_tbl) (hrc : rm.cells = mc) (hrs : rm.slots = ms) (hlink : Cond.methodLinkNest own index y host ∈ lw_tbl) (hini : Cond.initialized y.cls ∈ lw_tbl) (hinst : Cond.instanceMethod y ∈ lw_tbl) (hyn : y.name = "<init>")
    (hd : y.cls ≠ "java/lang/invoke/MethodHandle" ∧ y.cls ≠ "java/lang/invoke/VarHandle" ∧ (parseMethodDescriptor y.desc).map (fun d => d.parameters.length) = some np) (hR : rm.frames + 1 ≤ R.frames ∧ 8 + (maxL + 11) + rm.locals ≤ R.locals) (hn : As.length = np) (hW : (rest.map fun v => v.category).sum ≤ 8) (hdg : decode cc pc = .ok (.invokespecial index, 3)) (hf : cells + mc ≤ R.cells ∧ slots + ms ≤ R.slots)
    (kk : ∀ (H1 : Heap) (locs1 : List Loc), mb_S D s a (n + k) (ws ++ w1) H1 locs1 → W p l e R s m args below meth c H1 locs1 (cells + mc) (slots + ms) Q (F0 m (pc + 3) ls rest)) : W p l e R s m args below meth c H locs cells slots Q (F0 m pc ls (As.reverse ++ .ref (a + n) :: rest)) := by
  obtain ⟨hx, hb, hown, gw, hK, hN, hO⟩ := id C
  exact mb_called (va_runIN (As := As) (rest := rest) ⟨hx, hb, hml, hown, C.gf⟩ hM ⟨va_cnB np C.gf (mb_good rfl hcode) rfl hrc hrs (hN _ hlink rfl) (gw _ hini rfl) hd hR, hyn, gw _ hinst rfl⟩ ⟨mb_blind, mb_pre C S As⟩ rfl hn hls rfl (lv_room hW) hdg hf) S kk
/-- a public one -/
theorem mb_initP {y : MethodName} {bytes : ByteArray} {maxL nL index ci mc ms np k : Nat} {rm : Room} {fs : List Value} {As : List Value} {w1 : va_W} (C : mb_C p s m args c D cA cc own) (hml : c.maxLocals = nL) (hls : ls.size = nL) (S : mb_S D s a (n + 1) (ws ++ [(a + n, .inr (ci, fs))]) H locs)
    (hM : Met l y (mz_ws lw_tbl (mb_me y bytes maxL)) rm (mb_Pre D cA (.ref (a + n) :: As) (a + n) ci fs) (mb_Post D (a + n) k w1) mc ms (fun q => a + n ≤ q))
    (hcode : Jvm.Cond.code y bytes maxL none ∈ lw_tbl) (hrc : rm.cells = mc) (hrs : rm.slots = ms) (hlink : Cond.methodLink own index y ∈ lw_tbl) (hini : Cond.initialized y.cls ∈ lw_tbl) (hinst : Cond.instanceMethod y ∈ lw_tbl) (hyn : y.name = "<init>")
    (hd : y.cls ≠ "java/lang/invoke/MethodHandle" ∧ y.cls ≠ "java/lang/invoke/VarHandle" ∧ (parseMethodDescriptor y.desc).map (fun d => d.parameters.length) = some np) (hR : rm.frames + 1 ≤ R.frames ∧ 8 + (maxL + 11) + rm.locals ≤ R.locals) (hn : As.length = np) (hW : (rest.map fun v => v.category).sum ≤ 8) (hdg : decode cc pc = .ok (.invokespecial index, 3)) (hf : cells + mc ≤ R.cells ∧ slots + ms ≤ R.slots)
    (kk : ∀ (H1 : Heap) (locs1 : List Loc), mb_S D s a (n + k) (ws ++ w1) H1 locs1 → W p l e R s m args below meth c H1 locs1 (cells + mc) (slots + ms) Q (F0 m (pc + 3) ls rest)) : W p l e R s m args below meth c H locs cells slots Q (F0 m pc ls (As.reverse ++ .ref (a + n) :: rest)) := by
  obtain ⟨hx, hb, hown, gw, hK, hN, hO⟩ := id C
  exact mb_called (va_runI (As := As) (rest := rest) ⟨hx, hb, hml, hown, C.gf⟩ hM (cwI np C.gf (mb_good rfl hcode) rfl hrc hrs (gw _ hini rfl) (gw _ hlink rfl) (gw _ hinst rfl) hyn hd hR) ⟨mb_blind, mb_pre C S As⟩ rfl hn hls rfl (lv_room hW) hdg hf) S kk
end MBC
