/-! THE CLAIM OUT OF ONE WALK OF THE LAW'S BODY. Your part is whole_start (and what it stands on); all else here is the same for every law, but numbers. -/
def R_law : String := "EtaSeriesLaw"
def lw_P (b : Addr) (xs : List Int32) (args : Array Value) (s : State) : Prop := args = #[.ref b] ∧ s.IntsAt b xs ∧ xs.length ≤ 3584 ∧ (Jvm.Cond.and given_1 narrow_1).before args s = true
def lw_Q (_ : Array Value) (s : State) (o : Outcome) (t : State) : Prop := o = .returned (some (.int 1)) ∧ Framed s o t [] 600000 7302250
def lw_Z (below : List Frame) (a : Array Value) (s : State) : State → Prop := fun t => ∃ o, t.status = .running ∧ Ended t below o ∧ lw_Q a s o t
/-- the law's own end, with 1 on the stack, nothing written that was there before, its room as the claim has it -/
theorem lw_ret {p : Program} {l : Launch} {e : Env} {s : State} {m : MethodId} {below : List Frame} {meth : Method} {c : Code} {b : Nat} (hx : p.tables.exec = Jvm.exec) (hb : c.code = code) (hr : meth.sig.returnType = ret) (hlocks : meth.locks = false) {pc : Nat} {H : Heap} {ls : Array Slot} (hdg : decode code pc = .ok (.ireturn, 1)) : W p l e room_1 s m #[Value.ref b] below meth c H [] 600000 7302250 (lw_Z below #[Value.ref b] s) (F0 m pc ls [.int 1]) := by
  intro T hT X
  obtain ⟨fs, hret, hrun, hended, hW, hframe⟩ := X.leave (v := some (.int 1)) (hlocks := hlocks) (fun h => by rw [hr] at h; cases h)
  have hmeth' : T.vm.method? m = some meth := X.method'
  refine ⟨T.setFrames fs, ?_, .returned (some (.int 1)), hrun, hended, rfl, ⟨_, rfl⟩, hW, hframe⟩
  jvm_step X.here [X.here.top, hx, hb, hdg, hmeth', hr, ret, narrow_b1]
  (try refine ⟨rfl, ?_⟩); (try refine ⟨rfl, ?_⟩)
  first | (intro acts; rw [hret _ acts rfl rfl rfl]) | rw [hret _ _ rfl rfl rfl]
  exact Steps.refl _
/-- what holds at the law's entry: the machine, the code, the tables' words (any of lw_tbl by 'hts w (by decide +kernel)'), the script of L ints xs at the cell b, what the Statement gives of the start (any of its parts by flat_of_before) -/
def lw_At (p : Program) (s : State) (m : MethodId) (meth : Method) (c : Code) (b L : Nat) (xs : Nat → Int32) : Prop :=
  p.tables.exec = Jvm.exec ∧ c.code = code ∧ meth.sig.returnType = ret ∧ c.maxLocals = 4 ∧ s.vm.findClass R_law = some m.cls ∧ (∀ w ∈ lw_tbl, w.before #[Value.ref b] s = true) ∧ va_X b L xs s s.heap ∧ b < s.heap.size ∧ meth.locks = false ∧ (Jvm.Cond.and given_1 narrow_1).before #[Value.ref b] s = true
/-! The law: two worlds side by side, one state. -/
def lw_St (D : va_G) (cA : Nat → ClassId) (s : State) (H : Heap) (locs : List Loc) (A : es_A) : Prop := ∃ μ1 μ2, es_C μ1 A ∧ es_M μ2 A ∧ va_P D vwCl (mz_w es_SH es_LC cA (fun p => s.heap.size + p) μ1) H ∧ va_P D vwCl (mz_w es_SH es_LM cA (fun p => s.heap.size + 212 + p) μ2) H ∧ va_S (fun q => s.heap.size ≤ q) s.heap H locs
section LW
variable {p : Program} {l : Launch} {e : Env} {R : Room} {s : State} {m : MethodId} {args : Array Value} {below : List Frame} {meth : Method} {c : Code} {H : Heap} {locs : List Loc} {cells slots : Nat} {Q : State → Prop}
variable {D : va_G} {cA : Nat → ClassId} {pc : Nat} {ls : Array Slot} {rest : List Value}
theorem lw_ix {i k L : Nat} (hi : i + 7 ≤ L) (hL : L ≤ 3584) (hk : k < 7) : nI i + nI k = nI (i + k) ∧ vp_in (nI (i + k)) L ∧ (nI (i + k)).toNatClampNeg = i + k := ⟨nI_add i k, vp_in_nI (by omega) (by omega), es_clamp (by omega)⟩
theorem lw_ld {b L i k : Nat} {n : Int} {xs : Nat → Int32} (hx : p.tables.exec = Jvm.exec) (hb : c.code = code) (hX : va_X b L xs s s.heap) (hbl : b < s.heap.size) (hS : va_S (fun q => s.heap.size ≤ q) s.heap H locs) (h0 : ls[0]? = some (.val (.ref b))) (h3 : ls[3]? = some (.val (.int (nI i)))) (hi : i + 7 ≤ L) (hL : L ≤ 3584) (hk : k < 7) (_ : 0 < k) (d1 : decode code pc = .ok (.aload_n 0, 1)) (d2 : decode code (pc + 1) = .ok (.iload_n 3, 1)) (d3 : decode code (pc + 1 + 1) = .ok (.iconst n, 1)) (hn : Int32.ofInt n = nI k) (d4 : decode code (pc + 1 + 1 + 1) = .ok (.iadd, 1)) (d5 : decode code (pc + 1 + 1 + 1 + 1) = .ok (.iaload, 1))
    (kk : W p l e R s m args below meth c H locs cells slots Q (F0 m (pc + 5) ls (.int (xs (i + k)) :: rest))) : W p l e R s m args below meth c H locs cells slots Q (F0 m pc ls rest) := by
  obtain ⟨e1, e2, e3⟩ := lw_ix hi hL hk
  refine lv_aload_n hx hb d1 rfl h0 ?_
  refine lv_iload_n hx hb d2 rfl h3 ?_
  refine lv_iconst hx hb d3 hn ?_
  refine lv_iadd hx hb d4 ?_
  rw [e1]
  refine va_sld hx hb hX hbl (A := fun q => s.heap.size ≤ q) (by show ¬ s.heap.size ≤ b; omega) hS e2 d5 ?_
  rw [e3]
  exact kk
theorem lw_ldb {b L i k : Nat} {n : Int} {xs : Nat → Int32} (hx : p.tables.exec = Jvm.exec) (hb : c.code = code) (hX : va_X b L xs s s.heap) (hbl : b < s.heap.size) (hS : va_S (fun q => s.heap.size ≤ q) s.heap H locs) (h0 : ls[0]? = some (.val (.ref b))) (h3 : ls[3]? = some (.val (.int (nI i)))) (hi : i + 7 ≤ L) (hL : L ≤ 3584) (hk : k < 7) (_ : 0 < k) (d1 : decode code pc = .ok (.aload_n 0, 1)) (d2 : decode code (pc + 1) = .ok (.iload_n 3, 1)) (d3 : decode code (pc + 1 + 1) = .ok (.bipush n, 2)) (hn : (Int8.ofInt n).toInt32 = nI k) (d4 : decode code (pc + 1 + 1 + 2) = .ok (.iadd, 1)) (d5 : decode code (pc + 1 + 1 + 2 + 1) = .ok (.iaload, 1))
    (kk : W p l e R s m args below meth c H locs cells slots Q (F0 m (pc + 6) ls (.int (xs (i + k)) :: rest))) : W p l e R s m args below meth c H locs cells slots Q (F0 m pc ls rest) := by
  obtain ⟨e1, e2, e3⟩ := lw_ix hi hL hk
  refine lv_aload_n hx hb d1 rfl h0 ?_
  refine lv_iload_n hx hb d2 rfl h3 ?_
  refine lv_bipush hx hb d3 hn ?_
  refine lv_iadd hx hb d4 ?_
  rw [e1]
  refine va_sld hx hb hX hbl (A := fun q => s.heap.size ≤ q) (by show ¬ s.heap.size ≤ b; omega) hS e2 d5 ?_
  rw [e3]
  exact kk
def lw_nr (v : mz_V) : Bool := match v with
  | .inr (.inr _) => false
  | _ => true
theorem lw_nr_vd {LAY : List Nat} {as : List mz_V} (h : as.all lw_nr = true) : ∀ v ∈ as, mz_vd LAY v := by
  intro v hv
  have := List.all_eq_true.mp h v hv
  match v, this with
  | .inl _, _ => trivial
  | .inr (.inl _), _ => trivial
/-- a call of one of the two -/
theorem lw_call {LAY : List Nat} {B nL index d y t ci : Nat} {fs : List mz_F} {q : vw_C} {me : mz_Me} {as : List mz_V} {μ μ' : mz_M} {r : Int32} {cc : ByteArray} {own : String} {A0 : Nat → Prop} (C : mb_C p s m args c D cA cc own) (hck : mb_ckl LAY = true) (hml : c.maxLocals = nL) (hls : ls.size = nL) (hP : va_P D vwCl (mz_w es_SH LAY cA (fun p => B + p) μ) H) (hS : va_S A0 s.heap H locs) (hA : ∀ z, mz_A LAY (fun p => B + p) z → A0 z)
    (h : es_R d y (mz_R t 0 :: as) μ (some (mz_I r)) μ') (hy : mz_nth es_MS y = some me) (hst : me.2.2.2.2.2.1 = false) (hlay : LAY[0]? = some t) (hsh : mz_nth es_SH t = some (.inl (ci, fs))) (hcq : vwCl[ci]? = some q) (hqn : q.1 = me.1.cls) (hnr : as.all lw_nr = true) (hlen : as.length = me.2.2.2.2.1) (hcs : mz_cs (mz_R t 0 :: as) ≤ me.2.2.1) (hlink : Cond.methodLink own index me.1 ∈ lw_tbl) (hfr : d + 1 ≤ R.frames ∧ 8 + (me.2.2.1 + 11) + (60 * d + 100) ≤ R.locals) (hcl : cells ≤ R.cells ∧ slots ≤ R.slots) (hW : (rest.map fun v => v.category).sum ≤ 8) (hdg : decode cc pc = .ok (.invokevirtual index, 3))
    (kk : ∀ (H1 : Heap) (locs1 : List Loc), va_P D vwCl (mz_w es_SH LAY cA (fun p => B + p) μ') H1 → (∀ z : Nat, z < H.size → ¬ mz_A LAY (fun p => B + p) z → H1[z]? = H[z]?) → va_S A0 s.heap H1 locs1 → W p l e R s m args below meth c H1 locs1 cells slots Q (F0 m (pc + 3) ls (.int r :: rest))) : W p l e R s m args below meth c H locs cells slots Q (F0 m pc ls ((as.map (mz_cv (fun p => B + p))).reverse ++ .ref (B + 0) :: rest)) := by
  obtain ⟨hx, hb, hown, gw, hK, hN, hO⟩ := id C
  have hWd := mb_Wd hck B
  obtain ⟨o1, o2, o3, o4, o5, o6, o7, o8, -⟩ := mz_okM_i (mb_hM y me hy)
  obtain ⟨s1, s2⟩ := o4 hst
  have hva : ∀ v ∈ mz_R t 0 :: as, mz_vd LAY v := by
    intro v hv
    rcases List.mem_cons.mp hv with rfl | hv
    · exact hlay
    · exact lw_nr_vd hnr v hv
  have hMet := mz_sound (l := l) (cA := cA) (D := D) es_TB mb_hT hWd mb_hM d y _ μ _ μ' me h hy hva hcs
  have hrec := va_recv hK hP hcq (mz_w_get (cA := cA) (ad := fun p => B + p) (μ := μ) hlay hsh)
  rw [hqn] at hrec
  have hrun := va_runV (p := p) (l := l) (e := e) (R := R) (below := below) (meth := meth) (H := H) (locs := locs) (cells := cells) (slots := slots) (g := F0 m pc ls ((as.map (mz_cv (fun p => B + p))).reverse ++ .ref (B + 0) :: rest)) (b := B + 0) (As := as.map (mz_cv (fun p => B + p))) (rest := rest) ⟨hx, hb, hml, hown, C.gf⟩ hMet ⟨callB_of me.2.2.2.2.1 C.gf (mb_good rfl o1) rfl rfl rfl (gw _ o2 rfl) (gw _ hlink rfl) ⟨o6.1, o6.2, o7⟩ hfr, gw _ s1 rfl, gw _ s2 rfl⟩ ⟨mz_blind, hrec, mz_pre (a := mz_R t 0 :: as) hP hK hN⟩ rfl (by rw [List.length_map]; exact hlen) hls rfl (lv_room hW) hdg ⟨hcl.1, hcl.2⟩
  intro T hT X
  obtain ⟨v, st₀, t1, T', Lc, h0, X', hL, e1, e2, ⟨hv, hvd, hp, hz, hk⟩, st⟩ := hrun T hT X
  cases hv
  rw [h0] at hz hk
  obtain ⟨t2, a1, b1⟩ := kk T'.heap (locs ++ Lc) (by rw [e1]; exact hp) (fun z h1 h2 => by rw [e1]; exact hk z h1 h2)
    ⟨Nat.le_trans hS.1 (by rw [e1]; exact hz), fun q h1 h2 => by rw [e1, hk q (Nat.lt_of_lt_of_le h1 hS.1) (fun z => h2 (hA q z))]; exact hS.2.1 q h1 h2, fun q hq => by
      rcases List.mem_append.mp hq with h | h
      · exact hS.2.2 q h
      · exact hA _ (hL q h)⟩ T' rfl X'
  exact ⟨t2, st t2 a1, b1⟩
theorem lw_other {LAY : List Nat} {B n : Nat} {μ : mz_M} {H1 : Heap} {Z : Nat → Prop} (hP : va_P D vwCl (mz_w es_SH LAY cA (fun p => B + p) μ) H) (hn : LAY.length = n) (hk : ∀ z : Nat, z < H.size → ¬ Z z → H1[z]? = H[z]?) (hZ : ∀ p, p < n → ¬ Z (B + p)) : va_P D vwCl (mz_w es_SH LAY cA (fun p => B + p) μ) H1 := by
  refine hP.kept (fun k q hq => hk q.1 (hP k q hq).lt ?_)
  have hl := (List.getElem?_eq_some_iff.mp hq).1
  rw [mz_w_len] at hl
  unfold mz_w at hq
  rw [List.getElem?_map, List.getElem?_range hl] at hq
  cases hq
  exact hZ k (by omega)
theorem lw_call1 {b nL index d y : Nat} {me : mz_Me} {as : List mz_V} {μ μ' μ2 : mz_M} {r : Int32} (C : mb_C p s m #[Value.ref b] c D cA code R_law) (hml : c.maxLocals = nL) (hls : ls.size = nL) (hP : va_P D vwCl (mz_w es_SH es_LC cA (fun p => s.heap.size + p) μ) H) (hP2 : va_P D vwCl (mz_w es_SH es_LM cA (fun p => s.heap.size + 212 + p) μ2) H) (hS : va_S (fun q => s.heap.size ≤ q) s.heap H locs)
    (h : es_R d y (mz_R 0 0 :: as) μ (some (mz_I r)) μ') (hy : mz_nth es_MS y = some me) (hst : me.2.2.2.2.2.1 = false) (hqn : RX6 = me.1.cls) (hnr : as.all lw_nr = true) (hlen : as.length = me.2.2.2.2.1) (hcs : mz_cs (mz_R 0 0 :: as) ≤ me.2.2.1) (hlink : Cond.methodLink R_law index me.1 ∈ lw_tbl) (hfr : 60 * d + 100 + me.2.2.1 ≤ 80000) (hW : (rest.map fun v => v.category).sum ≤ 8) (hdg : decode code pc = .ok (.invokevirtual index, 3))
    (kk : ∀ (H1 : Heap) (locs1 : List Loc), va_P D vwCl (mz_w es_SH es_LC cA (fun p => s.heap.size + p) μ') H1 → va_P D vwCl (mz_w es_SH es_LM cA (fun p => s.heap.size + 212 + p) μ2) H1 → va_S (fun q => s.heap.size ≤ q) s.heap H1 locs1 → W p l e room_1 s m #[Value.ref b] below meth c H1 locs1 229 7239 Q (F0 m (pc + 3) ls (.int r :: rest))) : W p l e room_1 s m #[Value.ref b] below meth c H locs 229 7239 Q (F0 m pc ls ((as.map (mz_cv (fun p => s.heap.size + p))).reverse ++ .ref s.heap.size :: rest)) := by
  refine lw_call (R := room_1) (t := 0) (ci := 6) (q := (RX6, TX6, 9)) C mb_ckC hml hls hP hS (fun z hz => ?_) h hy hst rfl rfl rfl hqn hnr hlen hcs hlink ?_ ⟨Nat.le_of_ble_eq_true rfl, Nat.le_of_ble_eq_true rfl⟩ hW hdg (fun H1 locs1 a1 a2 a3 => kk H1 locs1 a1 (lw_other hP2 (n := 17) rfl a2 (fun p hp hz => ?_)) a3)
  · obtain ⟨p, -, rfl⟩ := hz
    show s.heap.size ≤ s.heap.size + p
    omega
  · show d + 1 ≤ 2048 ∧ 8 + (me.2.2.1 + 11) + (60 * d + 100) ≤ 84000
    omega
  · obtain ⟨p', hp', e⟩ := hz
    have hp' : p' < 212 := hp'
    have e : s.heap.size + 212 + p = s.heap.size + p' := e
    omega
theorem lw_call2 {b nL index d y : Nat} {me : mz_Me} {as : List mz_V} {μ μ' μ1 : mz_M} {r : Int32} (C : mb_C p s m #[Value.ref b] c D cA code R_law) (hml : c.maxLocals = nL) (hls : ls.size = nL) (hP1 : va_P D vwCl (mz_w es_SH es_LC cA (fun p => s.heap.size + p) μ1) H) (hP : va_P D vwCl (mz_w es_SH es_LM cA (fun p => s.heap.size + 212 + p) μ) H) (hS : va_S (fun q => s.heap.size ≤ q) s.heap H locs)
    (h : es_R d y (mz_R 16 0 :: as) μ (some (mz_I r)) μ') (hy : mz_nth es_MS y = some me) (hst : me.2.2.2.2.2.1 = false) (hqn : RX7 = me.1.cls) (hnr : as.all lw_nr = true) (hlen : as.length = me.2.2.2.2.1) (hcs : mz_cs (mz_R 16 0 :: as) ≤ me.2.2.1) (hlink : Cond.methodLink R_law index me.1 ∈ lw_tbl) (hfr : 60 * d + 100 + me.2.2.1 ≤ 80000) (hW : (rest.map fun v => v.category).sum ≤ 8) (hdg : decode code pc = .ok (.invokevirtual index, 3))
    (kk : ∀ (H1 : Heap) (locs1 : List Loc), va_P D vwCl (mz_w es_SH es_LC cA (fun p => s.heap.size + p) μ1) H1 → va_P D vwCl (mz_w es_SH es_LM cA (fun p => s.heap.size + 212 + p) μ') H1 → va_S (fun q => s.heap.size ≤ q) s.heap H1 locs1 → W p l e room_1 s m #[Value.ref b] below meth c H1 locs1 229 7239 Q (F0 m (pc + 3) ls (.int r :: rest))) : W p l e room_1 s m #[Value.ref b] below meth c H locs 229 7239 Q (F0 m pc ls ((as.map (mz_cv (fun p => s.heap.size + 212 + p))).reverse ++ .ref (s.heap.size + 212) :: rest)) := by
  refine lw_call (R := room_1) (t := 16) (ci := 7) (q := (RX7, TX7, 28)) C mb_ckM hml hls hP hS (fun z hz => ?_) h hy hst rfl rfl rfl hqn hnr hlen hcs hlink ?_ ⟨Nat.le_of_ble_eq_true rfl, Nat.le_of_ble_eq_true rfl⟩ hW hdg (fun H1 locs1 a1 a2 a3 => kk H1 locs1 (lw_other hP1 (n := 212) rfl a2 (fun p hp hz => ?_)) a1 a3)
  · obtain ⟨p, -, rfl⟩ := hz
    show s.heap.size ≤ s.heap.size + 212 + p
    omega
  · show d + 1 ≤ 2048 ∧ 8 + (me.2.2.1 + 11) + (60 * d + 100) ≤ 84000
    omega
  · obtain ⟨p', hp', e⟩ := hz
    have e : s.heap.size + p = s.heap.size + 212 + p' := e
    omega
end LW
