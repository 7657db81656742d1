/-! The law's loop, and its start. -/
theorem lw_switch {p : Program} {l : Launch} {e : Env} {s : State} {m : MethodId} {below : List Frame} {meth : Method} {c : Code} {H : Heap} {locs : List Loc} {Q : State → Prop} {D : va_G} {cA : Nat → ClassId} {ls : Array Slot} {b L i : Nat} {xs : Nat → Int32} {A : es_A} {x : Int32} (C : mb_C p s m #[Value.ref b] c D cA code R_law) (hml : c.maxLocals = 4) (hX : va_X b L xs s s.heap) (hbl : b < s.heap.size) (hL : L ≤ 3584) (hi : i + 7 ≤ L) (hl : lv_has ls 4 [(3, .int (nI i)), (2, .ref (s.heap.size + 212)), (1, .ref s.heap.size), (0, .ref b)]) (S : lw_St D cA s H locs A)
    (kk : ∀ (H : Heap) (locs : List Loc) (A : es_A), lw_St D cA s H locs A → W p l e room_1 s m #[Value.ref b] below meth c H locs 229 7239 Q (F0 m 1182 ls [])) : W p l e room_1 s m #[Value.ref b] below meth c H locs 229 7239 Q (F0 m 33 ls [.int x]) := by
  obtain ⟨hx, hb, -⟩ := id C
  rcases (show x.toInt = 0 ∨ x.toInt = 1 ∨ x.toInt = 2 ∨ x.toInt = 3 ∨ x.toInt = 4 ∨ x.toInt = 5 ∨ x.toInt = 6 ∨ x.toInt = 7 ∨ x.toInt = 8 ∨ x.toInt = 9 ∨ x.toInt = 10 ∨ x.toInt = 11 ∨ x.toInt = 12 ∨ x.toInt = 13 ∨ x.toInt = 14 ∨ x.toInt = 15 ∨ x.toInt = 16 ∨ x.toInt = 17 ∨ x.toInt = 18 ∨ x.toInt = 19 ∨ x.toInt = 20 ∨ x.toInt = 21 ∨ x.toInt = 22 ∨ x.toInt = 23 ∨ x.toInt = 24 ∨ x.toInt = 25 ∨ 26 ≤ x.toInt ∨ x.toInt < 0 by omega) with hk | hk | hk | hk | hk | hk | hk | hk | hk | hk | hk | hk | hk | hk | hk | hk | hk | hk | hk | hk | hk | hk | hk | hk | hk | hk | hk | hk
  · exact lv_tableIn (off := 119) (tgt := 152) hx hb dL_33 (by rw [hk]; decide) (by rw [hk]; decide) (by rw [hk]; rfl) (by decide) (lw_c0 C hml hX hbl hL hi hl S kk)
  · exact lv_tableIn (off := 162) (tgt := 195) hx hb dL_33 (by rw [hk]; decide) (by rw [hk]; decide) (by rw [hk]; rfl) (by decide) (lw_c1 C hml hX hbl hL hi hl S kk)
  · exact lv_tableIn (off := 215) (tgt := 248) hx hb dL_33 (by rw [hk]; decide) (by rw [hk]; decide) (by rw [hk]; rfl) (by decide) (lw_c2 C hml hX hbl hL hi hl S kk)
  · exact lv_tableIn (off := 258) (tgt := 291) hx hb dL_33 (by rw [hk]; decide) (by rw [hk]; decide) (by rw [hk]; rfl) (by decide) (lw_c3 C hml hX hbl hL hi hl S kk)
  · exact lv_tableIn (off := 281) (tgt := 314) hx hb dL_33 (by rw [hk]; decide) (by rw [hk]; decide) (by rw [hk]; rfl) (by decide) (lw_c4 C hml hX hbl hL hi hl S kk)
  · exact lv_tableIn (off := 304) (tgt := 337) hx hb dL_33 (by rw [hk]; decide) (by rw [hk]; decide) (by rw [hk]; rfl) (by decide) (lw_c5 C hml hX hbl hL hi hl S kk)
  · exact lv_tableIn (off := 327) (tgt := 360) hx hb dL_33 (by rw [hk]; decide) (by rw [hk]; decide) (by rw [hk]; rfl) (by decide) (lw_c6 C hml hX hbl hL hi hl S kk)
  · exact lv_tableIn (off := 350) (tgt := 383) hx hb dL_33 (by rw [hk]; decide) (by rw [hk]; decide) (by rw [hk]; rfl) (by decide) (lw_c7 C hml hX hbl hL hi hl S kk)
  · exact lv_tableIn (off := 373) (tgt := 406) hx hb dL_33 (by rw [hk]; decide) (by rw [hk]; decide) (by rw [hk]; rfl) (by decide) (lw_c8 C hml hX hbl hL hi hl S kk)
  · exact lv_tableIn (off := 386) (tgt := 419) hx hb dL_33 (by rw [hk]; decide) (by rw [hk]; decide) (by rw [hk]; rfl) (by decide) (lw_c9 C hml hX hbl hL hi hl S kk)
  · exact lv_tableIn (off := 409) (tgt := 442) hx hb dL_33 (by rw [hk]; decide) (by rw [hk]; decide) (by rw [hk]; rfl) (by decide) (lw_c10 C hml hX hbl hL hi hl S kk)
  · exact lv_tableIn (off := 442) (tgt := 475) hx hb dL_33 (by rw [hk]; decide) (by rw [hk]; decide) (by rw [hk]; rfl) (by decide) (lw_c11 C hml hX hbl hL hi hl S kk)
  · exact lv_tableIn (off := 465) (tgt := 498) hx hb dL_33 (by rw [hk]; decide) (by rw [hk]; decide) (by rw [hk]; rfl) (by decide) (lw_c12 C hml hX hbl hL hi hl S kk)
  · exact lv_tableIn (off := 498) (tgt := 531) hx hb dL_33 (by rw [hk]; decide) (by rw [hk]; decide) (by rw [hk]; rfl) (by decide) (lw_c13 C hml hX hbl hL hi hl S kk)
  · exact lv_tableIn (off := 561) (tgt := 594) hx hb dL_33 (by rw [hk]; decide) (by rw [hk]; decide) (by rw [hk]; rfl) (by decide) (lw_c14 C hml hX hbl hL hi hl S kk)
  · exact lv_tableIn (off := 604) (tgt := 637) hx hb dL_33 (by rw [hk]; decide) (by rw [hk]; decide) (by rw [hk]; rfl) (by decide) (lw_c15 C hml hX hbl hL hi hl S kk)
  · exact lv_tableIn (off := 657) (tgt := 690) hx hb dL_33 (by rw [hk]; decide) (by rw [hk]; decide) (by rw [hk]; rfl) (by decide) (lw_c16 C hml hX hbl hL hi hl S kk)
  · exact lv_tableIn (off := 670) (tgt := 703) hx hb dL_33 (by rw [hk]; decide) (by rw [hk]; decide) (by rw [hk]; rfl) (by decide) (lw_c17 C hml hX hbl hL hi hl S kk)
  · exact lv_tableIn (off := 683) (tgt := 716) hx hb dL_33 (by rw [hk]; decide) (by rw [hk]; decide) (by rw [hk]; rfl) (by decide) (lw_c18 C hml hX hbl hL hi hl S kk)
  · exact lv_tableIn (off := 746) (tgt := 779) hx hb dL_33 (by rw [hk]; decide) (by rw [hk]; decide) (by rw [hk]; rfl) (by decide) (lw_c19 C hml hX hbl hL hi hl S kk)
  · exact lv_tableIn (off := 809) (tgt := 842) hx hb dL_33 (by rw [hk]; decide) (by rw [hk]; decide) (by rw [hk]; rfl) (by decide) (lw_c20 C hml hX hbl hL hi hl S kk)
  · exact lv_tableIn (off := 884) (tgt := 917) hx hb dL_33 (by rw [hk]; decide) (by rw [hk]; decide) (by rw [hk]; rfl) (by decide) (lw_c21 C hml hX hbl hL hi hl S kk)
  · exact lv_tableIn (off := 937) (tgt := 970) hx hb dL_33 (by rw [hk]; decide) (by rw [hk]; decide) (by rw [hk]; rfl) (by decide) (lw_c22 C hml hX hbl hL hi hl S kk)
  · exact lv_tableIn (off := 980) (tgt := 1013) hx hb dL_33 (by rw [hk]; decide) (by rw [hk]; decide) (by rw [hk]; rfl) (by decide) (lw_c23 C hml hX hbl hL hi hl S kk)
  · exact lv_tableIn (off := 1003) (tgt := 1036) hx hb dL_33 (by rw [hk]; decide) (by rw [hk]; decide) (by rw [hk]; rfl) (by decide) (lw_c24 C hml hX hbl hL hi hl S kk)
  · exact lv_tableIn (off := 1086) (tgt := 1119) hx hb dL_33 (by rw [hk]; decide) (by rw [hk]; decide) (by rw [hk]; rfl) (by decide) (lw_c25 C hml hX hbl hL hi hl S kk)
  · exact lv_tableOut (tgt := 1182) hx hb dL_33 (Or.inr (by omega)) (by decide) (kk H locs A S)
  · exact lv_tableOut (tgt := 1182) hx hb dL_33 (Or.inl hk) (by decide) (kk H locs A S)
theorem lw_loop {p : Program} {l : Launch} {e : Env} {s : State} {m : MethodId} {below : List Frame} {meth : Method} {c : Code} {D : va_G} {cA : Nat → ClassId} {b L : Nat} {xs : Nat → Int32} (C : mb_C p s m #[Value.ref b] c D cA code R_law) (hml : c.maxLocals = 4) (hr : meth.sig.returnType = ret) (hlocks : meth.locks = false) (hX : va_X b L xs s s.heap) (hbl : b < s.heap.size) (hL : L ≤ 3584) : ∀ (g i : Nat), L + 1 ≤ i + g → i ≤ L → ∀ (H : Heap) (locs : List Loc) (A : es_A) (ls : Array Slot), lv_has ls 4 [(3, .int (nI i)), (2, .ref (s.heap.size + 212)), (1, .ref s.heap.size), (0, .ref b)] → lw_St D cA s H locs A → W p l e room_1 s m #[Value.ref b] below meth c H locs 229 7239 (lw_Z below #[Value.ref b] s) (F0 m 18 ls []) := by
  obtain ⟨hx, hb, hown, gw, hK, hN, hO⟩ := id C
  have hbA : ¬ (fun q : Nat => s.heap.size ≤ q) b := Nat.not_le.mpr hbl
  intro g
  induction g with
  | zero => intro i h1 h2; omega
  | succ g ih =>
    intro i h1 h2 H locs A ls hl S
    have hS := S.choose_spec.choose_spec.2.2.2.2
    refine lv_iload_n hx hb dL_18 rfl (lv_at hl 0 rfl) ?_
    refine lv_aload_n hx hb dL_19 rfl (lv_at hl 3 rfl) ?_
    refine va_slen hx hb hX hbl hbA hS dL_20 ?_
    refine lv_bipush (v := 7) hx hb dL_21 (by decide +kernel) ?_
    refine lv_isub hx hb dL_23 ?_
    have eL : (Int32.ofNat L - 7).toInt = (L : Int) - 7 := by
      have e1 : (Int32.ofNat L).toInt = L := nI_toInt (n := L) (by omega)
      have e7 : (7 : Int32).toInt = 7 := by decide +kernel
      rw [fb_subI, e1, e7] <;> rw [e1, e7] <;> omega
    have ei : (nI i).toInt = i := nI_toInt (by omega)
    refine lv_icmp_gt (tgt := 1188) hx hb dL_24 (by decide) (fun q => ?_) (fun q => ?_)
    · refine va_forget (fun z hz => hS.2.2 z hz) (W.widen (k := 600000) (n := 7302250) (Nat.le_of_ble_eq_true rfl) (Nat.le_of_ble_eq_true rfl) ?_)
      refine lv_iconst (v := 1) hx hb dL_1188 (by decide +kernel) ?_
      exact lw_ret hx hb hr hlocks dL_1189
    · have q := es_nlt q
      rw [eL, ei] at q
      have hi : i + 7 ≤ L := by omega
      refine lv_aload_n hx hb dL_27 rfl (lv_at hl 3 rfl) ?_
      refine lv_iload_n hx hb dL_28 rfl (lv_at hl 0 rfl) ?_
      refine va_sld hx hb hX hbl hbA hS (vp_in_nI (by omega) (by omega)) dL_29 ?_
      refine lv_bipush (v := 31) hx hb dL_30 (by decide +kernel) ?_
      refine lv_iand hx hb dL_32 ?_
      refine lw_switch C hml hX hbl hL hi hl S (fun H locs A S => ?_)
      refine lv_iinc (v := nI (i + 7)) (lv' := [(3, .int (nI (i + 7))), (2, .ref (s.heap.size + 212)), (1, .ref s.heap.size), (0, .ref b)]) hx hb dL_1182 hl (k := 0) rfl (nI_add i 7) (by decide) rfl (fun ls hl => ?_)
      refine lv_goto (tgt := 18) hx hb dL_1185 (by decide) ?_
      exact ih (i + 7) (by omega) (by omega) H locs A ls hl S
theorem lw_nest {w : Jvm.Cond} (h : mz_nest w = true) : w.onTables = true := by
  cases w <;> first | rfl | (exact absurd h (by simp [mz_nest]))
set_option maxHeartbeats 4000000 in
set_option maxRecDepth 100000 in
/-- THE LAW, from its entry -/
theorem whole_start {p : Program} {e : Env} {s : State} {m : MethodId} {below : List Frame} {meth : Method} {c : Code} (l : Launch) (hflags : l.flags = flags0) {b L : Nat} {xs : Nat → Int32} (hL : L ≤ 3584) (C0 : lw_At p s m meth c b L xs) : W p l e room_1 s m #[Value.ref b] below meth c s.heap [] 0 0 (lw_Z below #[Value.ref b] s) (entryFrame m ([Value.ref b] : List Value).toArray 4) := by
  obtain ⟨hx, hb, hr, hml, hown, hts, hX, hbl, hlocks, hgv⟩ := id C0
  obtain ⟨c0, i0, k0⟩ := u_known (C := RX0) (T := TX0) (N := 4) (n := 4) hts (fun w hw => (mb_u0 w hw).1) (hts (.instantiable RX0 4) (by decide +kernel))
  obtain ⟨c1, i1, k1⟩ := u_known (C := RX1) (T := TX1) (N := 10) (n := 10) hts (fun w hw => (mb_u1 w hw).1) (hts (.instantiable RX1 10) (by decide +kernel))
  obtain ⟨c2, i2, k2⟩ := u_known (C := RX2) (T := TX2) (N := 3) (n := 3) hts (fun w hw => (mb_u2 w hw).1) (hts (.instantiable RX2 3) (by decide +kernel))
  obtain ⟨c3, i3, k3⟩ := u_known (C := RX3) (T := TX3) (N := 2) (n := 2) hts (fun w hw => (mb_u3 w hw).1) (hts (.instantiable RX3 2) (by decide +kernel))
  obtain ⟨c4, i4, k4⟩ := u_known (C := RX4) (T := TX4) (N := 3) (n := 3) hts (fun w hw => (mb_u4 w hw).1) (hts (.instantiable RX4 3) (by decide +kernel))
  obtain ⟨c5, i5, k5⟩ := u_known (C := RX5) (T := TX5) (N := 7) (n := 7) hts (fun w hw => (mb_u5 w hw).1) (hts (.instantiable RX5 7) (by decide +kernel))
  obtain ⟨c6, i6, k6⟩ := u_known (C := RX6) (T := TX6) (N := 9) (n := 9) hts (fun w hw => (mb_u6 w hw).1) (hts (.instantiable RX6 9) (by decide +kernel))
  obtain ⟨c7, i7, k7⟩ := u_known (C := RX7) (T := TX7) (N := 28) (n := 28) hts (fun w hw => (mb_u7 w hw).1) (hts (.instantiable RX7 28) (by decide +kernel))
  obtain ⟨dC, dI, hKc⟩ : ∃ (dC : Nat → ClassId) (dI : Nat → Nat → Nat), ∀ (k : Nat) (q : vw_C), vwCl[k]? = some q → u_Kn s q.1 q.2.1 q.2.2 (dC k) (dI k) := by
    refine ⟨fun k => [c0, c1, c2, c3, c4, c5, c6, c7].getD k c0, fun k => [i0, i1, i2, i3, i4, i5, i6, i7].getD k i0, ?_⟩
    intro k q hq
    match k, hq with
    | 0, hq => cases hq; exact k0
    | 1, hq => cases hq; exact k1
    | 2, hq => cases hq; exact k2
    | 3, hq => cases hq; exact k3
    | 4, hq => cases hq; exact k4
    | 5, hq => cases hq; exact k5
    | 6, hq => cases hq; exact k6
    | 7, hq => cases hq; exact k7
    | k + 8, hq => simp [vwCl] at hq
  obtain ⟨a0, ka0, p0, f0, g0, h0⟩ := Cond.arrayClass_spec (hts (.arrayClass .int) (by decide +kernel))
  obtain ⟨a1, ka1, p1, f1, g1, h1⟩ := Cond.arrayClass_spec (hts (.arrayClass .long) (by decide +kernel))
  obtain ⟨p2, a2, ka2, e2, -, g2, h2, f2⟩ := Cond.arrayOver_spec (hts (.arrayOver (.object "EtaSeries$Row")) (by decide +kernel))
  obtain ⟨p3, a3, ka3, e3, -, g3, h3, f3⟩ := Cond.arrayOver_spec (hts (.arrayOver (.object "EtaSeries$Shelf")) (by decide +kernel))
  obtain ⟨p4, a4, ka4, e4, -, g4, h4, f4⟩ := Cond.arrayOver_spec (hts (.arrayOver (.object "EtaSeries$Leaf")) (by decide +kernel))
  obtain ⟨cA, hKa⟩ : ∃ cA : Nat → ClassId, ∀ (k : Nat) (q : ClassId × FieldType), (mz_ty es_ats cA)[k]? = some q → ArrOfT s q.1 q.2 ∧ va_RA s q.1 q.2 := by
    refine ⟨fun k => [a0, a1, a2, a3, a4].getD k a0, ?_⟩
    intro k q hq
    match k, hq with
    | 0, hq => cases hq; exact ⟨fun n z => ⟨fun k h => (by cases h), ka0, g0, p0, h0⟩, f0⟩
    | 1, hq => cases hq; exact ⟨fun n z => ⟨fun k h => (by cases h), ka1, g1, p1, h1⟩, f1⟩
    | 2, hq => cases hq; exact ⟨fun n z => ⟨fun k h => (by cases h), ka2, g2, p2, h2⟩, ⟨ka2, p2, g2, h2, e2, f2⟩⟩
    | 3, hq => cases hq; exact ⟨fun n z => ⟨fun k h => (by cases h), ka3, g3, p3, h3⟩, ⟨ka3, p3, g3, h3, e3, f3⟩⟩
    | 4, hq => cases hq; exact ⟨fun n z => ⟨fun k h => (by cases h), ka4, g4, p4, h4⟩, ⟨ka4, p4, g4, h4, e4, f4⟩⟩
    | k + 5, hq =>
      have := (List.getElem?_eq_some_iff.mp hq).1
      simp [mz_ty, es_ats] at this
      omega
  have C : mb_C p s m #[Value.ref b] c (dC, dI) cA code R_law := ⟨hx, hb, hown, fun w hw _ => hts w hw, ⟨hKc, hKa⟩, fun w hw hn => va_Nw.of (lw_nest hn) (hts w hw), ⟨va_AO.of (hts (.arrayOver (.object "EtaSeries$Row")) (by decide +kernel)), va_AO.of (hts (.arrayOver (.object "EtaSeries$Shelf")) (by decide +kernel)), va_AO.of (hts (.arrayOver (.object "EtaSeries$Leaf")) (by decide +kernel))⟩⟩
  have S : mb_S (dC, dI) s s.heap.size 0 [] s.heap [] := ⟨rfl, fun k q h => by simp at h, ⟨fun i j x y h => by simp at h, fun k q h => by simp at h⟩, va_S.rf⟩
  have hl := lv_entry ([.ref b] : List Value) (n := 4) (Nat.le_of_ble_eq_true rfl)
  rw [lg_entry_eq]
  generalize (lg_sl ([.ref b] : List Value) ++ List.replicate (4 - (lg_sl ([.ref b] : List Value)).length) Slot.unset).toArray = ls at hl ⊢
  have hl : lv_has ls 4 [(0, .ref b)] := hl
  refine mb_new C (Nat.le_refl _) S (ci := 6) (Cn := RX6) (T := TX6) (fs := [.null, .null, .null, .null, .int 0, .null, .null, .null, .null]) rfl (show Cond.classLink R_law 7 RX6 ∈ lw_tbl by decide +kernel) (show Cond.instantiable RX6 9 ∈ lw_tbl by decide +kernel) (show Cond.initialized RX6 ∈ lw_tbl by decide +kernel) tyX6 tyX6_ok mb_df6 (Nat.le_of_ble_eq_true rfl) (Nat.le_of_ble_eq_true rfl) dL_0 (fun H S => ?_)
  refine lv_dup hx hb dL_3 rfl ?_
  refine mb_initP (n := 0) (ws := []) (As := []) (rest := [.ref (s.heap.size + 0)]) (np := 0) (rm := { frames := 4, cells := 211, slots := 3916, locals := 130 }) C hml hl.1 S (k_X6 (B := s.heap.size + 0)) (show Cond.code yX6_init cX6_init 2 none ∈ lw_tbl by decide +kernel) rfl rfl (show Cond.methodLink R_law 9 yX6_init ∈ lw_tbl by decide +kernel) (show Cond.initialized RX6 ∈ lw_tbl by decide +kernel) (show Cond.instanceMethod yX6_init ∈ lw_tbl by decide +kernel) rfl (by decide +kernel) ⟨Nat.le_of_ble_eq_true rfl, Nat.le_of_ble_eq_true rfl⟩ rfl (Nat.le_of_ble_eq_true rfl) dL_4 ⟨Nat.le_of_ble_eq_true rfl, Nat.le_of_ble_eq_true rfl⟩ (fun H locs S => ?_)
  have S : mb_S (dC, dI) s s.heap.size 212 (mb_b es_LC cA s.heap.size mb_mu 0 212) H locs := S
  refine lv_astore_n (lv' := [(1, .ref s.heap.size), (0, .ref b)]) hx hb dL_7 rfl hl (by decide) rfl (fun ls hl => ?_)
  refine mb_new C (Nat.le_refl _) S (ci := 7) (Cn := RX7) (T := TX7) (fs := [.null, .null, .int 0, .null, .int 0, .null, .int 0, .null, .int 0, .null, .int 0, .int 0, .int 0, .int 0, .int 0, .int 0, .null, .null, .null, .null, .int 0, .null, .null, .int 0, .null, .null, .null, .null]) rfl (show Cond.classLink R_law 10 RX7 ∈ lw_tbl by decide +kernel) (show Cond.instantiable RX7 28 ∈ lw_tbl by decide +kernel) (show Cond.initialized RX7 ∈ lw_tbl by decide +kernel) tyX7 tyX7_ok mb_df7 (Nat.le_of_ble_eq_true rfl) (Nat.le_of_ble_eq_true rfl) dL_8 (fun H S => ?_)
  refine lv_dup hx hb dL_11 rfl ?_
  refine mb_initP (n := 212) (ws := mb_b es_LC cA s.heap.size mb_mu 0 212) (As := []) (rest := [.ref (s.heap.size + 212)]) (np := 0) (rm := { frames := 1, cells := 16, slots := 3286, locals := 30 }) C hml hl.1 S (k_X7 (B := s.heap.size + 212)) (show Cond.code yX7_init cX7_init 2 none ∈ lw_tbl by decide +kernel) rfl rfl (show Cond.methodLink R_law 12 yX7_init ∈ lw_tbl by decide +kernel) (show Cond.initialized RX7 ∈ lw_tbl by decide +kernel) (show Cond.instanceMethod yX7_init ∈ lw_tbl by decide +kernel) rfl (by decide +kernel) ⟨Nat.le_of_ble_eq_true rfl, Nat.le_of_ble_eq_true rfl⟩ rfl (Nat.le_of_ble_eq_true rfl) dL_12 ⟨Nat.le_of_ble_eq_true rfl, Nat.le_of_ble_eq_true rfl⟩ (fun H locs S => ?_)
  refine lv_astore_n (lv' := [(2, .ref (s.heap.size + 212)), (1, .ref s.heap.size), (0, .ref b)]) hx hb dL_15 rfl hl (by decide) rfl (fun ls hl => ?_)
  refine lv_iconst (v := 0) hx hb dL_16 (by decide +kernel) ?_
  refine lv_istore_n (lv' := [(3, .int (nI 0)), (2, .ref (s.heap.size + 212)), (1, .ref s.heap.size), (0, .ref b)]) hx hb dL_17 rfl hl (by decide) rfl (fun ls hl => ?_)
  have hP1 : va_P (dC, dI) vwCl (mz_w es_SH es_LC cA (fun p => s.heap.size + p) mb_mu) H := by
    rw [← mb_b_w]
    exact mb_P_of (fun q hq => mb_mem S.2.1 (List.mem_append_left _ hq))
  have hP2 : va_P (dC, dI) vwCl (mz_w es_SH es_LM cA (fun p => s.heap.size + 212 + p) mb_muM) H := by
    rw [← mb_b_w]
    exact mb_P_of (fun q hq => mb_mem S.2.1 (List.mem_append_right _ hq))
  exact lw_loop C hml hr hlocks hX hbl hL (L + 1) 0 (by omega) (Nat.zero_le _) H locs mb_A0 ls hl ⟨mb_mu, mb_muM, mb_C0, mb_M0, hP1, hP2, S.2.2.2⟩

set_option maxHeartbeats 4000000 in
theorem lw_walk (l : Launch) (hflags : l.flags = flags0) (b : Addr) (xs : List Int32) : MetFree l x (headSpec (Jvm.Cond.code x code maxLocals ret :: tables_1) room_1) (lw_P b xs) (fun _ _ _ _ _ => True) lw_Q := by
  refine MetFree.of_bodyS (code := code) (maxLocals := maxLocals) (ret := ret) (by decide) ?_ ?_
  · intro args s m h hn
    obtain ⟨meth, c, h1, h2, h3, h4, h5, h6, -, -⟩ := Cond.code_spec hn (atoms_spec (ws := Jvm.Cond.code x code maxLocals ret :: tables_1) h _ List.mem_cons_self)
    exact ⟨meth, c, h1, h2, h3, h4, h5, h6⟩
  · intro p e s m args below meth c s₁ B hml0 hP _
    obtain ⟨rfl, hx, hbd, hgv⟩ := hP
    obtain ⟨scr, harrAt, hlist, hof, hsmall⟩ := hx
    obtain ⟨hcb, hkn, -, -⟩ := State.arrayAt?_spec harrAt
    have hown : s.vm.findClass R_law = some m.cls := findClass_of_methodNamed B.named
    have hts0 : ∀ c ∈ (Jvm.Cond.code x code maxLocals ret :: tables_1), c.before #[Value.ref b] s = true := atoms_spec (ws := Jvm.Cond.code x code maxLocals ret :: tables_1) B.pre
    have hts : ∀ w ∈ lw_tbl, w.before #[Value.ref b] s = true := k2_hts_sels lw_privs (fun w hw => hts0 w (List.mem_cons_of_mem _ hw)) lw_privs_ok
    have hml : c.maxLocals = 4 := B.maxLocals_eq (hts0 _ List.mem_cons_self)
    have X₀ : Stand p l e room_1 s m #[Value.ref b] below meth c s₁ [] 0 0 := Stand.of_body B
    have hh0 : s₁.heap = s.heap := by rw [B.state]; rfl
    have hsz : scr.slots.size = xs.length := by rw [← Array.length_toList, hlist, List.length_map]
    have hval : ∀ j : Nat, j < xs.length → scr.slots[j]? = some (.int (xs.getD j 0)) := fun j hj => by
      rw [← Array.getElem?_toList, hlist]
      simp [hj]
    have hbl : b < s.heap.size := (Array.getElem?_eq_some_iff.mp hcb).1
    have hX : va_X b xs.length (fun j => xs.getD j 0) s s.heap := ⟨scr, hcb, hof, hkn, hsz, hval⟩
    have K : W p l e room_1 s m #[Value.ref b] below meth c s₁.heap [] 0 0 (lw_Z below #[Value.ref b] s) (entryFrame m ([Value.ref b] : List Value).toArray 4) := by
      rw [hh0]
      exact whole_start l hflags hbd ⟨B.exec, B.bytes, B.returns, hml, hown, hts, hX, hbl, B.notSynchronized, hgv⟩
    obtain ⟨t, a1, o, b1, b2, b3⟩ := K s₁ rfl X₀
    exact ⟨t, o, a1, b1, b2, b3⟩
theorem lw_pre_spec {args : Array Value} {s : State} (h : (Jvm.Cond.and given_1 narrow_1).before args s = true) (hr : rest_1_c.before args s = true) : ∃ (b : Addr) (xs : List Int32), lw_P b xs args s := by
  have hs := flat_of_before _ h
  have hq := flat_of_before _ hr
  have hc : (Cond.count 1).before args s = true := hs _ (by decide +kernel)
  have harr : (Cond.arrayOf (.arg 0) .int).before args s = true := hs _ (by decide +kernel)
  have hle : (Cond.le (.length (.arg 0)) (.int 3584)).before args s = true := hs _ (by decide +kernel)
  have hlen : (Cond.isInt (.length (.arg 0))).before args s = true := hq _ (by decide +kernel)
  have hall : (Cond.all (.arg 0) (.isInt (.elem (.arg 0) (.index 0)))).before args s = true := hq _ (by decide +kernel)
  obtain ⟨b, xs, hb, hx⟩ := State.ints_of_pre rfl harr hlen hall
  have hsm : xs.length < 2 ^ 31 := hx.choose_spec.2.2.2
  have hev : (Term.length (.arg 0)).eval args s none [] s = some (.int xs.length.toInt32) := hx.length_eval hb
  have hv := Cond.le_ints hev (show (Term.int 3584).eval args s none [] s = some (.int 3584) from rfl)
  have hd : xs.length.toInt32 ≤ 3584 := by
    simpa [Cond.before, Cond.holds, hv] using hle
  have hN : xs.length ≤ 3584 := (Int32.ofNat_le_ofNat hsm (by decide)).mp (show Int32.ofNat xs.length ≤ Int32.ofNat 3584 from hd)
  exact ⟨b, xs, Cond.one_arg hc (show args[0]? = some (.ref b) from hb), hx, hN, h⟩
theorem lw_comes (l : Launch) (hflags : l.flags = flags0) : Comes l x (Jvm.Cond.code x code maxLocals ret :: tables_1) room_1 (fun tb e args s => Calls_1 tb e args s ∧ rest_1 tb e args s ∧ Pre_1 tb e args s)
    (fun _ _ args s o t => lw_Q args s o t) := by
  intro p e ha hc hk s m args below hf hfit hheap happ hpre
  obtain ⟨b, xs, hP⟩ := lw_pre_spec hpre.2.2 hpre.2.1
  obtain ⟨k, o, h1, h2, h3, hQ⟩ := lw_walk l hflags b xs p e ha hc hk s m args below hf ((Spec.applies_iff_loose hf).mp happ).1 hP trivial
  exact ⟨k, o, h1, h2, h3, hQ⟩
theorem lw_frame {s t : State} {o : Outcome} {args : Array Value} (h : Framed s o t [] 600000 7302250) :
    Framed s o t (fieldLocs frame_1_writes args s ++ arrayLocs frame_1_arrays args s ++ staticLocs frame_1_statics s) 600000 7302250 := h
theorem lw_limb (L : Cond) (hL : ∀ (args : Array Value) (s t : State), L.after args s (.returned (some (.int 1))) t = true) :
    ArmFor flags0 classFile x code maxLocals ret World_1 tables_1 room_1 Calls_1 rest_1 Pre_1
      (fun tb e a s o t => postC L tb e a s o t ∧ Framed s o t (fieldLocs frame_1_writes a s ++ arrayLocs frame_1_arrays a s ++ staticLocs frame_1_statics s) 600000 7302250) := by
  intro l hflags _ _ p e ha hc hk s m args below hf hfit hheap happ hpre
  obtain ⟨k, o, h1, h2, h3, rfl, hF⟩ := lw_comes l hflags p e ha hc hk s m args below hf hfit hheap happ hpre
  exact ⟨k, _, h1, h2, h3, hL args s _, lw_frame hF⟩
theorem i_vc : Claimed_1_1 ∧ Claimed_1_2 := ⟨lw_limb limb_1_1 (fun args s t => by simp [limb_1_1, Cond.after, Cond.holds, Cond.value]), lw_limb limb_1_2 (fun args s t => Cond.after_iff.mpr (by
  first | (rw [show limb_1_2 = Cond.eq .result (.int 1) from rfl, Cond.eq_ints (x := 1) (y := 1) rfl rfl]; simp; done) | (simp [limb_1_2, Cond.value, Term.eval]; done)))⟩
