abbrev cX4_init : ByteArray := prog_6_method_1_code
def yX4_init : MethodName := ⟨RX4, "<init>", "()V"⟩
theorem dX4_init_0 : decode cX4_init 0 = .ok (.aload_n 0, 1) := by decide +kernel
theorem dX4_init_1 : decode cX4_init 1 = .ok (.invokespecial 3, 3) := by decide +kernel
theorem dX4_init_4 : decode cX4_init 4 = .ok (.aload_n 0, 1) := by decide +kernel
theorem dX4_init_5 : decode cX4_init 5 = .ok (.iconst 4, 1) := by decide +kernel
theorem dX4_init_6 : decode cX4_init 6 = .ok (.anewarray 9, 3) := by decide +kernel
theorem dX4_init_9 : decode cX4_init 9 = .ok (.putfield 11, 3) := by decide +kernel
theorem dX4_init_12 : decode cX4_init 12 = .ok (.aload_n 0, 1) := by decide +kernel
theorem dX4_init_13 : decode cX4_init 13 = .ok (.bipush 24, 2) := by decide +kernel
theorem dX4_init_15 : decode cX4_init 15 = .ok (.putfield 17, 3) := by decide +kernel
theorem dX4_init_18 : decode cX4_init 18 = .ok (.aload_n 0, 1) := by decide +kernel
theorem dX4_init_19 : decode cX4_init 19 = .ok (.iconst 1, 1) := by decide +kernel
theorem dX4_init_20 : decode cX4_init 20 = .ok (.putfield 21, 3) := by decide +kernel
theorem dX4_init_23 : decode cX4_init 23 = .ok (.iconst 0, 1) := by decide +kernel
theorem dX4_init_24 : decode cX4_init 24 = .ok (.istore_n 1, 1) := by decide +kernel
theorem dX4_init_25 : decode cX4_init 25 = .ok (.iload_n 1, 1) := by decide +kernel
theorem dX4_init_26 : decode cX4_init 26 = .ok (.aload_n 0, 1) := by decide +kernel
theorem dX4_init_27 : decode cX4_init 27 = .ok (.getfield 11, 3) := by decide +kernel
theorem dX4_init_30 : decode cX4_init 30 = .ok (.arraylength, 1) := by decide +kernel
theorem dX4_init_31 : decode cX4_init 31 = .ok (.if_icmp .ge 22, 3) := by decide +kernel
theorem dX4_init_34 : decode cX4_init 34 = .ok (.aload_n 0, 1) := by decide +kernel
theorem dX4_init_35 : decode cX4_init 35 = .ok (.getfield 11, 3) := by decide +kernel
theorem dX4_init_38 : decode cX4_init 38 = .ok (.iload_n 1, 1) := by decide +kernel
theorem dX4_init_39 : decode cX4_init 39 = .ok (.new 9, 3) := by decide +kernel
theorem dX4_init_42 : decode cX4_init 42 = .ok (.dup, 1) := by decide +kernel
theorem dX4_init_43 : decode cX4_init 43 = .ok (.invokespecial 24, 3) := by decide +kernel
theorem dX4_init_46 : decode cX4_init 46 = .ok (.aastore, 1) := by decide +kernel
theorem dX4_init_47 : decode cX4_init 47 = .ok (.iinc 1 1, 3) := by decide +kernel
theorem dX4_init_50 : decode cX4_init 50 = .ok (.goto (-25), 3) := by decide +kernel
theorem dX4_init_53 : decode cX4_init 53 = .ok (.return_, 1) := by decide +kernel
theorem mb_df4 : ∀ j, j < 3 → defaultValue (tyX4 j) = vp_V [.null, .int 0, .int 0] j := by
  intro j hj
  rcases (show j = 0 ∨ j = 1 ∨ j = 2 by omega) with rfl | rfl | rfl <;> rfl
set_option maxHeartbeats 4000000 in
set_option maxRecDepth 100000 in
theorem k_X4 {l : Launch} {D : va_G} {cA : Nat → ClassId} {B P h : Nat} (hh : h = B + P) (hL : ∀ i, i < 10 → es_LC.getD (P + i) 0 = mb_ls.getD i 0) : Met l yX4_init (mz_ws lw_tbl (mb_me yX4_init cX4_init 2)) { frames := 2, cells := 9, slots := 172, locals := 60 } (mb_Pre D cA [.ref h] h 4 [.null, .int 0, .int 0]) (mb_Post D h 10 (mb_b es_LC cA B mb_mu P 10)) 9 172 (fun q => h ≤ q) := by
  subst hh
  refine mb_ofW (by decide +kernel) rfl ?_
  intro p e s m below meth c C hin hml hr hlocks ha S
  obtain ⟨hx, hb, hown, gw, hK, hN, hO⟩ := id C
  have hl := lv_entry ([.ref (B + P)] : List Value) (n := 2) (Nat.le_of_ble_eq_true rfl)
  rw [lg_entry_eq]
  generalize (lg_sl ([.ref (B + P)] : List Value) ++ List.replicate (2 - (lg_sl ([.ref (B + P)] : List Value)).length) Slot.unset).toArray = ls at hl ⊢
  have hl : lv_has ls 2 [(0, .ref (B + P))] := hl
  generalize hH : s.heap = H at S ⊢
  generalize hlc : ([] : List Loc) = locs at S ⊢
  refine lv_aload_n hx hb dX4_init_0 rfl (lv_at hl 0 rfl) ?_
  refine W.objInit hx hb hown (gw _ (show Cond.methodLink RX4 3 Lib.objectInit ∈ lw_tbl by decide +kernel) rfl) (gw _ (show Cond.instanceMethod Lib.objectInit ∈ lw_tbl by decide +kernel) rfl) (gw _ (show Cond.code Lib.objectInit ⟨#[0xb1]⟩ 1 none ∈ lw_tbl by decide +kernel) rfl) rfl (by rw [hml]; exact hl.1) rfl dX4_init_1 (Nat.le_of_ble_eq_true rfl) (Nat.le_of_ble_eq_true rfl) ?_
  refine W.eq (g2 := F0 m 4 ls []) rfl ?_
  refine lv_aload_n hx hb dX4_init_4 rfl (lv_at hl 0 rfl) ?_
  refine lv_iconst (v := 4) hx hb dX4_init_5 (by decide +kernel) ?_
  refine mb_newq (N := 4) (t0 := 2) C ha S (show Cond.classLink RX4 9 RX3 ∈ lw_tbl by decide +kernel) hO.1 rfl (by decide +kernel) (by decide +kernel) (Nat.le_of_ble_eq_true rfl) (Nat.le_of_ble_eq_true rfl) (Nat.le_of_ble_eq_true rfl) dX4_init_6 (fun H S => ?_)
  have S : mb_S D s (B + P) 2 [(B + P, .inr (4, [.null, .int 0, .int 0])), (B + P + 1, .inl (cA 2, 4, .inr (.inr (.inr (.inr (fun _ => none))))))] H locs := S
  refine mb_putF C hin S (ci := 4) (Cn := RX4) (T := TX4) (N := 3) 0 rfl rfl 0 (by decide) (show Cond.fieldLink RX4 11 "EtaSeries$Shelf" "rows" "[LEtaSeries$Row;" ∈ lw_tbl by decide +kernel) rfl rfl (ty := (.array (.object "EtaSeries$Row"))) (by decide +kernel) rfl rfl (Nat.le_of_ble_eq_true rfl) dX4_init_9 (fun H locs S => ?_)
  have S : mb_S D s (B + P) 2 [(B + P, .inr (4, [.ref (B + P + 1), .int 0, .int 0])), (B + P + 1, .inl (cA 2, 4, .inr (.inr (.inr (.inr (fun _ => none))))))] H locs := S
  refine lv_aload_n hx hb dX4_init_12 rfl (lv_at hl 0 rfl) ?_
  refine lv_bipush (v := 24) hx hb dX4_init_13 (by decide +kernel) ?_
  refine mb_put C S (ci := 4) (Cn := RX4) (T := TX4) (N := 3) 0 rfl rfl 1 (by decide) (show Cond.fieldLink RX4 17 "EtaSeries$Shelf" "span" "I" ∈ lw_tbl by decide +kernel) rfl (ty := .int) (by decide +kernel) rfl rfl (Nat.le_of_ble_eq_true rfl) dX4_init_15 (fun H locs S => ?_)
  have S : mb_S D s (B + P) 2 [(B + P, .inr (4, [.ref (B + P + 1), .int 24, .int 0])), (B + P + 1, .inl (cA 2, 4, .inr (.inr (.inr (.inr (fun _ => none))))))] H locs := S
  refine lv_aload_n hx hb dX4_init_18 rfl (lv_at hl 0 rfl) ?_
  refine lv_iconst (v := 1) hx hb dX4_init_19 (by decide +kernel) ?_
  refine mb_put C S (ci := 4) (Cn := RX4) (T := TX4) (N := 3) 0 rfl rfl 2 (by decide) (show Cond.fieldLink RX4 21 "EtaSeries$Shelf" "draw" "I" ∈ lw_tbl by decide +kernel) rfl (ty := .int) (by decide +kernel) rfl rfl (Nat.le_of_ble_eq_true rfl) dX4_init_20 (fun H locs S => ?_)
  have S : mb_S D s (B + P) 2 [(B + P, .inr (4, [.ref (B + P + 1), .int 24, .int 1])), (B + P + 1, .inl (cA 2, 4, .inr (.inr (.inr (.inr (fun _ => none))))))] H locs := S
  refine lv_iconst (v := 0) hx hb dX4_init_23 (by decide +kernel) ?_
  refine lv_istore_n (lv' := [(1, .int 0), (0, .ref (B + P))]) hx hb dX4_init_24 rfl hl (by decide) rfl (fun ls hl => ?_)
  refine lv_iload_n hx hb dX4_init_25 rfl (lv_at hl 0 rfl) ?_
  refine lv_aload_n hx hb dX4_init_26 rfl (lv_at hl 1 rfl) ?_
  refine mb_get C S (ci := 4) (Cn := RX4) (T := TX4) (N := 3) 0 rfl rfl 0 (by decide) (show Cond.fieldLink RX4 11 "EtaSeries$Shelf" "rows" "[LEtaSeries$Row;" ∈ lw_tbl by decide +kernel) rfl dX4_init_27 ?_
  refine va_alen (v := 4) hx hb hK S.2.1 1 2 rfl (mz_ty_at (i := 2) rfl) (show Int32.ofNat 4 = 4 from rfl) dX4_init_30 ?_
  refine lv_icmp_ge (tgt := 53) hx hb dX4_init_31 (by decide) (fun q => absurd q (by decide +kernel)) (fun _ => ?_)
  refine lv_aload_n hx hb dX4_init_34 rfl (lv_at hl 1 rfl) ?_
  refine mb_get C S (ci := 4) (Cn := RX4) (T := TX4) (N := 3) 0 rfl rfl 0 (by decide) (show Cond.fieldLink RX4 11 "EtaSeries$Shelf" "rows" "[LEtaSeries$Row;" ∈ lw_tbl by decide +kernel) rfl dX4_init_35 ?_
  refine lv_iload_n hx hb dX4_init_38 rfl (lv_at hl 0 rfl) ?_
  refine mb_new C ha S (ci := 3) (Cn := RX3) (T := TX3) (fs := [.null, .int 0]) rfl (show Cond.classLink RX4 9 RX3 ∈ lw_tbl by decide +kernel) (show Cond.instantiable RX3 2 ∈ lw_tbl by decide +kernel) (show Cond.initialized RX3 ∈ lw_tbl by decide +kernel) tyX3 tyX3_ok (mb_df3) (Nat.le_of_ble_eq_true rfl) (Nat.le_of_ble_eq_true rfl) dX4_init_39 (fun H S => ?_)
  refine lv_dup hx hb dX4_init_42 rfl ?_
  refine mb_initN (ws := [(B + P, .inr (4, [.ref (B + P + 1), .int 24, .int 1])), (B + P + 1, .inl (cA 2, 4, .inr (.inr (.inr (.inr (fun _ => none))))))]) (As := []) (rest := [.ref (B + P + 2), .int 0, .ref (B + P + 1)]) (np := 0) (rm := { frames := 1, cells := 1, slots := 40, locals := 30 }) (host := "EtaSeries") C hml hl.1 S (k_X3 (B := B) (P := (P + 2)) (h := B + P + 2) (by omega) (hL 2 (by decide)) (hL 3 (by decide))) (show Cond.code yX3_init cX3_init 1 none ∈ lw_tbl by decide +kernel) rfl rfl (show Cond.methodLinkNest RX4 24 yX3_init "EtaSeries" ∈ lw_tbl by decide +kernel) (show Cond.initialized RX3 ∈ lw_tbl by decide +kernel) (show Cond.instanceMethod yX3_init ∈ lw_tbl by decide +kernel) rfl (by decide +kernel) ⟨Nat.le_of_ble_eq_true rfl, Nat.le_of_ble_eq_true rfl⟩ rfl (Nat.le_of_ble_eq_true rfl) dX4_init_43 ⟨Nat.le_of_ble_eq_true rfl, Nat.le_of_ble_eq_true rfl⟩ (fun H locs S => ?_)
  have S : mb_S D s (B + P) 4 ([(B + P, .inr (4, [.ref (B + P + 1), .int 24, .int 1])), (B + P + 1, .inl (cA 2, 4, .inr (.inr (.inr (.inr (fun _ => none))))))] ++ mb_b es_LC cA B mb_mu (P + 2) 2) H locs := S
  refine mb_aast C S (t0 := 2) (r := (RX3, TX3, 2)) 1 2 rfl rfl ((mb_at2 (hd := [(B + P, .inr (4, [.ref (B + P + 1), .int 24, .int 1])), (B + P + 1, .inl (cA 2, 4, .inr (.inr (.inr (.inr (fun _ => none))))))]) (lo := (P + 2)) (n := 2) (i := 0) (by decide) rfl).trans (congrArg some (mb_c3 (P := (P + 2)) (hL 2 (by decide))))) rfl (i := 0) (show vp_in (nI 0) 4 from vp_in_nI (by decide) (by decide)) dX4_init_46 (fun H locs S => ?_)
  rw [es_tc0] at S
  have S : mb_S D s (B + P) 4 ([(B + P, .inr (4, [.ref (B + P + 1), .int 24, .int 1])), (B + P + 1, .inl (cA 2, 4, .inr (.inr (.inr (.inr (va_up (fun _ => none) 0 (some (B + P + 2))))))))] ++ mb_b es_LC cA B mb_mu (P + 2) 2) H locs := S
  refine lv_iinc (v := 1) (lv' := [(1, .int 1), (0, .ref (B + P))]) hx hb dX4_init_47 hl (k := 0) rfl (by decide +kernel) (by decide) rfl (fun ls hl => ?_)
  refine lv_goto (tgt := 25) hx hb dX4_init_50 (by decide) ?_
  refine lv_iload_n hx hb dX4_init_25 rfl (lv_at hl 0 rfl) ?_
  refine lv_aload_n hx hb dX4_init_26 rfl (lv_at hl 1 rfl) ?_
  refine mb_get C S (ci := 4) (Cn := RX4) (T := TX4) (N := 3) 0 rfl rfl 0 (by decide) (show Cond.fieldLink RX4 11 "EtaSeries$Shelf" "rows" "[LEtaSeries$Row;" ∈ lw_tbl by decide +kernel) rfl dX4_init_27 ?_
  refine va_alen (v := 4) hx hb hK S.2.1 1 2 rfl (mz_ty_at (i := 2) rfl) (show Int32.ofNat 4 = 4 from rfl) dX4_init_30 ?_
  refine lv_icmp_ge (tgt := 53) hx hb dX4_init_31 (by decide) (fun q => absurd q (by decide +kernel)) (fun _ => ?_)
  refine lv_aload_n hx hb dX4_init_34 rfl (lv_at hl 1 rfl) ?_
  refine mb_get C S (ci := 4) (Cn := RX4) (T := TX4) (N := 3) 0 rfl rfl 0 (by decide) (show Cond.fieldLink RX4 11 "EtaSeries$Shelf" "rows" "[LEtaSeries$Row;" ∈ lw_tbl by decide +kernel) rfl dX4_init_35 ?_
  refine lv_iload_n hx hb dX4_init_38 rfl (lv_at hl 0 rfl) ?_
  refine mb_new C ha S (ci := 3) (Cn := RX3) (T := TX3) (fs := [.null, .int 0]) rfl (show Cond.classLink RX4 9 RX3 ∈ lw_tbl by decide +kernel) (show Cond.instantiable RX3 2 ∈ lw_tbl by decide +kernel) (show Cond.initialized RX3 ∈ lw_tbl by decide +kernel) tyX3 tyX3_ok (mb_df3) (Nat.le_of_ble_eq_true rfl) (Nat.le_of_ble_eq_true rfl) dX4_init_39 (fun H S => ?_)
  refine lv_dup hx hb dX4_init_42 rfl ?_
  refine mb_initN (ws := ([(B + P, .inr (4, [.ref (B + P + 1), .int 24, .int 1])), (B + P + 1, .inl (cA 2, 4, .inr (.inr (.inr (.inr (va_up (fun _ => none) 0 (some (B + P + 2))))))))] ++ mb_b es_LC cA B mb_mu (P + 2) 2)) (As := []) (rest := [.ref (B + P + 4), .int 1, .ref (B + P + 1)]) (np := 0) (rm := { frames := 1, cells := 1, slots := 40, locals := 30 }) (host := "EtaSeries") C hml hl.1 S (k_X3 (B := B) (P := (P + 4)) (h := B + P + 4) (by omega) (hL 4 (by decide)) (hL 5 (by decide))) (show Cond.code yX3_init cX3_init 1 none ∈ lw_tbl by decide +kernel) rfl rfl (show Cond.methodLinkNest RX4 24 yX3_init "EtaSeries" ∈ lw_tbl by decide +kernel) (show Cond.initialized RX3 ∈ lw_tbl by decide +kernel) (show Cond.instanceMethod yX3_init ∈ lw_tbl by decide +kernel) rfl (by decide +kernel) ⟨Nat.le_of_ble_eq_true rfl, Nat.le_of_ble_eq_true rfl⟩ rfl (Nat.le_of_ble_eq_true rfl) dX4_init_43 ⟨Nat.le_of_ble_eq_true rfl, Nat.le_of_ble_eq_true rfl⟩ (fun H locs S => ?_)
  have S : mb_S D s (B + P) 6 ([(B + P, .inr (4, [.ref (B + P + 1), .int 24, .int 1])), (B + P + 1, .inl (cA 2, 4, .inr (.inr (.inr (.inr (va_up (fun _ => none) 0 (some (B + P + 2))))))))] ++ mb_b es_LC cA B mb_mu (P + 2) 4) H locs := mb_S.glue S (by omega) rfl
  refine mb_aast C S (t0 := 2) (r := (RX3, TX3, 2)) 1 4 rfl rfl ((mb_at2 (hd := [(B + P, .inr (4, [.ref (B + P + 1), .int 24, .int 1])), (B + P + 1, .inl (cA 2, 4, .inr (.inr (.inr (.inr (va_up (fun _ => none) 0 (some (B + P + 2))))))))]) (lo := (P + 2)) (n := 4) (i := 2) (by decide) rfl).trans (congrArg some (mb_c3 (P := (P + 4)) (hL 4 (by decide))))) rfl (i := 1) (show vp_in (nI 1) 4 from vp_in_nI (by decide) (by decide)) dX4_init_46 (fun H locs S => ?_)
  rw [es_tc1] at S
  have S : mb_S D s (B + P) 6 ([(B + P, .inr (4, [.ref (B + P + 1), .int 24, .int 1])), (B + P + 1, .inl (cA 2, 4, .inr (.inr (.inr (.inr (va_up (va_up (fun _ => none) 0 (some (B + P + 2))) 1 (some (B + P + 4))))))))] ++ mb_b es_LC cA B mb_mu (P + 2) 4) H locs := S
  refine lv_iinc (v := 2) (lv' := [(1, .int 2), (0, .ref (B + P))]) hx hb dX4_init_47 hl (k := 0) rfl (by decide +kernel) (by decide) rfl (fun ls hl => ?_)
  refine lv_goto (tgt := 25) hx hb dX4_init_50 (by decide) ?_
  refine lv_iload_n hx hb dX4_init_25 rfl (lv_at hl 0 rfl) ?_
  refine lv_aload_n hx hb dX4_init_26 rfl (lv_at hl 1 rfl) ?_
  refine mb_get C S (ci := 4) (Cn := RX4) (T := TX4) (N := 3) 0 rfl rfl 0 (by decide) (show Cond.fieldLink RX4 11 "EtaSeries$Shelf" "rows" "[LEtaSeries$Row;" ∈ lw_tbl by decide +kernel) rfl dX4_init_27 ?_
  refine va_alen (v := 4) hx hb hK S.2.1 1 2 rfl (mz_ty_at (i := 2) rfl) (show Int32.ofNat 4 = 4 from rfl) dX4_init_30 ?_
  refine lv_icmp_ge (tgt := 53) hx hb dX4_init_31 (by decide) (fun q => absurd q (by decide +kernel)) (fun _ => ?_)
  refine lv_aload_n hx hb dX4_init_34 rfl (lv_at hl 1 rfl) ?_
  refine mb_get C S (ci := 4) (Cn := RX4) (T := TX4) (N := 3) 0 rfl rfl 0 (by decide) (show Cond.fieldLink RX4 11 "EtaSeries$Shelf" "rows" "[LEtaSeries$Row;" ∈ lw_tbl by decide +kernel) rfl dX4_init_35 ?_
  refine lv_iload_n hx hb dX4_init_38 rfl (lv_at hl 0 rfl) ?_
  refine mb_new C ha S (ci := 3) (Cn := RX3) (T := TX3) (fs := [.null, .int 0]) rfl (show Cond.classLink RX4 9 RX3 ∈ lw_tbl by decide +kernel) (show Cond.instantiable RX3 2 ∈ lw_tbl by decide +kernel) (show Cond.initialized RX3 ∈ lw_tbl by decide +kernel) tyX3 tyX3_ok (mb_df3) (Nat.le_of_ble_eq_true rfl) (Nat.le_of_ble_eq_true rfl) dX4_init_39 (fun H S => ?_)
  refine lv_dup hx hb dX4_init_42 rfl ?_
  refine mb_initN (ws := ([(B + P, .inr (4, [.ref (B + P + 1), .int 24, .int 1])), (B + P + 1, .inl (cA 2, 4, .inr (.inr (.inr (.inr (va_up (va_up (fun _ => none) 0 (some (B + P + 2))) 1 (some (B + P + 4))))))))] ++ mb_b es_LC cA B mb_mu (P + 2) 4)) (As := []) (rest := [.ref (B + P + 6), .int 2, .ref (B + P + 1)]) (np := 0) (rm := { frames := 1, cells := 1, slots := 40, locals := 30 }) (host := "EtaSeries") C hml hl.1 S (k_X3 (B := B) (P := (P + 6)) (h := B + P + 6) (by omega) (hL 6 (by decide)) (hL 7 (by decide))) (show Cond.code yX3_init cX3_init 1 none ∈ lw_tbl by decide +kernel) rfl rfl (show Cond.methodLinkNest RX4 24 yX3_init "EtaSeries" ∈ lw_tbl by decide +kernel) (show Cond.initialized RX3 ∈ lw_tbl by decide +kernel) (show Cond.instanceMethod yX3_init ∈ lw_tbl by decide +kernel) rfl (by decide +kernel) ⟨Nat.le_of_ble_eq_true rfl, Nat.le_of_ble_eq_true rfl⟩ rfl (Nat.le_of_ble_eq_true rfl) dX4_init_43 ⟨Nat.le_of_ble_eq_true rfl, Nat.le_of_ble_eq_true rfl⟩ (fun H locs S => ?_)
  have S : mb_S D s (B + P) 8 ([(B + P, .inr (4, [.ref (B + P + 1), .int 24, .int 1])), (B + P + 1, .inl (cA 2, 4, .inr (.inr (.inr (.inr (va_up (va_up (fun _ => none) 0 (some (B + P + 2))) 1 (some (B + P + 4))))))))] ++ mb_b es_LC cA B mb_mu (P + 2) 6) H locs := mb_S.glue S (by omega) rfl
  refine mb_aast C S (t0 := 2) (r := (RX3, TX3, 2)) 1 6 rfl rfl ((mb_at2 (hd := [(B + P, .inr (4, [.ref (B + P + 1), .int 24, .int 1])), (B + P + 1, .inl (cA 2, 4, .inr (.inr (.inr (.inr (va_up (va_up (fun _ => none) 0 (some (B + P + 2))) 1 (some (B + P + 4))))))))]) (lo := (P + 2)) (n := 6) (i := 4) (by decide) rfl).trans (congrArg some (mb_c3 (P := (P + 6)) (hL 6 (by decide))))) rfl (i := 2) (show vp_in (nI 2) 4 from vp_in_nI (by decide) (by decide)) dX4_init_46 (fun H locs S => ?_)
  rw [es_tc2] at S
  have S : mb_S D s (B + P) 8 ([(B + P, .inr (4, [.ref (B + P + 1), .int 24, .int 1])), (B + P + 1, .inl (cA 2, 4, .inr (.inr (.inr (.inr (va_up (va_up (va_up (fun _ => none) 0 (some (B + P + 2))) 1 (some (B + P + 4))) 2 (some (B + P + 6))))))))] ++ mb_b es_LC cA B mb_mu (P + 2) 6) H locs := S
  refine lv_iinc (v := 3) (lv' := [(1, .int 3), (0, .ref (B + P))]) hx hb dX4_init_47 hl (k := 0) rfl (by decide +kernel) (by decide) rfl (fun ls hl => ?_)
  refine lv_goto (tgt := 25) hx hb dX4_init_50 (by decide) ?_
  refine lv_iload_n hx hb dX4_init_25 rfl (lv_at hl 0 rfl) ?_
  refine lv_aload_n hx hb dX4_init_26 rfl (lv_at hl 1 rfl) ?_
  refine mb_get C S (ci := 4) (Cn := RX4) (T := TX4) (N := 3) 0 rfl rfl 0 (by decide) (show Cond.fieldLink RX4 11 "EtaSeries$Shelf" "rows" "[LEtaSeries$Row;" ∈ lw_tbl by decide +kernel) rfl dX4_init_27 ?_
  refine va_alen (v := 4) hx hb hK S.2.1 1 2 rfl (mz_ty_at (i := 2) rfl) (show Int32.ofNat 4 = 4 from rfl) dX4_init_30 ?_
  refine lv_icmp_ge (tgt := 53) hx hb dX4_init_31 (by decide) (fun q => absurd q (by decide +kernel)) (fun _ => ?_)
  refine lv_aload_n hx hb dX4_init_34 rfl (lv_at hl 1 rfl) ?_
  refine mb_get C S (ci := 4) (Cn := RX4) (T := TX4) (N := 3) 0 rfl rfl 0 (by decide) (show Cond.fieldLink RX4 11 "EtaSeries$Shelf" "rows" "[LEtaSeries$Row;" ∈ lw_tbl by decide +kernel) rfl dX4_init_35 ?_
  refine lv_iload_n hx hb dX4_init_38 rfl (lv_at hl 0 rfl) ?_
  refine mb_new C ha S (ci := 3) (Cn := RX3) (T := TX3) (fs := [.null, .int 0]) rfl (show Cond.classLink RX4 9 RX3 ∈ lw_tbl by decide +kernel) (show Cond.instantiable RX3 2 ∈ lw_tbl by decide +kernel) (show Cond.initialized RX3 ∈ lw_tbl by decide +kernel) tyX3 tyX3_ok (mb_df3) (Nat.le_of_ble_eq_true rfl) (Nat.le_of_ble_eq_true rfl) dX4_init_39 (fun H S => ?_)
  refine lv_dup hx hb dX4_init_42 rfl ?_
  refine mb_initN (ws := ([(B + P, .inr (4, [.ref (B + P + 1), .int 24, .int 1])), (B + P + 1, .inl (cA 2, 4, .inr (.inr (.inr (.inr (va_up (va_up (va_up (fun _ => none) 0 (some (B + P + 2))) 1 (some (B + P + 4))) 2 (some (B + P + 6))))))))] ++ mb_b es_LC cA B mb_mu (P + 2) 6)) (As := []) (rest := [.ref (B + P + 8), .int 3, .ref (B + P + 1)]) (np := 0) (rm := { frames := 1, cells := 1, slots := 40, locals := 30 }) (host := "EtaSeries") C hml hl.1 S (k_X3 (B := B) (P := (P + 8)) (h := B + P + 8) (by omega) (hL 8 (by decide)) (hL 9 (by decide))) (show Cond.code yX3_init cX3_init 1 none ∈ lw_tbl by decide +kernel) rfl rfl (show Cond.methodLinkNest RX4 24 yX3_init "EtaSeries" ∈ lw_tbl by decide +kernel) (show Cond.initialized RX3 ∈ lw_tbl by decide +kernel) (show Cond.instanceMethod yX3_init ∈ lw_tbl by decide +kernel) rfl (by decide +kernel) ⟨Nat.le_of_ble_eq_true rfl, Nat.le_of_ble_eq_true rfl⟩ rfl (Nat.le_of_ble_eq_true rfl) dX4_init_43 ⟨Nat.le_of_ble_eq_true rfl, Nat.le_of_ble_eq_true rfl⟩ (fun H locs S => ?_)
  have S : mb_S D s (B + P) 10 ([(B + P, .inr (4, [.ref (B + P + 1), .int 24, .int 1])), (B + P + 1, .inl (cA 2, 4, .inr (.inr (.inr (.inr (va_up (va_up (va_up (fun _ => none) 0 (some (B + P + 2))) 1 (some (B + P + 4))) 2 (some (B + P + 6))))))))] ++ mb_b es_LC cA B mb_mu (P + 2) 8) H locs := mb_S.glue S (by omega) rfl
  refine mb_aast C S (t0 := 2) (r := (RX3, TX3, 2)) 1 8 rfl rfl ((mb_at2 (hd := [(B + P, .inr (4, [.ref (B + P + 1), .int 24, .int 1])), (B + P + 1, .inl (cA 2, 4, .inr (.inr (.inr (.inr (va_up (va_up (va_up (fun _ => none) 0 (some (B + P + 2))) 1 (some (B + P + 4))) 2 (some (B + P + 6))))))))]) (lo := (P + 2)) (n := 8) (i := 6) (by decide) rfl).trans (congrArg some (mb_c3 (P := (P + 8)) (hL 8 (by decide))))) rfl (i := 3) (show vp_in (nI 3) 4 from vp_in_nI (by decide) (by decide)) dX4_init_46 (fun H locs S => ?_)
  rw [es_tc3] at S
  have S : mb_S D s (B + P) 10 ([(B + P, .inr (4, [.ref (B + P + 1), .int 24, .int 1])), (B + P + 1, .inl (cA 2, 4, .inr (.inr (.inr (.inr (va_up (va_up (va_up (va_up (fun _ => none) 0 (some (B + P + 2))) 1 (some (B + P + 4))) 2 (some (B + P + 6))) 3 (some (B + P + 8))))))))] ++ mb_b es_LC cA B mb_mu (P + 2) 8) H locs := S
  refine lv_iinc (v := 4) (lv' := [(1, .int 4), (0, .ref (B + P))]) hx hb dX4_init_47 hl (k := 0) rfl (by decide +kernel) (by decide) rfl (fun ls hl => ?_)
  refine lv_goto (tgt := 25) hx hb dX4_init_50 (by decide) ?_
  refine lv_iload_n hx hb dX4_init_25 rfl (lv_at hl 0 rfl) ?_
  refine lv_aload_n hx hb dX4_init_26 rfl (lv_at hl 1 rfl) ?_
  refine mb_get C S (ci := 4) (Cn := RX4) (T := TX4) (N := 3) 0 rfl rfl 0 (by decide) (show Cond.fieldLink RX4 11 "EtaSeries$Shelf" "rows" "[LEtaSeries$Row;" ∈ lw_tbl by decide +kernel) rfl dX4_init_27 ?_
  refine va_alen (v := 4) hx hb hK S.2.1 1 2 rfl (mz_ty_at (i := 2) rfl) (show Int32.ofNat 4 = 4 from rfl) dX4_init_30 ?_
  refine lv_icmp_ge (tgt := 53) hx hb dX4_init_31 (by decide) (fun _ => ?_) (fun q => absurd (by decide +kernel) q)
  refine mb_end C hr hlocks S ?_ mb_b_D (Nat.le_of_ble_eq_true rfl) (Nat.le_of_ble_eq_true rfl) dX4_init_53
  refine mb_P_of (fun q hq => ?_)
  obtain ⟨i, hi, rfl⟩ := mb_b_mem hq
  rcases (show i = 0 ∨ i = 1 ∨ 2 ≤ i by omega) with rfl | rfl | h2
  · rw [mb_c1 (P := P + 0) (hL 0 (by decide))]; exact S.2.1 0 _ rfl
  · rw [mb_c2 (P := P + 1) (hL 1 (by decide))]
    refine mb_arr (S.2.1 1 _ rfl) (fun j hj => ?_)
    rcases (show j = 0 ∨ j = 1 ∨ j = 2 ∨ j = 3 by omega) with rfl | rfl | rfl | rfl <;> rfl
  · exact mb_mem S.2.1 (List.mem_append_right _ (mb_in (by omega) (by omega)))
abbrev cX2_init : ByteArray := prog_4_method_1_code
def yX2_init : MethodName := ⟨RX2, "<init>", "()V"⟩
theorem dX2_init_0 : decode cX2_init 0 = .ok (.aload_n 0, 1) := by decide +kernel
theorem dX2_init_1 : decode cX2_init 1 = .ok (.invokespecial 3, 3) := by decide +kernel
theorem dX2_init_4 : decode cX2_init 4 = .ok (.aload_n 0, 1) := by decide +kernel
theorem dX2_init_5 : decode cX2_init 5 = .ok (.bipush 6, 2) := by decide +kernel
theorem dX2_init_7 : decode cX2_init 7 = .ok (.anewarray 9, 3) := by decide +kernel
theorem dX2_init_10 : decode cX2_init 10 = .ok (.putfield 11, 3) := by decide +kernel
theorem dX2_init_13 : decode cX2_init 13 = .ok (.aload_n 0, 1) := by decide +kernel
theorem dX2_init_14 : decode cX2_init 14 = .ok (.iconst 0, 1) := by decide +kernel
theorem dX2_init_15 : decode cX2_init 15 = .ok (.putfield 17, 3) := by decide +kernel
theorem dX2_init_18 : decode cX2_init 18 = .ok (.aload_n 0, 1) := by decide +kernel
theorem dX2_init_19 : decode cX2_init 19 = .ok (.iconst 0, 1) := by decide +kernel
theorem dX2_init_20 : decode cX2_init 20 = .ok (.putfield 21, 3) := by decide +kernel
theorem dX2_init_23 : decode cX2_init 23 = .ok (.iconst 0, 1) := by decide +kernel
theorem dX2_init_24 : decode cX2_init 24 = .ok (.istore_n 1, 1) := by decide +kernel
theorem dX2_init_25 : decode cX2_init 25 = .ok (.iload_n 1, 1) := by decide +kernel
theorem dX2_init_26 : decode cX2_init 26 = .ok (.aload_n 0, 1) := by decide +kernel
theorem dX2_init_27 : decode cX2_init 27 = .ok (.getfield 11, 3) := by decide +kernel
theorem dX2_init_30 : decode cX2_init 30 = .ok (.arraylength, 1) := by decide +kernel
theorem dX2_init_31 : decode cX2_init 31 = .ok (.if_icmp .ge 22, 3) := by decide +kernel
theorem dX2_init_34 : decode cX2_init 34 = .ok (.aload_n 0, 1) := by decide +kernel
theorem dX2_init_35 : decode cX2_init 35 = .ok (.getfield 11, 3) := by decide +kernel
theorem dX2_init_38 : decode cX2_init 38 = .ok (.iload_n 1, 1) := by decide +kernel
theorem dX2_init_39 : decode cX2_init 39 = .ok (.new 9, 3) := by decide +kernel
theorem dX2_init_42 : decode cX2_init 42 = .ok (.dup, 1) := by decide +kernel
theorem dX2_init_43 : decode cX2_init 43 = .ok (.invokespecial 24, 3) := by decide +kernel
theorem dX2_init_46 : decode cX2_init 46 = .ok (.aastore, 1) := by decide +kernel
theorem dX2_init_47 : decode cX2_init 47 = .ok (.iinc 1 1, 3) := by decide +kernel
theorem dX2_init_50 : decode cX2_init 50 = .ok (.goto (-25), 3) := by decide +kernel
theorem dX2_init_53 : decode cX2_init 53 = .ok (.return_, 1) := by decide +kernel
theorem mb_df2 : ∀ j, j < 3 → defaultValue (tyX2 j) = vp_V [.null, .int 0, .int 0] j := by
  intro j hj
  rcases (show j = 0 ∨ j = 1 ∨ j = 2 by omega) with rfl | rfl | rfl <;> rfl
set_option maxHeartbeats 4000000 in
set_option maxRecDepth 100000 in
theorem k_X2 {l : Launch} {D : va_G} {cA : Nat → ClassId} {B P h : Nat} (hh : h = B + P) (hL : ∀ i, i < 62 → es_LC.getD (P + i) 0 = mb_lp.getD i 0) : Met l yX2_init (mz_ws lw_tbl (mb_me yX2_init cX2_init 2)) { frames := 3, cells := 61, slots := 1056, locals := 90 } (mb_Pre D cA [.ref h] h 2 [.null, .int 0, .int 0]) (mb_Post D h 62 (mb_b es_LC cA B mb_mu P 62)) 61 1056 (fun q => h ≤ q) := by
  subst hh
  refine mb_ofW (by decide +kernel) rfl ?_
  intro p e s m below meth c C hin hml hr hlocks ha S
  obtain ⟨hx, hb, hown, gw, hK, hN, hO⟩ := id C
  have hl := lv_entry ([.ref (B + P)] : List Value) (n := 2) (Nat.le_of_ble_eq_true rfl)
  rw [lg_entry_eq]
  generalize (lg_sl ([.ref (B + P)] : List Value) ++ List.replicate (2 - (lg_sl ([.ref (B + P)] : List Value)).length) Slot.unset).toArray = ls at hl ⊢
  have hl : lv_has ls 2 [(0, .ref (B + P))] := hl
  generalize hH : s.heap = H at S ⊢
  generalize hlc : ([] : List Loc) = locs at S ⊢
  refine lv_aload_n hx hb dX2_init_0 rfl (lv_at hl 0 rfl) ?_
  refine W.objInit hx hb hown (gw _ (show Cond.methodLink RX2 3 Lib.objectInit ∈ lw_tbl by decide +kernel) rfl) (gw _ (show Cond.instanceMethod Lib.objectInit ∈ lw_tbl by decide +kernel) rfl) (gw _ (show Cond.code Lib.objectInit ⟨#[0xb1]⟩ 1 none ∈ lw_tbl by decide +kernel) rfl) rfl (by rw [hml]; exact hl.1) rfl dX2_init_1 (Nat.le_of_ble_eq_true rfl) (Nat.le_of_ble_eq_true rfl) ?_
  refine W.eq (g2 := F0 m 4 ls []) rfl ?_
  refine lv_aload_n hx hb dX2_init_4 rfl (lv_at hl 0 rfl) ?_
  refine lv_bipush (v := 6) hx hb dX2_init_5 (by decide +kernel) ?_
  refine mb_newq (N := 6) (t0 := 3) C ha S (show Cond.classLink RX2 9 RX4 ∈ lw_tbl by decide +kernel) hO.2.1 rfl (by decide +kernel) (by decide +kernel) (Nat.le_of_ble_eq_true rfl) (Nat.le_of_ble_eq_true rfl) (Nat.le_of_ble_eq_true rfl) dX2_init_7 (fun H S => ?_)
  have S : mb_S D s (B + P) 2 [(B + P, .inr (2, [.null, .int 0, .int 0])), (B + P + 1, .inl (cA 3, 6, .inr (.inr (.inr (.inr (fun _ => none))))))] H locs := S
  refine mb_putF C hin S (ci := 2) (Cn := RX2) (T := TX2) (N := 3) 0 rfl rfl 0 (by decide) (show Cond.fieldLink RX2 11 "EtaSeries$Past" "ring" "[LEtaSeries$Shelf;" ∈ lw_tbl by decide +kernel) rfl rfl (ty := (.array (.object "EtaSeries$Shelf"))) (by decide +kernel) rfl rfl (Nat.le_of_ble_eq_true rfl) dX2_init_10 (fun H locs S => ?_)
  have S : mb_S D s (B + P) 2 [(B + P, .inr (2, [.ref (B + P + 1), .int 0, .int 0])), (B + P + 1, .inl (cA 3, 6, .inr (.inr (.inr (.inr (fun _ => none))))))] H locs := S
  refine lv_aload_n hx hb dX2_init_13 rfl (lv_at hl 0 rfl) ?_
  refine lv_iconst (v := 0) hx hb dX2_init_14 (by decide +kernel) ?_
  refine mb_put C S (ci := 2) (Cn := RX2) (T := TX2) (N := 3) 0 rfl rfl 1 (by decide) (show Cond.fieldLink RX2 17 "EtaSeries$Past" "held" "I" ∈ lw_tbl by decide +kernel) rfl (ty := .int) (by decide +kernel) rfl rfl (Nat.le_of_ble_eq_true rfl) dX2_init_15 (fun H locs S => ?_)
  have S : mb_S D s (B + P) 2 [(B + P, .inr (2, [.ref (B + P + 1), .int 0, .int 0])), (B + P + 1, .inl (cA 3, 6, .inr (.inr (.inr (.inr (fun _ => none))))))] H locs := S
  refine lv_aload_n hx hb dX2_init_18 rfl (lv_at hl 0 rfl) ?_
  refine lv_iconst (v := 0) hx hb dX2_init_19 (by decide +kernel) ?_
  refine mb_put C S (ci := 2) (Cn := RX2) (T := TX2) (N := 3) 0 rfl rfl 2 (by decide) (show Cond.fieldLink RX2 21 "EtaSeries$Past" "next" "I" ∈ lw_tbl by decide +kernel) rfl (ty := .int) (by decide +kernel) rfl rfl (Nat.le_of_ble_eq_true rfl) dX2_init_20 (fun H locs S => ?_)
  have S : mb_S D s (B + P) 2 [(B + P, .inr (2, [.ref (B + P + 1), .int 0, .int 0])), (B + P + 1, .inl (cA 3, 6, .inr (.inr (.inr (.inr (fun _ => none))))))] H locs := S
  refine lv_iconst (v := 0) hx hb dX2_init_23 (by decide +kernel) ?_
  refine lv_istore_n (lv' := [(1, .int 0), (0, .ref (B + P))]) hx hb dX2_init_24 rfl hl (by decide) rfl (fun ls hl => ?_)
  refine lv_iload_n hx hb dX2_init_25 rfl (lv_at hl 0 rfl) ?_
  refine lv_aload_n hx hb dX2_init_26 rfl (lv_at hl 1 rfl) ?_
  refine mb_get C S (ci := 2) (Cn := RX2) (T := TX2) (N := 3) 0 rfl rfl 0 (by decide) (show Cond.fieldLink RX2 11 "EtaSeries$Past" "ring" "[LEtaSeries$Shelf;" ∈ lw_tbl by decide +kernel) rfl dX2_init_27 ?_
  refine va_alen (v := 6) hx hb hK S.2.1 1 3 rfl (mz_ty_at (i := 3) rfl) (show Int32.ofNat 6 = 6 from rfl) dX2_init_30 ?_
  refine lv_icmp_ge (tgt := 53) hx hb dX2_init_31 (by decide) (fun q => absurd q (by decide +kernel)) (fun _ => ?_)
  refine lv_aload_n hx hb dX2_init_34 rfl (lv_at hl 1 rfl) ?_
  refine mb_get C S (ci := 2) (Cn := RX2) (T := TX2) (N := 3) 0 rfl rfl 0 (by decide) (show Cond.fieldLink RX2 11 "EtaSeries$Past" "ring" "[LEtaSeries$Shelf;" ∈ lw_tbl by decide +kernel) rfl dX2_init_35 ?_
  refine lv_iload_n hx hb dX2_init_38 rfl (lv_at hl 0 rfl) ?_
  refine mb_new C ha S (ci := 4) (Cn := RX4) (T := TX4) (fs := [.null, .int 0, .int 0]) rfl (show Cond.classLink RX2 9 RX4 ∈ lw_tbl by decide +kernel) (show Cond.instantiable RX4 3 ∈ lw_tbl by decide +kernel) (show Cond.initialized RX4 ∈ lw_tbl by decide +kernel) tyX4 tyX4_ok (mb_df4) (Nat.le_of_ble_eq_true rfl) (Nat.le_of_ble_eq_true rfl) dX2_init_39 (fun H S => ?_)
  refine lv_dup hx hb dX2_init_42 rfl ?_
  refine mb_initN (ws := [(B + P, .inr (2, [.ref (B + P + 1), .int 0, .int 0])), (B + P + 1, .inl (cA 3, 6, .inr (.inr (.inr (.inr (fun _ => none))))))]) (As := []) (rest := [.ref (B + P + 2), .int 0, .ref (B + P + 1)]) (np := 0) (rm := { frames := 2, cells := 9, slots := 172, locals := 60 }) (host := "EtaSeries") C hml hl.1 S (k_X4 (B := B) (P := (P + 2)) (h := B + P + 2) (by omega) (fun i hi => (congrArg (fun z => es_LC.getD z 0) (Nat.add_assoc P 2 i)).trans ((hL (2 + i) (by omega)).trans (mb_lp_ls 0 i (by decide) hi)))) (show Cond.code yX4_init cX4_init 2 none ∈ lw_tbl by decide +kernel) rfl rfl (show Cond.methodLinkNest RX2 24 yX4_init "EtaSeries" ∈ lw_tbl by decide +kernel) (show Cond.initialized RX4 ∈ lw_tbl by decide +kernel) (show Cond.instanceMethod yX4_init ∈ lw_tbl by decide +kernel) rfl (by decide +kernel) ⟨Nat.le_of_ble_eq_true rfl, Nat.le_of_ble_eq_true rfl⟩ rfl (Nat.le_of_ble_eq_true rfl) dX2_init_43 ⟨Nat.le_of_ble_eq_true rfl, Nat.le_of_ble_eq_true rfl⟩ (fun H locs S => ?_)
  have S : mb_S D s (B + P) 12 ([(B + P, .inr (2, [.ref (B + P + 1), .int 0, .int 0])), (B + P + 1, .inl (cA 3, 6, .inr (.inr (.inr (.inr (fun _ => none))))))] ++ mb_b es_LC cA B mb_mu (P + 2) 10) H locs := S
  refine mb_aast C S (t0 := 3) (r := (RX4, TX4, 3)) 1 2 rfl rfl ((mb_at2 (hd := [(B + P, .inr (2, [.ref (B + P + 1), .int 0, .int 0])), (B + P + 1, .inl (cA 3, 6, .inr (.inr (.inr (.inr (fun _ => none))))))]) (lo := (P + 2)) (n := 10) (i := 0) (by decide) rfl).trans (congrArg some (mb_c1 (P := (P + 2)) (hL 2 (by decide))))) rfl (i := 0) (show vp_in (nI 0) 6 from vp_in_nI (by decide) (by decide)) dX2_init_46 (fun H locs S => ?_)
  rw [es_tc0] at S
  have S : mb_S D s (B + P) 12 ([(B + P, .inr (2, [.ref (B + P + 1), .int 0, .int 0])), (B + P + 1, .inl (cA 3, 6, .inr (.inr (.inr (.inr (va_up (fun _ => none) 0 (some (B + P + 2))))))))] ++ mb_b es_LC cA B mb_mu (P + 2) 10) H locs := S
  refine lv_iinc (v := 1) (lv' := [(1, .int 1), (0, .ref (B + P))]) hx hb dX2_init_47 hl (k := 0) rfl (by decide +kernel) (by decide) rfl (fun ls hl => ?_)
  refine lv_goto (tgt := 25) hx hb dX2_init_50 (by decide) ?_
  refine lv_iload_n hx hb dX2_init_25 rfl (lv_at hl 0 rfl) ?_
  refine lv_aload_n hx hb dX2_init_26 rfl (lv_at hl 1 rfl) ?_
  refine mb_get C S (ci := 2) (Cn := RX2) (T := TX2) (N := 3) 0 rfl rfl 0 (by decide) (show Cond.fieldLink RX2 11 "EtaSeries$Past" "ring" "[LEtaSeries$Shelf;" ∈ lw_tbl by decide +kernel) rfl dX2_init_27 ?_
  refine va_alen (v := 6) hx hb hK S.2.1 1 3 rfl (mz_ty_at (i := 3) rfl) (show Int32.ofNat 6 = 6 from rfl) dX2_init_30 ?_
  refine lv_icmp_ge (tgt := 53) hx hb dX2_init_31 (by decide) (fun q => absurd q (by decide +kernel)) (fun _ => ?_)
  refine lv_aload_n hx hb dX2_init_34 rfl (lv_at hl 1 rfl) ?_
  refine mb_get C S (ci := 2) (Cn := RX2) (T := TX2) (N := 3) 0 rfl rfl 0 (by decide) (show Cond.fieldLink RX2 11 "EtaSeries$Past" "ring" "[LEtaSeries$Shelf;" ∈ lw_tbl by decide +kernel) rfl dX2_init_35 ?_
  refine lv_iload_n hx hb dX2_init_38 rfl (lv_at hl 0 rfl) ?_
  refine mb_new C ha S (ci := 4) (Cn := RX4) (T := TX4) (fs := [.null, .int 0, .int 0]) rfl (show Cond.classLink RX2 9 RX4 ∈ lw_tbl by decide +kernel) (show Cond.instantiable RX4 3 ∈ lw_tbl by decide +kernel) (show Cond.initialized RX4 ∈ lw_tbl by decide +kernel) tyX4 tyX4_ok (mb_df4) (Nat.le_of_ble_eq_true rfl) (Nat.le_of_ble_eq_true rfl) dX2_init_39 (fun H S => ?_)
  refine lv_dup hx hb dX2_init_42 rfl ?_
  refine mb_initN (ws := ([(B + P, .inr (2, [.ref (B + P + 1), .int 0, .int 0])), (B + P + 1, .inl (cA 3, 6, .inr (.inr (.inr (.inr (va_up (fun _ => none) 0 (some (B + P + 2))))))))] ++ mb_b es_LC cA B mb_mu (P + 2) 10)) (As := []) (rest := [.ref (B + P + 12), .int 1, .ref (B + P + 1)]) (np := 0) (rm := { frames := 2, cells := 9, slots := 172, locals := 60 }) (host := "EtaSeries") C hml hl.1 S (k_X4 (B := B) (P := (P + 12)) (h := B + P + 12) (by omega) (fun i hi => (congrArg (fun z => es_LC.getD z 0) (Nat.add_assoc P 12 i)).trans ((hL (12 + i) (by omega)).trans (mb_lp_ls 1 i (by decide) hi)))) (show Cond.code yX4_init cX4_init 2 none ∈ lw_tbl by decide +kernel) rfl rfl (show Cond.methodLinkNest RX2 24 yX4_init "EtaSeries" ∈ lw_tbl by decide +kernel) (show Cond.initialized RX4 ∈ lw_tbl by decide +kernel) (show Cond.instanceMethod yX4_init ∈ lw_tbl by decide +kernel) rfl (by decide +kernel) ⟨Nat.le_of_ble_eq_true rfl, Nat.le_of_ble_eq_true rfl⟩ rfl (Nat.le_of_ble_eq_true rfl) dX2_init_43 ⟨Nat.le_of_ble_eq_true rfl, Nat.le_of_ble_eq_true rfl⟩ (fun H locs S => ?_)
  have S : mb_S D s (B + P) 22 ([(B + P, .inr (2, [.ref (B + P + 1), .int 0, .int 0])), (B + P + 1, .inl (cA 3, 6, .inr (.inr (.inr (.inr (va_up (fun _ => none) 0 (some (B + P + 2))))))))] ++ mb_b es_LC cA B mb_mu (P + 2) 20) H locs := mb_S.glue S (by omega) rfl
  refine mb_aast C S (t0 := 3) (r := (RX4, TX4, 3)) 1 12 rfl rfl ((mb_at2 (hd := [(B + P, .inr (2, [.ref (B + P + 1), .int 0, .int 0])), (B + P + 1, .inl (cA 3, 6, .inr (.inr (.inr (.inr (va_up (fun _ => none) 0 (some (B + P + 2))))))))]) (lo := (P + 2)) (n := 20) (i := 10) (by decide) rfl).trans (congrArg some (mb_c1 (P := (P + 12)) (hL 12 (by decide))))) rfl (i := 1) (show vp_in (nI 1) 6 from vp_in_nI (by decide) (by decide)) dX2_init_46 (fun H locs S => ?_)
  rw [es_tc1] at S
  have S : mb_S D s (B + P) 22 ([(B + P, .inr (2, [.ref (B + P + 1), .int 0, .int 0])), (B + P + 1, .inl (cA 3, 6, .inr (.inr (.inr (.inr (va_up (va_up (fun _ => none) 0 (some (B + P + 2))) 1 (some (B + P + 12))))))))] ++ mb_b es_LC cA B mb_mu (P + 2) 20) H locs := S
  refine lv_iinc (v := 2) (lv' := [(1, .int 2), (0, .ref (B + P))]) hx hb dX2_init_47 hl (k := 0) rfl (by decide +kernel) (by decide) rfl (fun ls hl => ?_)
  refine lv_goto (tgt := 25) hx hb dX2_init_50 (by decide) ?_
  refine lv_iload_n hx hb dX2_init_25 rfl (lv_at hl 0 rfl) ?_
  refine lv_aload_n hx hb dX2_init_26 rfl (lv_at hl 1 rfl) ?_
  refine mb_get C S (ci := 2) (Cn := RX2) (T := TX2) (N := 3) 0 rfl rfl 0 (by decide) (show Cond.fieldLink RX2 11 "EtaSeries$Past" "ring" "[LEtaSeries$Shelf;" ∈ lw_tbl by decide +kernel) rfl dX2_init_27 ?_
  refine va_alen (v := 6) hx hb hK S.2.1 1 3 rfl (mz_ty_at (i := 3) rfl) (show Int32.ofNat 6 = 6 from rfl) dX2_init_30 ?_
  refine lv_icmp_ge (tgt := 53) hx hb dX2_init_31 (by decide) (fun q => absurd q (by decide +kernel)) (fun _ => ?_)
  refine lv_aload_n hx hb dX2_init_34 rfl (lv_at hl 1 rfl) ?_
  refine mb_get C S (ci := 2) (Cn := RX2) (T := TX2) (N := 3) 0 rfl rfl 0 (by decide) (show Cond.fieldLink RX2 11 "EtaSeries$Past" "ring" "[LEtaSeries$Shelf;" ∈ lw_tbl by decide +kernel) rfl dX2_init_35 ?_
  refine lv_iload_n hx hb dX2_init_38 rfl (lv_at hl 0 rfl) ?_
  refine mb_new C ha S (ci := 4) (Cn := RX4) (T := TX4) (fs := [.null, .int 0, .int 0]) rfl (show Cond.classLink RX2 9 RX4 ∈ lw_tbl by decide +kernel) (show Cond.instantiable RX4 3 ∈ lw_tbl by decide +kernel) (show Cond.initialized RX4 ∈ lw_tbl by decide +kernel) tyX4 tyX4_ok (mb_df4) (Nat.le_of_ble_eq_true rfl) (Nat.le_of_ble_eq_true rfl) dX2_init_39 (fun H S => ?_)
  refine lv_dup hx hb dX2_init_42 rfl ?_
  refine mb_initN (ws := ([(B + P, .inr (2, [.ref (B + P + 1), .int 0, .int 0])), (B + P + 1, .inl (cA 3, 6, .inr (.inr (.inr (.inr (va_up (va_up (fun _ => none) 0 (some (B + P + 2))) 1 (some (B + P + 12))))))))] ++ mb_b es_LC cA B mb_mu (P + 2) 20)) (As := []) (rest := [.ref (B + P + 22), .int 2, .ref (B + P + 1)]) (np := 0) (rm := { frames := 2, cells := 9, slots := 172, locals := 60 }) (host := "EtaSeries") C hml hl.1 S (k_X4 (B := B) (P := (P + 22)) (h := B + P + 22) (by omega) (fun i hi => (congrArg (fun z => es_LC.getD z 0) (Nat.add_assoc P 22 i)).trans ((hL (22 + i) (by omega)).trans (mb_lp_ls 2 i (by decide) hi)))) (show Cond.code yX4_init cX4_init 2 none ∈ lw_tbl by decide +kernel) rfl rfl (show Cond.methodLinkNest RX2 24 yX4_init "EtaSeries" ∈ lw_tbl by decide +kernel) (show Cond.initialized RX4 ∈ lw_tbl by decide +kernel) (show Cond.instanceMethod yX4_init ∈ lw_tbl by decide +kernel) rfl (by decide +kernel) ⟨Nat.le_of_ble_eq_true rfl, Nat.le_of_ble_eq_true rfl⟩ rfl (Nat.le_of_ble_eq_true rfl) dX2_init_43 ⟨Nat.le_of_ble_eq_true rfl, Nat.le_of_ble_eq_true rfl⟩ (fun H locs S => ?_)
  have S : mb_S D s (B + P) 32 ([(B + P, .inr (2, [.ref (B + P + 1), .int 0, .int 0])), (B + P + 1, .inl (cA 3, 6, .inr (.inr (.inr (.inr (va_up (va_up (fun _ => none) 0 (some (B + P + 2))) 1 (some (B + P + 12))))))))] ++ mb_b es_LC cA B mb_mu (P + 2) 30) H locs := mb_S.glue S (by omega) rfl
  refine mb_aast C S (t0 := 3) (r := (RX4, TX4, 3)) 1 22 rfl rfl ((mb_at2 (hd := [(B + P, .inr (2, [.ref (B + P + 1), .int 0, .int 0])), (B + P + 1, .inl (cA 3, 6, .inr (.inr (.inr (.inr (va_up (va_up (fun _ => none) 0 (some (B + P + 2))) 1 (some (B + P + 12))))))))]) (lo := (P + 2)) (n := 30) (i := 20) (by decide) rfl).trans (congrArg some (mb_c1 (P := (P + 22)) (hL 22 (by decide))))) rfl (i := 2) (show vp_in (nI 2) 6 from vp_in_nI (by decide) (by decide)) dX2_init_46 (fun H locs S => ?_)
  rw [es_tc2] at S
  have S : mb_S D s (B + P) 32 ([(B + P, .inr (2, [.ref (B + P + 1), .int 0, .int 0])), (B + P + 1, .inl (cA 3, 6, .inr (.inr (.inr (.inr (va_up (va_up (va_up (fun _ => none) 0 (some (B + P + 2))) 1 (some (B + P + 12))) 2 (some (B + P + 22))))))))] ++ mb_b es_LC cA B mb_mu (P + 2) 30) H locs := S
  refine lv_iinc (v := 3) (lv' := [(1, .int 3), (0, .ref (B + P))]) hx hb dX2_init_47 hl (k := 0) rfl (by decide +kernel) (by decide) rfl (fun ls hl => ?_)
  refine lv_goto (tgt := 25) hx hb dX2_init_50 (by decide) ?_
  refine lv_iload_n hx hb dX2_init_25 rfl (lv_at hl 0 rfl) ?_
  refine lv_aload_n hx hb dX2_init_26 rfl (lv_at hl 1 rfl) ?_
  refine mb_get C S (ci := 2) (Cn := RX2) (T := TX2) (N := 3) 0 rfl rfl 0 (by decide) (show Cond.fieldLink RX2 11 "EtaSeries$Past" "ring" "[LEtaSeries$Shelf;" ∈ lw_tbl by decide +kernel) rfl dX2_init_27 ?_
  refine va_alen (v := 6) hx hb hK S.2.1 1 3 rfl (mz_ty_at (i := 3) rfl) (show Int32.ofNat 6 = 6 from rfl) dX2_init_30 ?_
  refine lv_icmp_ge (tgt := 53) hx hb dX2_init_31 (by decide) (fun q => absurd q (by decide +kernel)) (fun _ => ?_)
  refine lv_aload_n hx hb dX2_init_34 rfl (lv_at hl 1 rfl) ?_
  refine mb_get C S (ci := 2) (Cn := RX2) (T := TX2) (N := 3) 0 rfl rfl 0 (by decide) (show Cond.fieldLink RX2 11 "EtaSeries$Past" "ring" "[LEtaSeries$Shelf;" ∈ lw_tbl by decide +kernel) rfl dX2_init_35 ?_
  refine lv_iload_n hx hb dX2_init_38 rfl (lv_at hl 0 rfl) ?_
  refine mb_new C ha S (ci := 4) (Cn := RX4) (T := TX4) (fs := [.null, .int 0, .int 0]) rfl (show Cond.classLink RX2 9 RX4 ∈ lw_tbl by decide +kernel) (show Cond.instantiable RX4 3 ∈ lw_tbl by decide +kernel) (show Cond.initialized RX4 ∈ lw_tbl by decide +kernel) tyX4 tyX4_ok (mb_df4) (Nat.le_of_ble_eq_true rfl) (Nat.le_of_ble_eq_true rfl) dX2_init_39 (fun H S => ?_)
  refine lv_dup hx hb dX2_init_42 rfl ?_
  refine mb_initN (ws := ([(B + P, .inr (2, [.ref (B + P + 1), .int 0, .int 0])), (B + P + 1, .inl (cA 3, 6, .inr (.inr (.inr (.inr (va_up (va_up (va_up (fun _ => none) 0 (some (B + P + 2))) 1 (some (B + P + 12))) 2 (some (B + P + 22))))))))] ++ mb_b es_LC cA B mb_mu (P + 2) 30)) (As := []) (rest := [.ref (B + P + 32), .int 3, .ref (B + P + 1)]) (np := 0) (rm := { frames := 2, cells := 9, slots := 172, locals := 60 }) (host := "EtaSeries") C hml hl.1 S (k_X4 (B := B) (P := (P + 32)) (h := B + P + 32) (by omega) (fun i hi => (congrArg (fun z => es_LC.getD z 0) (Nat.add_assoc P 32 i)).trans ((hL (32 + i) (by omega)).trans (mb_lp_ls 3 i (by decide) hi)))) (show Cond.code yX4_init cX4_init 2 none ∈ lw_tbl by decide +kernel) rfl rfl (show Cond.methodLinkNest RX2 24 yX4_init "EtaSeries" ∈ lw_tbl by decide +kernel) (show Cond.initialized RX4 ∈ lw_tbl by decide +kernel) (show Cond.instanceMethod yX4_init ∈ lw_tbl by decide +kernel) rfl (by decide +kernel) ⟨Nat.le_of_ble_eq_true rfl, Nat.le_of_ble_eq_true rfl⟩ rfl (Nat.le_of_ble_eq_true rfl) dX2_init_43 ⟨Nat.le_of_ble_eq_true rfl, Nat.le_of_ble_eq_true rfl⟩ (fun H locs S => ?_)
  have S : mb_S D s (B + P) 42 ([(B + P, .inr (2, [.ref (B + P + 1), .int 0, .int 0])), (B + P + 1, .inl (cA 3, 6, .inr (.inr (.inr (.inr (va_up (va_up (va_up (fun _ => none) 0 (some (B + P + 2))) 1 (some (B + P + 12))) 2 (some (B + P + 22))))))))] ++ mb_b es_LC cA B mb_mu (P + 2) 40) H locs := mb_S.glue S (by omega) rfl
  refine mb_aast C S (t0 := 3) (r := (RX4, TX4, 3)) 1 32 rfl rfl ((mb_at2 (hd := [(B + P, .inr (2, [.ref (B + P + 1), .int 0, .int 0])), (B + P + 1, .inl (cA 3, 6, .inr (.inr (.inr (.inr (va_up (va_up (va_up (fun _ => none) 0 (some (B + P + 2))) 1 (some (B + P + 12))) 2 (some (B + P + 22))))))))]) (lo := (P + 2)) (n := 40) (i := 30) (by decide) rfl).trans (congrArg some (mb_c1 (P := (P + 32)) (hL 32 (by decide))))) rfl (i := 3) (show vp_in (nI 3) 6 from vp_in_nI (by decide) (by decide)) dX2_init_46 (fun H locs S => ?_)
  rw [es_tc3] at S
  have S : mb_S D s (B + P) 42 ([(B + P, .inr (2, [.ref (B + P + 1), .int 0, .int 0])), (B + P + 1, .inl (cA 3, 6, .inr (.inr (.inr (.inr (va_up (va_up (va_up (va_up (fun _ => none) 0 (some (B + P + 2))) 1 (some (B + P + 12))) 2 (some (B + P + 22))) 3 (some (B + P + 32))))))))] ++ mb_b es_LC cA B mb_mu (P + 2) 40) H locs := S
  refine lv_iinc (v := 4) (lv' := [(1, .int 4), (0, .ref (B + P))]) hx hb dX2_init_47 hl (k := 0) rfl (by decide +kernel) (by decide) rfl (fun ls hl => ?_)
  refine lv_goto (tgt := 25) hx hb dX2_init_50 (by decide) ?_
  refine lv_iload_n hx hb dX2_init_25 rfl (lv_at hl 0 rfl) ?_
  refine lv_aload_n hx hb dX2_init_26 rfl (lv_at hl 1 rfl) ?_
  refine mb_get C S (ci := 2) (Cn := RX2) (T := TX2) (N := 3) 0 rfl rfl 0 (by decide) (show Cond.fieldLink RX2 11 "EtaSeries$Past" "ring" "[LEtaSeries$Shelf;" ∈ lw_tbl by decide +kernel) rfl dX2_init_27 ?_
  refine va_alen (v := 6) hx hb hK S.2.1 1 3 rfl (mz_ty_at (i := 3) rfl) (show Int32.ofNat 6 = 6 from rfl) dX2_init_30 ?_
  refine lv_icmp_ge (tgt := 53) hx hb dX2_init_31 (by decide) (fun q => absurd q (by decide +kernel)) (fun _ => ?_)
  refine lv_aload_n hx hb dX2_init_34 rfl (lv_at hl 1 rfl) ?_
  refine mb_get C S (ci := 2) (Cn := RX2) (T := TX2) (N := 3) 0 rfl rfl 0 (by decide) (show Cond.fieldLink RX2 11 "EtaSeries$Past" "ring" "[LEtaSeries$Shelf;" ∈ lw_tbl by decide +kernel) rfl dX2_init_35 ?_
  refine lv_iload_n hx hb dX2_init_38 rfl (lv_at hl 0 rfl) ?_
  refine mb_new C ha S (ci := 4) (Cn := RX4) (T := TX4) (fs := [.null, .int 0, .int 0]) rfl (show Cond.classLink RX2 9 RX4 ∈ lw_tbl by decide +kernel) (show Cond.instantiable RX4 3 ∈ lw_tbl by decide +kernel) (show Cond.initialized RX4 ∈ lw_tbl by decide +kernel) tyX4 tyX4_ok (mb_df4) (Nat.le_of_ble_eq_true rfl) (Nat.le_of_ble_eq_true rfl) dX2_init_39 (fun H S => ?_)
  refine lv_dup hx hb dX2_init_42 rfl ?_
  refine mb_initN (ws := ([(B + P, .inr (2, [.ref (B + P + 1), .int 0, .int 0])), (B + P + 1, .inl (cA 3, 6, .inr (.inr (.inr (.inr (va_up (va_up (va_up (va_up (fun _ => none) 0 (some (B + P + 2))) 1 (some (B + P + 12))) 2 (some (B + P + 22))) 3 (some (B + P + 32))))))))] ++ mb_b es_LC cA B mb_mu (P + 2) 40)) (As := []) (rest := [.ref (B + P + 42), .int 4, .ref (B + P + 1)]) (np := 0) (rm := { frames := 2, cells := 9, slots := 172, locals := 60 }) (host := "EtaSeries") C hml hl.1 S (k_X4 (B := B) (P := (P + 42)) (h := B + P + 42) (by omega) (fun i hi => (congrArg (fun z => es_LC.getD z 0) (Nat.add_assoc P 42 i)).trans ((hL (42 + i) (by omega)).trans (mb_lp_ls 4 i (by decide) hi)))) (show Cond.code yX4_init cX4_init 2 none ∈ lw_tbl by decide +kernel) rfl rfl (show Cond.methodLinkNest RX2 24 yX4_init "EtaSeries" ∈ lw_tbl by decide +kernel) (show Cond.initialized RX4 ∈ lw_tbl by decide +kernel) (show Cond.instanceMethod yX4_init ∈ lw_tbl by decide +kernel) rfl (by decide +kernel) ⟨Nat.le_of_ble_eq_true rfl, Nat.le_of_ble_eq_true rfl⟩ rfl (Nat.le_of_ble_eq_true rfl) dX2_init_43 ⟨Nat.le_of_ble_eq_true rfl, Nat.le_of_ble_eq_true rfl⟩ (fun H locs S => ?_)
  have S : mb_S D s (B + P) 52 ([(B + P, .inr (2, [.ref (B + P + 1), .int 0, .int 0])), (B + P + 1, .inl (cA 3, 6, .inr (.inr (.inr (.inr (va_up (va_up (va_up (va_up (fun _ => none) 0 (some (B + P + 2))) 1 (some (B + P + 12))) 2 (some (B + P + 22))) 3 (some (B + P + 32))))))))] ++ mb_b es_LC cA B mb_mu (P + 2) 50) H locs := mb_S.glue S (by omega) rfl
  refine mb_aast C S (t0 := 3) (r := (RX4, TX4, 3)) 1 42 rfl rfl ((mb_at2 (hd := [(B + P, .inr (2, [.ref (B + P + 1), .int 0, .int 0])), (B + P + 1, .inl (cA 3, 6, .inr (.inr (.inr (.inr (va_up (va_up (va_up (va_up (fun _ => none) 0 (some (B + P + 2))) 1 (some (B + P + 12))) 2 (some (B + P + 22))) 3 (some (B + P + 32))))))))]) (lo := (P + 2)) (n := 50) (i := 40) (by decide) rfl).trans (congrArg some (mb_c1 (P := (P + 42)) (hL 42 (by decide))))) rfl (i := 4) (show vp_in (nI 4) 6 from vp_in_nI (by decide) (by decide)) dX2_init_46 (fun H locs S => ?_)
  rw [es_tc4] at S
  have S : mb_S D s (B + P) 52 ([(B + P, .inr (2, [.ref (B + P + 1), .int 0, .int 0])), (B + P + 1, .inl (cA 3, 6, .inr (.inr (.inr (.inr (va_up (va_up (va_up (va_up (va_up (fun _ => none) 0 (some (B + P + 2))) 1 (some (B + P + 12))) 2 (some (B + P + 22))) 3 (some (B + P + 32))) 4 (some (B + P + 42))))))))] ++ mb_b es_LC cA B mb_mu (P + 2) 50) H locs := S
  refine lv_iinc (v := 5) (lv' := [(1, .int 5), (0, .ref (B + P))]) hx hb dX2_init_47 hl (k := 0) rfl (by decide +kernel) (by decide) rfl (fun ls hl => ?_)
  refine lv_goto (tgt := 25) hx hb dX2_init_50 (by decide) ?_
  refine lv_iload_n hx hb dX2_init_25 rfl (lv_at hl 0 rfl) ?_
  refine lv_aload_n hx hb dX2_init_26 rfl (lv_at hl 1 rfl) ?_
  refine mb_get C S (ci := 2) (Cn := RX2) (T := TX2) (N := 3) 0 rfl rfl 0 (by decide) (show Cond.fieldLink RX2 11 "EtaSeries$Past" "ring" "[LEtaSeries$Shelf;" ∈ lw_tbl by decide +kernel) rfl dX2_init_27 ?_
  refine va_alen (v := 6) hx hb hK S.2.1 1 3 rfl (mz_ty_at (i := 3) rfl) (show Int32.ofNat 6 = 6 from rfl) dX2_init_30 ?_
  refine lv_icmp_ge (tgt := 53) hx hb dX2_init_31 (by decide) (fun q => absurd q (by decide +kernel)) (fun _ => ?_)
  refine lv_aload_n hx hb dX2_init_34 rfl (lv_at hl 1 rfl) ?_
  refine mb_get C S (ci := 2) (Cn := RX2) (T := TX2) (N := 3) 0 rfl rfl 0 (by decide) (show Cond.fieldLink RX2 11 "EtaSeries$Past" "ring" "[LEtaSeries$Shelf;" ∈ lw_tbl by decide +kernel) rfl dX2_init_35 ?_
  refine lv_iload_n hx hb dX2_init_38 rfl (lv_at hl 0 rfl) ?_
  refine mb_new C ha S (ci := 4) (Cn := RX4) (T := TX4) (fs := [.null, .int 0, .int 0]) rfl (show Cond.classLink RX2 9 RX4 ∈ lw_tbl by decide +kernel) (show Cond.instantiable RX4 3 ∈ lw_tbl by decide +kernel) (show Cond.initialized RX4 ∈ lw_tbl by decide +kernel) tyX4 tyX4_ok (mb_df4) (Nat.le_of_ble_eq_true rfl) (Nat.le_of_ble_eq_true rfl) dX2_init_39 (fun H S => ?_)
  refine lv_dup hx hb dX2_init_42 rfl ?_
  refine mb_initN (ws := ([(B + P, .inr (2, [.ref (B + P + 1), .int 0, .int 0])), (B + P + 1, .inl (cA 3, 6, .inr (.inr (.inr (.inr (va_up (va_up (va_up (va_up (va_up (fun _ => none) 0 (some (B + P + 2))) 1 (some (B + P + 12))) 2 (some (B + P + 22))) 3 (some (B + P + 32))) 4 (some (B + P + 42))))))))] ++ mb_b es_LC cA B mb_mu (P + 2) 50)) (As := []) (rest := [.ref (B + P + 52), .int 5, .ref (B + P + 1)]) (np := 0) (rm := { frames := 2, cells := 9, slots := 172, locals := 60 }) (host := "EtaSeries") C hml hl.1 S (k_X4 (B := B) (P := (P + 52)) (h := B + P + 52) (by omega) (fun i hi => (congrArg (fun z => es_LC.getD z 0) (Nat.add_assoc P 52 i)).trans ((hL (52 + i) (by omega)).trans (mb_lp_ls 5 i (by decide) hi)))) (show Cond.code yX4_init cX4_init 2 none ∈ lw_tbl by decide +kernel) rfl rfl (show Cond.methodLinkNest RX2 24 yX4_init "EtaSeries" ∈ lw_tbl by decide +kernel) (show Cond.initialized RX4 ∈ lw_tbl by decide +kernel) (show Cond.instanceMethod yX4_init ∈ lw_tbl by decide +kernel) rfl (by decide +kernel) ⟨Nat.le_of_ble_eq_true rfl, Nat.le_of_ble_eq_true rfl⟩ rfl (Nat.le_of_ble_eq_true rfl) dX2_init_43 ⟨Nat.le_of_ble_eq_true rfl, Nat.le_of_ble_eq_true rfl⟩ (fun H locs S => ?_)
  have S : mb_S D s (B + P) 62 ([(B + P, .inr (2, [.ref (B + P + 1), .int 0, .int 0])), (B + P + 1, .inl (cA 3, 6, .inr (.inr (.inr (.inr (va_up (va_up (va_up (va_up (va_up (fun _ => none) 0 (some (B + P + 2))) 1 (some (B + P + 12))) 2 (some (B + P + 22))) 3 (some (B + P + 32))) 4 (some (B + P + 42))))))))] ++ mb_b es_LC cA B mb_mu (P + 2) 60) H locs := mb_S.glue S (by omega) rfl
  refine mb_aast C S (t0 := 3) (r := (RX4, TX4, 3)) 1 52 rfl rfl ((mb_at2 (hd := [(B + P, .inr (2, [.ref (B + P + 1), .int 0, .int 0])), (B + P + 1, .inl (cA 3, 6, .inr (.inr (.inr (.inr (va_up (va_up (va_up (va_up (va_up (fun _ => none) 0 (some (B + P + 2))) 1 (some (B + P + 12))) 2 (some (B + P + 22))) 3 (some (B + P + 32))) 4 (some (B + P + 42))))))))]) (lo := (P + 2)) (n := 60) (i := 50) (by decide) rfl).trans (congrArg some (mb_c1 (P := (P + 52)) (hL 52 (by decide))))) rfl (i := 5) (show vp_in (nI 5) 6 from vp_in_nI (by decide) (by decide)) dX2_init_46 (fun H locs S => ?_)
  rw [es_tc5] at S
  have S : mb_S D s (B + P) 62 ([(B + P, .inr (2, [.ref (B + P + 1), .int 0, .int 0])), (B + P + 1, .inl (cA 3, 6, .inr (.inr (.inr (.inr (va_up (va_up (va_up (va_up (va_up (va_up (fun _ => none) 0 (some (B + P + 2))) 1 (some (B + P + 12))) 2 (some (B + P + 22))) 3 (some (B + P + 32))) 4 (some (B + P + 42))) 5 (some (B + P + 52))))))))] ++ mb_b es_LC cA B mb_mu (P + 2) 60) H locs := S
  refine lv_iinc (v := 6) (lv' := [(1, .int 6), (0, .ref (B + P))]) hx hb dX2_init_47 hl (k := 0) rfl (by decide +kernel) (by decide) rfl (fun ls hl => ?_)
  refine lv_goto (tgt := 25) hx hb dX2_init_50 (by decide) ?_
  refine lv_iload_n hx hb dX2_init_25 rfl (lv_at hl 0 rfl) ?_
  refine lv_aload_n hx hb dX2_init_26 rfl (lv_at hl 1 rfl) ?_
  refine mb_get C S (ci := 2) (Cn := RX2) (T := TX2) (N := 3) 0 rfl rfl 0 (by decide) (show Cond.fieldLink RX2 11 "EtaSeries$Past" "ring" "[LEtaSeries$Shelf;" ∈ lw_tbl by decide +kernel) rfl dX2_init_27 ?_
  refine va_alen (v := 6) hx hb hK S.2.1 1 3 rfl (mz_ty_at (i := 3) rfl) (show Int32.ofNat 6 = 6 from rfl) dX2_init_30 ?_
  refine lv_icmp_ge (tgt := 53) hx hb dX2_init_31 (by decide) (fun _ => ?_) (fun q => absurd (by decide +kernel) q)
  refine mb_end C hr hlocks S ?_ mb_b_D (Nat.le_of_ble_eq_true rfl) (Nat.le_of_ble_eq_true rfl) dX2_init_53
  refine mb_P_of (fun q hq => ?_)
  obtain ⟨i, hi, rfl⟩ := mb_b_mem hq
  rcases (show i = 0 ∨ i = 1 ∨ 2 ≤ i by omega) with rfl | rfl | h2
  · rw [mb_c5 (P := P + 0) (hL 0 (by decide))]; exact S.2.1 0 _ rfl
  · rw [mb_c6 (P := P + 1) (hL 1 (by decide))]
    refine mb_arr (S.2.1 1 _ rfl) (fun j hj => ?_)
    rcases (show j = 0 ∨ j = 1 ∨ j = 2 ∨ j = 3 ∨ j = 4 ∨ j = 5 by omega) with rfl | rfl | rfl | rfl | rfl | rfl <;> rfl
  · exact mb_mem S.2.1 (List.mem_append_right _ (mb_in (by omega) (by omega)))
