abbrev cX6_init : ByteArray := prog_1_method_1_code
def yX6_init : MethodName := ⟨RX6, "<init>", "()V"⟩
theorem dX6_init_0 : decode cX6_init 0 = .ok (.aload_n 0, 1) := by decide +kernel
theorem dX6_init_1 : decode cX6_init 1 = .ok (.invokespecial 1, 3) := by decide +kernel
theorem dX6_init_4 : decode cX6_init 4 = .ok (.aload_n 0, 1) := by decide +kernel
theorem dX6_init_5 : decode cX6_init 5 = .ok (.new 7, 3) := by decide +kernel
theorem dX6_init_8 : decode cX6_init 8 = .ok (.dup, 1) := by decide +kernel
theorem dX6_init_9 : decode cX6_init 9 = .ok (.invokespecial 9, 3) := by decide +kernel
theorem dX6_init_12 : decode cX6_init 12 = .ok (.putfield 10, 3) := by decide +kernel
theorem dX6_init_15 : decode cX6_init 15 = .ok (.aload_n 0, 1) := by decide +kernel
theorem dX6_init_16 : decode cX6_init 16 = .ok (.new 16, 3) := by decide +kernel
theorem dX6_init_19 : decode cX6_init 19 = .ok (.dup, 1) := by decide +kernel
theorem dX6_init_20 : decode cX6_init 20 = .ok (.invokespecial 18, 3) := by decide +kernel
theorem dX6_init_23 : decode cX6_init 23 = .ok (.putfield 19, 3) := by decide +kernel
theorem dX6_init_26 : decode cX6_init 26 = .ok (.aload_n 0, 1) := by decide +kernel
theorem dX6_init_27 : decode cX6_init 27 = .ok (.new 7, 3) := by decide +kernel
theorem dX6_init_30 : decode cX6_init 30 = .ok (.dup, 1) := by decide +kernel
theorem dX6_init_31 : decode cX6_init 31 = .ok (.invokespecial 9, 3) := by decide +kernel
theorem dX6_init_34 : decode cX6_init 34 = .ok (.putfield 23, 3) := by decide +kernel
theorem dX6_init_37 : decode cX6_init 37 = .ok (.aload_n 0, 1) := by decide +kernel
theorem dX6_init_38 : decode cX6_init 38 = .ok (.new 16, 3) := by decide +kernel
theorem dX6_init_41 : decode cX6_init 41 = .ok (.dup, 1) := by decide +kernel
theorem dX6_init_42 : decode cX6_init 42 = .ok (.invokespecial 18, 3) := by decide +kernel
theorem dX6_init_45 : decode cX6_init 45 = .ok (.putfield 26, 3) := by decide +kernel
theorem dX6_init_48 : decode cX6_init 48 = .ok (.aload_n 0, 1) := by decide +kernel
theorem dX6_init_49 : decode cX6_init 49 = .ok (.iconst 0, 1) := by decide +kernel
theorem dX6_init_50 : decode cX6_init 50 = .ok (.putfield 29, 3) := by decide +kernel
theorem dX6_init_53 : decode cX6_init 53 = .ok (.aload_n 0, 1) := by decide +kernel
theorem dX6_init_54 : decode cX6_init 54 = .ok (.new 33, 3) := by decide +kernel
theorem dX6_init_57 : decode cX6_init 57 = .ok (.dup, 1) := by decide +kernel
theorem dX6_init_58 : decode cX6_init 58 = .ok (.invokespecial 35, 3) := by decide +kernel
theorem dX6_init_61 : decode cX6_init 61 = .ok (.putfield 36, 3) := by decide +kernel
theorem dX6_init_64 : decode cX6_init 64 = .ok (.aload_n 0, 1) := by decide +kernel
theorem dX6_init_65 : decode cX6_init 65 = .ok (.iconst 4, 1) := by decide +kernel
theorem dX6_init_66 : decode cX6_init 66 = .ok (.anewarray 40, 3) := by decide +kernel
theorem dX6_init_69 : decode cX6_init 69 = .ok (.putfield 42, 3) := by decide +kernel
theorem dX6_init_72 : decode cX6_init 72 = .ok (.aload_n 0, 1) := by decide +kernel
theorem dX6_init_73 : decode cX6_init 73 = .ok (.new 46, 3) := by decide +kernel
theorem dX6_init_76 : decode cX6_init 76 = .ok (.dup, 1) := by decide +kernel
theorem dX6_init_77 : decode cX6_init 77 = .ok (.invokespecial 48, 3) := by decide +kernel
theorem dX6_init_80 : decode cX6_init 80 = .ok (.putfield 49, 3) := by decide +kernel
theorem dX6_init_83 : decode cX6_init 83 = .ok (.aload_n 0, 1) := by decide +kernel
theorem dX6_init_84 : decode cX6_init 84 = .ok (.new 46, 3) := by decide +kernel
theorem dX6_init_87 : decode cX6_init 87 = .ok (.dup, 1) := by decide +kernel
theorem dX6_init_88 : decode cX6_init 88 = .ok (.invokespecial 48, 3) := by decide +kernel
theorem dX6_init_91 : decode cX6_init 91 = .ok (.putfield 53, 3) := by decide +kernel
theorem dX6_init_94 : decode cX6_init 94 = .ok (.iconst 0, 1) := by decide +kernel
theorem dX6_init_95 : decode cX6_init 95 = .ok (.istore_n 1, 1) := by decide +kernel
theorem dX6_init_96 : decode cX6_init 96 = .ok (.iload_n 1, 1) := by decide +kernel
theorem dX6_init_97 : decode cX6_init 97 = .ok (.aload_n 0, 1) := by decide +kernel
theorem dX6_init_98 : decode cX6_init 98 = .ok (.getfield 42, 3) := by decide +kernel
theorem dX6_init_101 : decode cX6_init 101 = .ok (.arraylength, 1) := by decide +kernel
theorem dX6_init_102 : decode cX6_init 102 = .ok (.if_icmp .ge 22, 3) := by decide +kernel
theorem dX6_init_105 : decode cX6_init 105 = .ok (.aload_n 0, 1) := by decide +kernel
theorem dX6_init_106 : decode cX6_init 106 = .ok (.getfield 42, 3) := by decide +kernel
theorem dX6_init_109 : decode cX6_init 109 = .ok (.iload_n 1, 1) := by decide +kernel
theorem dX6_init_110 : decode cX6_init 110 = .ok (.new 40, 3) := by decide +kernel
theorem dX6_init_113 : decode cX6_init 113 = .ok (.dup, 1) := by decide +kernel
theorem dX6_init_114 : decode cX6_init 114 = .ok (.invokespecial 56, 3) := by decide +kernel
theorem dX6_init_117 : decode cX6_init 117 = .ok (.aastore, 1) := by decide +kernel
theorem dX6_init_118 : decode cX6_init 118 = .ok (.iinc 1 1, 3) := by decide +kernel
theorem dX6_init_121 : decode cX6_init 121 = .ok (.goto (-25), 3) := by decide +kernel
theorem dX6_init_124 : decode cX6_init 124 = .ok (.return_, 1) := by decide +kernel
theorem mb_df6 : ∀ j, j < 9 → defaultValue (tyX6 j) = vp_V [.null, .null, .null, .null, .int 0, .null, .null, .null, .null] j := by
  intro j hj
  rcases (show j = 0 ∨ j = 1 ∨ j = 2 ∨ j = 3 ∨ j = 4 ∨ j = 5 ∨ j = 6 ∨ j = 7 ∨ j = 8 by omega) with rfl | rfl | rfl | rfl | rfl | rfl | rfl | rfl | rfl <;> rfl
set_option maxHeartbeats 4000000 in
set_option maxRecDepth 100000 in
theorem k_X6 {l : Launch} {D : va_G} {cA : Nat → ClassId} {B : Nat} : Met l yX6_init (mz_ws lw_tbl (mb_me yX6_init cX6_init 2)) { frames := 4, cells := 211, slots := 3916, locals := 130 } (mb_Pre D cA [.ref B] B 6 [.null, .null, .null, .null, .int 0, .null, .null, .null, .null]) (mb_Post D B 212 (mb_b es_LC cA B mb_mu 0 212)) 211 3916 (fun q => B ≤ q) := by
  refine mb_ofW (by decide +kernel) rfl ?_
  intro p e s m below meth c C hin hml hr hlocks ha S
  obtain ⟨hx, hb, hown, gw, hK, hN, hO⟩ := id C
  have hl := lv_entry ([.ref B] : List Value) (n := 2) (Nat.le_of_ble_eq_true rfl)
  rw [lg_entry_eq]
  generalize (lg_sl ([.ref B] : List Value) ++ List.replicate (2 - (lg_sl ([.ref B] : List Value)).length) Slot.unset).toArray = ls at hl ⊢
  have hl : lv_has ls 2 [(0, .ref (B))] := hl
  generalize hH : s.heap = H at S ⊢
  generalize hlc : ([] : List Loc) = locs at S ⊢
  refine lv_aload_n hx hb dX6_init_0 rfl (lv_at hl 0 rfl) ?_
  refine W.objInit hx hb hown (gw _ (show Cond.methodLink RX6 1 Lib.objectInit ∈ lw_tbl by decide +kernel) rfl) (gw _ (show Cond.instanceMethod Lib.objectInit ∈ lw_tbl by decide +kernel) rfl) (gw _ (show Cond.code Lib.objectInit ⟨#[0xb1]⟩ 1 none ∈ lw_tbl by decide +kernel) rfl) rfl (by rw [hml]; exact hl.1) rfl dX6_init_1 (Nat.le_of_ble_eq_true rfl) (Nat.le_of_ble_eq_true rfl) ?_
  refine W.eq (g2 := F0 m 4 ls []) rfl ?_
  refine lv_aload_n hx hb dX6_init_4 rfl (lv_at hl 0 rfl) ?_
  refine mb_new C ha S (ci := 4) (Cn := RX4) (T := TX4) (fs := [.null, .int 0, .int 0]) rfl (show Cond.classLink RX6 7 RX4 ∈ lw_tbl by decide +kernel) (show Cond.instantiable RX4 3 ∈ lw_tbl by decide +kernel) (show Cond.initialized RX4 ∈ lw_tbl by decide +kernel) tyX4 tyX4_ok (mb_df4) (Nat.le_of_ble_eq_true rfl) (Nat.le_of_ble_eq_true rfl) dX6_init_5 (fun H S => ?_)
  refine lv_dup hx hb dX6_init_8 rfl ?_
  refine mb_initN (ws := [(B, .inr (6, [.null, .null, .null, .null, .int 0, .null, .null, .null, .null]))]) (As := []) (rest := [.ref (B + 1), .ref (B)]) (np := 0) (rm := { frames := 2, cells := 9, slots := 172, locals := 60 }) (host := "EtaSeries") C hml hl.1 S (k_X4 (B := B) (P := 1) (h := B + 1) (by omega) (by decide +kernel)) (show Cond.code yX4_init cX4_init 2 none ∈ lw_tbl by decide +kernel) rfl rfl (show Cond.methodLinkNest RX6 9 yX4_init "EtaSeries" ∈ lw_tbl by decide +kernel) (show Cond.initialized RX4 ∈ lw_tbl by decide +kernel) (show Cond.instanceMethod yX4_init ∈ lw_tbl by decide +kernel) rfl (by decide +kernel) ⟨Nat.le_of_ble_eq_true rfl, Nat.le_of_ble_eq_true rfl⟩ rfl (Nat.le_of_ble_eq_true rfl) dX6_init_9 ⟨Nat.le_of_ble_eq_true rfl, Nat.le_of_ble_eq_true rfl⟩ (fun H locs S => ?_)
  have S : mb_S D s (B) 11 ([(B, .inr (6, [.null, .null, .null, .null, .int 0, .null, .null, .null, .null]))] ++ mb_b es_LC cA B mb_mu 1 10) H locs := S
  refine mb_putF C hin S (ci := 6) (Cn := RX6) (T := TX6) (N := 9) 0 rfl rfl 0 (by decide) (show Cond.fieldLink RX6 10 "EtaSeries" "now" "LEtaSeries$Shelf;" ∈ lw_tbl by decide +kernel) rfl rfl (ty := (.object "EtaSeries$Shelf")) (by decide +kernel) rfl rfl (Nat.le_of_ble_eq_true rfl) dX6_init_12 (fun H locs S => ?_)
  have S : mb_S D s (B) 11 ([(B, .inr (6, [.ref (B + 1), .null, .null, .null, .int 0, .null, .null, .null, .null]))] ++ mb_b es_LC cA B mb_mu 1 10) H locs := S
  refine lv_aload_n hx hb dX6_init_15 rfl (lv_at hl 0 rfl) ?_
  refine mb_new C ha S (ci := 2) (Cn := RX2) (T := TX2) (fs := [.null, .int 0, .int 0]) rfl (show Cond.classLink RX6 16 RX2 ∈ lw_tbl by decide +kernel) (show Cond.instantiable RX2 3 ∈ lw_tbl by decide +kernel) (show Cond.initialized RX2 ∈ lw_tbl by decide +kernel) tyX2 tyX2_ok (mb_df2) (Nat.le_of_ble_eq_true rfl) (Nat.le_of_ble_eq_true rfl) dX6_init_16 (fun H S => ?_)
  refine lv_dup hx hb dX6_init_19 rfl ?_
  refine mb_initN (ws := ([(B, .inr (6, [.ref (B + 1), .null, .null, .null, .int 0, .null, .null, .null, .null]))] ++ mb_b es_LC cA B mb_mu 1 10)) (As := []) (rest := [.ref (B + 11), .ref (B)]) (np := 0) (rm := { frames := 3, cells := 61, slots := 1056, locals := 90 }) (host := "EtaSeries") C hml hl.1 S (k_X2 (B := B) (P := 11) (h := B + 11) (by omega) (by decide +kernel)) (show Cond.code yX2_init cX2_init 2 none ∈ lw_tbl by decide +kernel) rfl rfl (show Cond.methodLinkNest RX6 18 yX2_init "EtaSeries" ∈ lw_tbl by decide +kernel) (show Cond.initialized RX2 ∈ lw_tbl by decide +kernel) (show Cond.instanceMethod yX2_init ∈ lw_tbl by decide +kernel) rfl (by decide +kernel) ⟨Nat.le_of_ble_eq_true rfl, Nat.le_of_ble_eq_true rfl⟩ rfl (Nat.le_of_ble_eq_true rfl) dX6_init_20 ⟨Nat.le_of_ble_eq_true rfl, Nat.le_of_ble_eq_true rfl⟩ (fun H locs S => ?_)
  have S : mb_S D s (B) 73 ([(B, .inr (6, [.ref (B + 1), .null, .null, .null, .int 0, .null, .null, .null, .null]))] ++ mb_b es_LC cA B mb_mu 1 72) H locs := mb_S.glue S (by omega) rfl
  refine mb_putF C hin S (ci := 6) (Cn := RX6) (T := TX6) (N := 9) 0 rfl rfl 1 (by decide) (show Cond.fieldLink RX6 19 "EtaSeries" "past" "LEtaSeries$Past;" ∈ lw_tbl by decide +kernel) rfl rfl (ty := (.object "EtaSeries$Past")) (by decide +kernel) rfl rfl (Nat.le_of_ble_eq_true rfl) dX6_init_23 (fun H locs S => ?_)
  have S : mb_S D s (B) 73 ([(B, .inr (6, [.ref (B + 1), .ref (B + 11), .null, .null, .int 0, .null, .null, .null, .null]))] ++ mb_b es_LC cA B mb_mu 1 72) H locs := S
  refine lv_aload_n hx hb dX6_init_26 rfl (lv_at hl 0 rfl) ?_
  refine mb_new C ha S (ci := 4) (Cn := RX4) (T := TX4) (fs := [.null, .int 0, .int 0]) rfl (show Cond.classLink RX6 7 RX4 ∈ lw_tbl by decide +kernel) (show Cond.instantiable RX4 3 ∈ lw_tbl by decide +kernel) (show Cond.initialized RX4 ∈ lw_tbl by decide +kernel) tyX4 tyX4_ok (mb_df4) (Nat.le_of_ble_eq_true rfl) (Nat.le_of_ble_eq_true rfl) dX6_init_27 (fun H S => ?_)
  refine lv_dup hx hb dX6_init_30 rfl ?_
  refine mb_initN (ws := ([(B, .inr (6, [.ref (B + 1), .ref (B + 11), .null, .null, .int 0, .null, .null, .null, .null]))] ++ mb_b es_LC cA B mb_mu 1 72)) (As := []) (rest := [.ref (B + 73), .ref (B)]) (np := 0) (rm := { frames := 2, cells := 9, slots := 172, locals := 60 }) (host := "EtaSeries") C hml hl.1 S (k_X4 (B := B) (P := 73) (h := B + 73) (by omega) (by decide +kernel)) (show Cond.code yX4_init cX4_init 2 none ∈ lw_tbl by decide +kernel) rfl rfl (show Cond.methodLinkNest RX6 9 yX4_init "EtaSeries" ∈ lw_tbl by decide +kernel) (show Cond.initialized RX4 ∈ lw_tbl by decide +kernel) (show Cond.instanceMethod yX4_init ∈ lw_tbl by decide +kernel) rfl (by decide +kernel) ⟨Nat.le_of_ble_eq_true rfl, Nat.le_of_ble_eq_true rfl⟩ rfl (Nat.le_of_ble_eq_true rfl) dX6_init_31 ⟨Nat.le_of_ble_eq_true rfl, Nat.le_of_ble_eq_true rfl⟩ (fun H locs S => ?_)
  have S : mb_S D s (B) 83 ([(B, .inr (6, [.ref (B + 1), .ref (B + 11), .null, .null, .int 0, .null, .null, .null, .null]))] ++ mb_b es_LC cA B mb_mu 1 82) H locs := mb_S.glue S (by omega) rfl
  refine mb_putF C hin S (ci := 6) (Cn := RX6) (T := TX6) (N := 9) 0 rfl rfl 2 (by decide) (show Cond.fieldLink RX6 23 "EtaSeries" "keptNow" "LEtaSeries$Shelf;" ∈ lw_tbl by decide +kernel) rfl rfl (ty := (.object "EtaSeries$Shelf")) (by decide +kernel) rfl rfl (Nat.le_of_ble_eq_true rfl) dX6_init_34 (fun H locs S => ?_)
  have S : mb_S D s (B) 83 ([(B, .inr (6, [.ref (B + 1), .ref (B + 11), .ref (B + 73), .null, .int 0, .null, .null, .null, .null]))] ++ mb_b es_LC cA B mb_mu 1 82) H locs := S
  refine lv_aload_n hx hb dX6_init_37 rfl (lv_at hl 0 rfl) ?_
  refine mb_new C ha S (ci := 2) (Cn := RX2) (T := TX2) (fs := [.null, .int 0, .int 0]) rfl (show Cond.classLink RX6 16 RX2 ∈ lw_tbl by decide +kernel) (show Cond.instantiable RX2 3 ∈ lw_tbl by decide +kernel) (show Cond.initialized RX2 ∈ lw_tbl by decide +kernel) tyX2 tyX2_ok (mb_df2) (Nat.le_of_ble_eq_true rfl) (Nat.le_of_ble_eq_true rfl) dX6_init_38 (fun H S => ?_)
  refine lv_dup hx hb dX6_init_41 rfl ?_
  refine mb_initN (ws := ([(B, .inr (6, [.ref (B + 1), .ref (B + 11), .ref (B + 73), .null, .int 0, .null, .null, .null, .null]))] ++ mb_b es_LC cA B mb_mu 1 82)) (As := []) (rest := [.ref (B + 83), .ref (B)]) (np := 0) (rm := { frames := 3, cells := 61, slots := 1056, locals := 90 }) (host := "EtaSeries") C hml hl.1 S (k_X2 (B := B) (P := 83) (h := B + 83) (by omega) (by decide +kernel)) (show Cond.code yX2_init cX2_init 2 none ∈ lw_tbl by decide +kernel) rfl rfl (show Cond.methodLinkNest RX6 18 yX2_init "EtaSeries" ∈ lw_tbl by decide +kernel) (show Cond.initialized RX2 ∈ lw_tbl by decide +kernel) (show Cond.instanceMethod yX2_init ∈ lw_tbl by decide +kernel) rfl (by decide +kernel) ⟨Nat.le_of_ble_eq_true rfl, Nat.le_of_ble_eq_true rfl⟩ rfl (Nat.le_of_ble_eq_true rfl) dX6_init_42 ⟨Nat.le_of_ble_eq_true rfl, Nat.le_of_ble_eq_true rfl⟩ (fun H locs S => ?_)
  have S : mb_S D s (B) 145 ([(B, .inr (6, [.ref (B + 1), .ref (B + 11), .ref (B + 73), .null, .int 0, .null, .null, .null, .null]))] ++ mb_b es_LC cA B mb_mu 1 144) H locs := mb_S.glue S (by omega) rfl
  refine mb_putF C hin S (ci := 6) (Cn := RX6) (T := TX6) (N := 9) 0 rfl rfl 3 (by decide) (show Cond.fieldLink RX6 26 "EtaSeries" "keptPast" "LEtaSeries$Past;" ∈ lw_tbl by decide +kernel) rfl rfl (ty := (.object "EtaSeries$Past")) (by decide +kernel) rfl rfl (Nat.le_of_ble_eq_true rfl) dX6_init_45 (fun H locs S => ?_)
  have S : mb_S D s (B) 145 ([(B, .inr (6, [.ref (B + 1), .ref (B + 11), .ref (B + 73), .ref (B + 83), .int 0, .null, .null, .null, .null]))] ++ mb_b es_LC cA B mb_mu 1 144) H locs := S
  refine lv_aload_n hx hb dX6_init_48 rfl (lv_at hl 0 rfl) ?_
  refine lv_iconst (v := 0) hx hb dX6_init_49 (by decide +kernel) ?_
  refine mb_put C S (ci := 6) (Cn := RX6) (T := TX6) (N := 9) 0 rfl rfl 4 (by decide) (show Cond.fieldLink RX6 29 "EtaSeries" "kept" "Z" ∈ lw_tbl by decide +kernel) rfl (ty := .boolean) (by decide +kernel) rfl rfl (Nat.le_of_ble_eq_true rfl) dX6_init_50 (fun H locs S => ?_)
  have S : mb_S D s (B) 145 ([(B, .inr (6, [.ref (B + 1), .ref (B + 11), .ref (B + 73), .ref (B + 83), .int 0, .null, .null, .null, .null]))] ++ mb_b es_LC cA B mb_mu 1 144) H locs := S
  refine lv_aload_n hx hb dX6_init_53 rfl (lv_at hl 0 rfl) ?_
  refine mb_new C ha S (ci := 1) (Cn := RX1) (T := TX1) (fs := [.null, .null, .null, .null, .null, .null, .int 0, .int 0, .int 0, .int 0]) rfl (show Cond.classLink RX6 33 RX1 ∈ lw_tbl by decide +kernel) (show Cond.instantiable RX1 10 ∈ lw_tbl by decide +kernel) (show Cond.initialized RX1 ∈ lw_tbl by decide +kernel) tyX1 tyX1_ok (mb_df1) (Nat.le_of_ble_eq_true rfl) (Nat.le_of_ble_eq_true rfl) dX6_init_54 (fun H S => ?_)
  refine lv_dup hx hb dX6_init_57 rfl ?_
  refine mb_initN (ws := ([(B, .inr (6, [.ref (B + 1), .ref (B + 11), .ref (B + 73), .ref (B + 83), .int 0, .null, .null, .null, .null]))] ++ mb_b es_LC cA B mb_mu 1 144)) (As := []) (rest := [.ref (B + 145), .ref (B)]) (np := 0) (rm := { frames := 2, cells := 53, slots := 1174, locals := 60 }) (host := "EtaSeries") C hml hl.1 S (k_X1 (B := B) (h := B + 145) (by omega)) (show Cond.code yX1_init cX1_init 2 none ∈ lw_tbl by decide +kernel) rfl rfl (show Cond.methodLinkNest RX6 35 yX1_init "EtaSeries" ∈ lw_tbl by decide +kernel) (show Cond.initialized RX1 ∈ lw_tbl by decide +kernel) (show Cond.instanceMethod yX1_init ∈ lw_tbl by decide +kernel) rfl (by decide +kernel) ⟨Nat.le_of_ble_eq_true rfl, Nat.le_of_ble_eq_true rfl⟩ rfl (Nat.le_of_ble_eq_true rfl) dX6_init_58 ⟨Nat.le_of_ble_eq_true rfl, Nat.le_of_ble_eq_true rfl⟩ (fun H locs S => ?_)
  have S : mb_S D s (B) 199 ([(B, .inr (6, [.ref (B + 1), .ref (B + 11), .ref (B + 73), .ref (B + 83), .int 0, .null, .null, .null, .null]))] ++ mb_b es_LC cA B mb_mu 1 198) H locs := mb_S.glue S (by omega) rfl
  refine mb_putF C hin S (ci := 6) (Cn := RX6) (T := TX6) (N := 9) 0 rfl rfl 5 (by decide) (show Cond.fieldLink RX6 36 "EtaSeries" "mill" "LEtaSeries$Mill;" ∈ lw_tbl by decide +kernel) rfl rfl (ty := (.object "EtaSeries$Mill")) (by decide +kernel) rfl rfl (Nat.le_of_ble_eq_true rfl) dX6_init_61 (fun H locs S => ?_)
  have S : mb_S D s (B) 199 ([(B, .inr (6, [.ref (B + 1), .ref (B + 11), .ref (B + 73), .ref (B + 83), .int 0, .ref (B + 145), .null, .null, .null]))] ++ mb_b es_LC cA B mb_mu 1 198) H locs := S
  refine lv_aload_n hx hb dX6_init_64 rfl (lv_at hl 0 rfl) ?_
  refine lv_iconst (v := 4) hx hb dX6_init_65 (by decide +kernel) ?_
  refine mb_newq (N := 4) (t0 := 4) C ha S (show Cond.classLink RX6 40 RX0 ∈ lw_tbl by decide +kernel) hO.2.2 rfl (by decide +kernel) (by decide +kernel) (Nat.le_of_ble_eq_true rfl) (Nat.le_of_ble_eq_true rfl) (Nat.le_of_ble_eq_true rfl) dX6_init_66 (fun H S => ?_)
  have S : mb_S D s (B) 200 ([(B, .inr (6, [.ref (B + 1), .ref (B + 11), .ref (B + 73), .ref (B + 83), .int 0, .ref (B + 145), .null, .null, .null])), (B + 199, .inl (cA 4, 4, .inr (.inr (.inr (.inr (fun _ => none))))))] ++ mb_b es_LC cA B mb_mu 1 198) H locs := mb_S.mv S rfl
  refine mb_putF C hin S (ci := 6) (Cn := RX6) (T := TX6) (N := 9) 0 rfl rfl 6 (by decide) (show Cond.fieldLink RX6 42 "EtaSeries" "leaves" "[LEtaSeries$Leaf;" ∈ lw_tbl by decide +kernel) rfl rfl (ty := (.array (.object "EtaSeries$Leaf"))) (by decide +kernel) rfl rfl (Nat.le_of_ble_eq_true rfl) dX6_init_69 (fun H locs S => ?_)
  have S : mb_S D s (B) 200 ([(B, .inr (6, [.ref (B + 1), .ref (B + 11), .ref (B + 73), .ref (B + 83), .int 0, .ref (B + 145), .ref (B + 199), .null, .null])), (B + 199, .inl (cA 4, 4, .inr (.inr (.inr (.inr (fun _ => none))))))] ++ mb_b es_LC cA B mb_mu 1 198) H locs := S
  refine lv_aload_n hx hb dX6_init_72 rfl (lv_at hl 0 rfl) ?_
  refine mb_new C ha S (ci := 3) (Cn := RX3) (T := TX3) (fs := [.null, .int 0]) rfl (show Cond.classLink RX6 46 RX3 ∈ lw_tbl by decide +kernel) (show Cond.instantiable RX3 2 ∈ lw_tbl by decide +kernel) (show Cond.initialized RX3 ∈ lw_tbl by decide +kernel) tyX3 tyX3_ok (mb_df3) (Nat.le_of_ble_eq_true rfl) (Nat.le_of_ble_eq_true rfl) dX6_init_73 (fun H S => ?_)
  refine lv_dup hx hb dX6_init_76 rfl ?_
  refine mb_initN (ws := ([(B, .inr (6, [.ref (B + 1), .ref (B + 11), .ref (B + 73), .ref (B + 83), .int 0, .ref (B + 145), .ref (B + 199), .null, .null])), (B + 199, .inl (cA 4, 4, .inr (.inr (.inr (.inr (fun _ => none))))))] ++ mb_b es_LC cA B mb_mu 1 198)) (As := []) (rest := [.ref (B + 200), .ref (B)]) (np := 0) (rm := { frames := 1, cells := 1, slots := 40, locals := 30 }) (host := "EtaSeries") C hml hl.1 S (k_X3 (B := B) (P := 200) (h := B + 200) (by omega) (by decide +kernel) (by decide +kernel)) (show Cond.code yX3_init cX3_init 1 none ∈ lw_tbl by decide +kernel) rfl rfl (show Cond.methodLinkNest RX6 48 yX3_init "EtaSeries" ∈ lw_tbl by decide +kernel) (show Cond.initialized RX3 ∈ lw_tbl by decide +kernel) (show Cond.instanceMethod yX3_init ∈ lw_tbl by decide +kernel) rfl (by decide +kernel) ⟨Nat.le_of_ble_eq_true rfl, Nat.le_of_ble_eq_true rfl⟩ rfl (Nat.le_of_ble_eq_true rfl) dX6_init_77 ⟨Nat.le_of_ble_eq_true rfl, Nat.le_of_ble_eq_true rfl⟩ (fun H locs S => ?_)
  have S : mb_S D s (B) 202 (([(B, .inr (6, [.ref (B + 1), .ref (B + 11), .ref (B + 73), .ref (B + 83), .int 0, .ref (B + 145), .ref (B + 199), .null, .null])), (B + 199, .inl (cA 4, 4, .inr (.inr (.inr (.inr (fun _ => none))))))] ++ mb_b es_LC cA B mb_mu 1 198) ++ mb_b es_LC cA B mb_mu 200 2) H locs := S
  refine mb_putF C hin S (ci := 6) (Cn := RX6) (T := TX6) (N := 9) 0 rfl rfl 7 (by decide) (show Cond.fieldLink RX6 49 "EtaSeries" "made" "LEtaSeries$Row;" ∈ lw_tbl by decide +kernel) rfl rfl (ty := (.object "EtaSeries$Row")) (by decide +kernel) rfl rfl (Nat.le_of_ble_eq_true rfl) dX6_init_80 (fun H locs S => ?_)
  have S : mb_S D s (B) 202 (([(B, .inr (6, [.ref (B + 1), .ref (B + 11), .ref (B + 73), .ref (B + 83), .int 0, .ref (B + 145), .ref (B + 199), .ref (B + 200), .null])), (B + 199, .inl (cA 4, 4, .inr (.inr (.inr (.inr (fun _ => none))))))] ++ mb_b es_LC cA B mb_mu 1 198) ++ mb_b es_LC cA B mb_mu 200 2) H locs := S
  refine lv_aload_n hx hb dX6_init_83 rfl (lv_at hl 0 rfl) ?_
  refine mb_new C ha S (ci := 3) (Cn := RX3) (T := TX3) (fs := [.null, .int 0]) rfl (show Cond.classLink RX6 46 RX3 ∈ lw_tbl by decide +kernel) (show Cond.instantiable RX3 2 ∈ lw_tbl by decide +kernel) (show Cond.initialized RX3 ∈ lw_tbl by decide +kernel) tyX3 tyX3_ok (mb_df3) (Nat.le_of_ble_eq_true rfl) (Nat.le_of_ble_eq_true rfl) dX6_init_84 (fun H S => ?_)
  refine lv_dup hx hb dX6_init_87 rfl ?_
  refine mb_initN (ws := (([(B, .inr (6, [.ref (B + 1), .ref (B + 11), .ref (B + 73), .ref (B + 83), .int 0, .ref (B + 145), .ref (B + 199), .ref (B + 200), .null])), (B + 199, .inl (cA 4, 4, .inr (.inr (.inr (.inr (fun _ => none))))))] ++ mb_b es_LC cA B mb_mu 1 198) ++ mb_b es_LC cA B mb_mu 200 2)) (As := []) (rest := [.ref (B + 202), .ref (B)]) (np := 0) (rm := { frames := 1, cells := 1, slots := 40, locals := 30 }) (host := "EtaSeries") C hml hl.1 S (k_X3 (B := B) (P := 202) (h := B + 202) (by omega) (by decide +kernel) (by decide +kernel)) (show Cond.code yX3_init cX3_init 1 none ∈ lw_tbl by decide +kernel) rfl rfl (show Cond.methodLinkNest RX6 48 yX3_init "EtaSeries" ∈ lw_tbl by decide +kernel) (show Cond.initialized RX3 ∈ lw_tbl by decide +kernel) (show Cond.instanceMethod yX3_init ∈ lw_tbl by decide +kernel) rfl (by decide +kernel) ⟨Nat.le_of_ble_eq_true rfl, Nat.le_of_ble_eq_true rfl⟩ rfl (Nat.le_of_ble_eq_true rfl) dX6_init_88 ⟨Nat.le_of_ble_eq_true rfl, Nat.le_of_ble_eq_true rfl⟩ (fun H locs S => ?_)
  have S : mb_S D s (B) 204 (([(B, .inr (6, [.ref (B + 1), .ref (B + 11), .ref (B + 73), .ref (B + 83), .int 0, .ref (B + 145), .ref (B + 199), .ref (B + 200), .null])), (B + 199, .inl (cA 4, 4, .inr (.inr (.inr (.inr (fun _ => none))))))] ++ mb_b es_LC cA B mb_mu 1 198) ++ mb_b es_LC cA B mb_mu 200 4) H locs := mb_S.glue S (by omega) rfl
  refine mb_putF C hin S (ci := 6) (Cn := RX6) (T := TX6) (N := 9) 0 rfl rfl 8 (by decide) (show Cond.fieldLink RX6 53 "EtaSeries" "spare" "LEtaSeries$Row;" ∈ lw_tbl by decide +kernel) rfl rfl (ty := (.object "EtaSeries$Row")) (by decide +kernel) rfl rfl (Nat.le_of_ble_eq_true rfl) dX6_init_91 (fun H locs S => ?_)
  have S : mb_S D s (B) 204 (([(B, .inr (6, [.ref (B + 1), .ref (B + 11), .ref (B + 73), .ref (B + 83), .int 0, .ref (B + 145), .ref (B + 199), .ref (B + 200), .ref (B + 202)])), (B + 199, .inl (cA 4, 4, .inr (.inr (.inr (.inr (fun _ => none))))))] ++ mb_b es_LC cA B mb_mu 1 198) ++ mb_b es_LC cA B mb_mu 200 4) H locs := S
  refine lv_iconst (v := 0) hx hb dX6_init_94 (by decide +kernel) ?_
  refine lv_istore_n (lv' := [(1, .int 0), (0, .ref (B))]) hx hb dX6_init_95 rfl hl (by decide) rfl (fun ls hl => ?_)
  refine lv_iload_n hx hb dX6_init_96 rfl (lv_at hl 0 rfl) ?_
  refine lv_aload_n hx hb dX6_init_97 rfl (lv_at hl 1 rfl) ?_
  refine mb_get C S (ci := 6) (Cn := RX6) (T := TX6) (N := 9) 0 rfl rfl 6 (by decide) (show Cond.fieldLink RX6 42 "EtaSeries" "leaves" "[LEtaSeries$Leaf;" ∈ lw_tbl by decide +kernel) rfl dX6_init_98 ?_
  refine va_alen (v := 4) hx hb hK S.2.1 1 4 rfl (mz_ty_at (i := 4) rfl) (show Int32.ofNat 4 = 4 from rfl) dX6_init_101 ?_
  refine lv_icmp_ge (tgt := 124) hx hb dX6_init_102 (by decide) (fun q => absurd q (by decide +kernel)) (fun _ => ?_)
  refine lv_aload_n hx hb dX6_init_105 rfl (lv_at hl 1 rfl) ?_
  refine mb_get C S (ci := 6) (Cn := RX6) (T := TX6) (N := 9) 0 rfl rfl 6 (by decide) (show Cond.fieldLink RX6 42 "EtaSeries" "leaves" "[LEtaSeries$Leaf;" ∈ lw_tbl by decide +kernel) rfl dX6_init_106 ?_
  refine lv_iload_n hx hb dX6_init_109 rfl (lv_at hl 0 rfl) ?_
  refine mb_new C ha S (ci := 0) (Cn := RX0) (T := TX0) (fs := [.null, .int 0, .int 0, .int 0]) rfl (show Cond.classLink RX6 40 RX0 ∈ lw_tbl by decide +kernel) (show Cond.instantiable RX0 4 ∈ lw_tbl by decide +kernel) (show Cond.initialized RX0 ∈ lw_tbl by decide +kernel) tyX0 tyX0_ok (mb_df0) (Nat.le_of_ble_eq_true rfl) (Nat.le_of_ble_eq_true rfl) dX6_init_110 (fun H S => ?_)
  refine lv_dup hx hb dX6_init_113 rfl ?_
  refine mb_initN (ws := (([(B, .inr (6, [.ref (B + 1), .ref (B + 11), .ref (B + 73), .ref (B + 83), .int 0, .ref (B + 145), .ref (B + 199), .ref (B + 200), .ref (B + 202)])), (B + 199, .inl (cA 4, 4, .inr (.inr (.inr (.inr (fun _ => none))))))] ++ mb_b es_LC cA B mb_mu 1 198) ++ mb_b es_LC cA B mb_mu 200 4)) (As := []) (rest := [.ref (B + 204), .int 0, .ref (B + 199)]) (np := 0) (rm := { frames := 1, cells := 1, slots := 40, locals := 30 }) (host := "EtaSeries") C hml hl.1 S (k_X0 (B := B) (P := 204) (h := B + 204) (by omega) (by decide +kernel) (by decide +kernel)) (show Cond.code yX0_init cX0_init 1 none ∈ lw_tbl by decide +kernel) rfl rfl (show Cond.methodLinkNest RX6 56 yX0_init "EtaSeries" ∈ lw_tbl by decide +kernel) (show Cond.initialized RX0 ∈ lw_tbl by decide +kernel) (show Cond.instanceMethod yX0_init ∈ lw_tbl by decide +kernel) rfl (by decide +kernel) ⟨Nat.le_of_ble_eq_true rfl, Nat.le_of_ble_eq_true rfl⟩ rfl (Nat.le_of_ble_eq_true rfl) dX6_init_114 ⟨Nat.le_of_ble_eq_true rfl, Nat.le_of_ble_eq_true rfl⟩ (fun H locs S => ?_)
  have S : mb_S D s (B) 206 (([(B, .inr (6, [.ref (B + 1), .ref (B + 11), .ref (B + 73), .ref (B + 83), .int 0, .ref (B + 145), .ref (B + 199), .ref (B + 200), .ref (B + 202)])), (B + 199, .inl (cA 4, 4, .inr (.inr (.inr (.inr (fun _ => none))))))] ++ mb_b es_LC cA B mb_mu 1 198) ++ mb_b es_LC cA B mb_mu 200 6) H locs := mb_S.glue S (by omega) rfl
  refine mb_aast C S (t0 := 4) (r := (RX0, TX0, 4)) 1 204 rfl rfl ((mb_at2 (hd := [(B, .inr (6, [.ref (B + 1), .ref (B + 11), .ref (B + 73), .ref (B + 83), .int 0, .ref (B + 145), .ref (B + 199), .ref (B + 200), .ref (B + 202)])), (B + 199, .inl (cA 4, 4, .inr (.inr (.inr (.inr (fun _ => none))))))] ++ mb_b es_LC cA B mb_mu 1 198) (lo := 200) (n := 6) (i := 4) (by decide) (by simp [mb_b_len])).trans (congrArg some (mb_c14 (P := 204) (by decide +kernel)))) rfl (i := 0) (show vp_in (nI 0) 4 from vp_in_nI (by decide) (by decide)) dX6_init_117 (fun H locs S => ?_)
  rw [es_tc0] at S
  have S : mb_S D s (B) 206 (([(B, .inr (6, [.ref (B + 1), .ref (B + 11), .ref (B + 73), .ref (B + 83), .int 0, .ref (B + 145), .ref (B + 199), .ref (B + 200), .ref (B + 202)])), (B + 199, .inl (cA 4, 4, .inr (.inr (.inr (.inr (va_up (fun _ => none) 0 (some (B + 204))))))))] ++ mb_b es_LC cA B mb_mu 1 198) ++ mb_b es_LC cA B mb_mu 200 6) H locs := S
  refine lv_iinc (v := 1) (lv' := [(1, .int 1), (0, .ref (B))]) hx hb dX6_init_118 hl (k := 0) rfl (by decide +kernel) (by decide) rfl (fun ls hl => ?_)
  refine lv_goto (tgt := 96) hx hb dX6_init_121 (by decide) ?_
  refine lv_iload_n hx hb dX6_init_96 rfl (lv_at hl 0 rfl) ?_
  refine lv_aload_n hx hb dX6_init_97 rfl (lv_at hl 1 rfl) ?_
  refine mb_get C S (ci := 6) (Cn := RX6) (T := TX6) (N := 9) 0 rfl rfl 6 (by decide) (show Cond.fieldLink RX6 42 "EtaSeries" "leaves" "[LEtaSeries$Leaf;" ∈ lw_tbl by decide +kernel) rfl dX6_init_98 ?_
  refine va_alen (v := 4) hx hb hK S.2.1 1 4 rfl (mz_ty_at (i := 4) rfl) (show Int32.ofNat 4 = 4 from rfl) dX6_init_101 ?_
  refine lv_icmp_ge (tgt := 124) hx hb dX6_init_102 (by decide) (fun q => absurd q (by decide +kernel)) (fun _ => ?_)
  refine lv_aload_n hx hb dX6_init_105 rfl (lv_at hl 1 rfl) ?_
  refine mb_get C S (ci := 6) (Cn := RX6) (T := TX6) (N := 9) 0 rfl rfl 6 (by decide) (show Cond.fieldLink RX6 42 "EtaSeries" "leaves" "[LEtaSeries$Leaf;" ∈ lw_tbl by decide +kernel) rfl dX6_init_106 ?_
  refine lv_iload_n hx hb dX6_init_109 rfl (lv_at hl 0 rfl) ?_
  refine mb_new C ha S (ci := 0) (Cn := RX0) (T := TX0) (fs := [.null, .int 0, .int 0, .int 0]) rfl (show Cond.classLink RX6 40 RX0 ∈ lw_tbl by decide +kernel) (show Cond.instantiable RX0 4 ∈ lw_tbl by decide +kernel) (show Cond.initialized RX0 ∈ lw_tbl by decide +kernel) tyX0 tyX0_ok (mb_df0) (Nat.le_of_ble_eq_true rfl) (Nat.le_of_ble_eq_true rfl) dX6_init_110 (fun H S => ?_)
  refine lv_dup hx hb dX6_init_113 rfl ?_
  refine mb_initN (ws := (([(B, .inr (6, [.ref (B + 1), .ref (B + 11), .ref (B + 73), .ref (B + 83), .int 0, .ref (B + 145), .ref (B + 199), .ref (B + 200), .ref (B + 202)])), (B + 199, .inl (cA 4, 4, .inr (.inr (.inr (.inr (va_up (fun _ => none) 0 (some (B + 204))))))))] ++ mb_b es_LC cA B mb_mu 1 198) ++ mb_b es_LC cA B mb_mu 200 6)) (As := []) (rest := [.ref (B + 206), .int 1, .ref (B + 199)]) (np := 0) (rm := { frames := 1, cells := 1, slots := 40, locals := 30 }) (host := "EtaSeries") C hml hl.1 S (k_X0 (B := B) (P := 206) (h := B + 206) (by omega) (by decide +kernel) (by decide +kernel)) (show Cond.code yX0_init cX0_init 1 none ∈ lw_tbl by decide +kernel) rfl rfl (show Cond.methodLinkNest RX6 56 yX0_init "EtaSeries" ∈ lw_tbl by decide +kernel) (show Cond.initialized RX0 ∈ lw_tbl by decide +kernel) (show Cond.instanceMethod yX0_init ∈ lw_tbl by decide +kernel) rfl (by decide +kernel) ⟨Nat.le_of_ble_eq_true rfl, Nat.le_of_ble_eq_true rfl⟩ rfl (Nat.le_of_ble_eq_true rfl) dX6_init_114 ⟨Nat.le_of_ble_eq_true rfl, Nat.le_of_ble_eq_true rfl⟩ (fun H locs S => ?_)
  have S : mb_S D s (B) 208 (([(B, .inr (6, [.ref (B + 1), .ref (B + 11), .ref (B + 73), .ref (B + 83), .int 0, .ref (B + 145), .ref (B + 199), .ref (B + 200), .ref (B + 202)])), (B + 199, .inl (cA 4, 4, .inr (.inr (.inr (.inr (va_up (fun _ => none) 0 (some (B + 204))))))))] ++ mb_b es_LC cA B mb_mu 1 198) ++ mb_b es_LC cA B mb_mu 200 8) H locs := mb_S.glue S (by omega) rfl
  refine mb_aast C S (t0 := 4) (r := (RX0, TX0, 4)) 1 206 rfl rfl ((mb_at2 (hd := [(B, .inr (6, [.ref (B + 1), .ref (B + 11), .ref (B + 73), .ref (B + 83), .int 0, .ref (B + 145), .ref (B + 199), .ref (B + 200), .ref (B + 202)])), (B + 199, .inl (cA 4, 4, .inr (.inr (.inr (.inr (va_up (fun _ => none) 0 (some (B + 204))))))))] ++ mb_b es_LC cA B mb_mu 1 198) (lo := 200) (n := 8) (i := 6) (by decide) (by simp [mb_b_len])).trans (congrArg some (mb_c14 (P := 206) (by decide +kernel)))) rfl (i := 1) (show vp_in (nI 1) 4 from vp_in_nI (by decide) (by decide)) dX6_init_117 (fun H locs S => ?_)
  rw [es_tc1] at S
  have S : mb_S D s (B) 208 (([(B, .inr (6, [.ref (B + 1), .ref (B + 11), .ref (B + 73), .ref (B + 83), .int 0, .ref (B + 145), .ref (B + 199), .ref (B + 200), .ref (B + 202)])), (B + 199, .inl (cA 4, 4, .inr (.inr (.inr (.inr (va_up (va_up (fun _ => none) 0 (some (B + 204))) 1 (some (B + 206))))))))] ++ mb_b es_LC cA B mb_mu 1 198) ++ mb_b es_LC cA B mb_mu 200 8) H locs := S
  refine lv_iinc (v := 2) (lv' := [(1, .int 2), (0, .ref (B))]) hx hb dX6_init_118 hl (k := 0) rfl (by decide +kernel) (by decide) rfl (fun ls hl => ?_)
  refine lv_goto (tgt := 96) hx hb dX6_init_121 (by decide) ?_
  refine lv_iload_n hx hb dX6_init_96 rfl (lv_at hl 0 rfl) ?_
  refine lv_aload_n hx hb dX6_init_97 rfl (lv_at hl 1 rfl) ?_
  refine mb_get C S (ci := 6) (Cn := RX6) (T := TX6) (N := 9) 0 rfl rfl 6 (by decide) (show Cond.fieldLink RX6 42 "EtaSeries" "leaves" "[LEtaSeries$Leaf;" ∈ lw_tbl by decide +kernel) rfl dX6_init_98 ?_
  refine va_alen (v := 4) hx hb hK S.2.1 1 4 rfl (mz_ty_at (i := 4) rfl) (show Int32.ofNat 4 = 4 from rfl) dX6_init_101 ?_
  refine lv_icmp_ge (tgt := 124) hx hb dX6_init_102 (by decide) (fun q => absurd q (by decide +kernel)) (fun _ => ?_)
  refine lv_aload_n hx hb dX6_init_105 rfl (lv_at hl 1 rfl) ?_
  refine mb_get C S (ci := 6) (Cn := RX6) (T := TX6) (N := 9) 0 rfl rfl 6 (by decide) (show Cond.fieldLink RX6 42 "EtaSeries" "leaves" "[LEtaSeries$Leaf;" ∈ lw_tbl by decide +kernel) rfl dX6_init_106 ?_
  refine lv_iload_n hx hb dX6_init_109 rfl (lv_at hl 0 rfl) ?_
  refine mb_new C ha S (ci := 0) (Cn := RX0) (T := TX0) (fs := [.null, .int 0, .int 0, .int 0]) rfl (show Cond.classLink RX6 40 RX0 ∈ lw_tbl by decide +kernel) (show Cond.instantiable RX0 4 ∈ lw_tbl by decide +kernel) (show Cond.initialized RX0 ∈ lw_tbl by decide +kernel) tyX0 tyX0_ok (mb_df0) (Nat.le_of_ble_eq_true rfl) (Nat.le_of_ble_eq_true rfl) dX6_init_110 (fun H S => ?_)
  refine lv_dup hx hb dX6_init_113 rfl ?_
  refine mb_initN (ws := (([(B, .inr (6, [.ref (B + 1), .ref (B + 11), .ref (B + 73), .ref (B + 83), .int 0, .ref (B + 145), .ref (B + 199), .ref (B + 200), .ref (B + 202)])), (B + 199, .inl (cA 4, 4, .inr (.inr (.inr (.inr (va_up (va_up (fun _ => none) 0 (some (B + 204))) 1 (some (B + 206))))))))] ++ mb_b es_LC cA B mb_mu 1 198) ++ mb_b es_LC cA B mb_mu 200 8)) (As := []) (rest := [.ref (B + 208), .int 2, .ref (B + 199)]) (np := 0) (rm := { frames := 1, cells := 1, slots := 40, locals := 30 }) (host := "EtaSeries") C hml hl.1 S (k_X0 (B := B) (P := 208) (h := B + 208) (by omega) (by decide +kernel) (by decide +kernel)) (show Cond.code yX0_init cX0_init 1 none ∈ lw_tbl by decide +kernel) rfl rfl (show Cond.methodLinkNest RX6 56 yX0_init "EtaSeries" ∈ lw_tbl by decide +kernel) (show Cond.initialized RX0 ∈ lw_tbl by decide +kernel) (show Cond.instanceMethod yX0_init ∈ lw_tbl by decide +kernel) rfl (by decide +kernel) ⟨Nat.le_of_ble_eq_true rfl, Nat.le_of_ble_eq_true rfl⟩ rfl (Nat.le_of_ble_eq_true rfl) dX6_init_114 ⟨Nat.le_of_ble_eq_true rfl, Nat.le_of_ble_eq_true rfl⟩ (fun H locs S => ?_)
  have S : mb_S D s (B) 210 (([(B, .inr (6, [.ref (B + 1), .ref (B + 11), .ref (B + 73), .ref (B + 83), .int 0, .ref (B + 145), .ref (B + 199), .ref (B + 200), .ref (B + 202)])), (B + 199, .inl (cA 4, 4, .inr (.inr (.inr (.inr (va_up (va_up (fun _ => none) 0 (some (B + 204))) 1 (some (B + 206))))))))] ++ mb_b es_LC cA B mb_mu 1 198) ++ mb_b es_LC cA B mb_mu 200 10) H locs := mb_S.glue S (by omega) rfl
  refine mb_aast C S (t0 := 4) (r := (RX0, TX0, 4)) 1 208 rfl rfl ((mb_at2 (hd := [(B, .inr (6, [.ref (B + 1), .ref (B + 11), .ref (B + 73), .ref (B + 83), .int 0, .ref (B + 145), .ref (B + 199), .ref (B + 200), .ref (B + 202)])), (B + 199, .inl (cA 4, 4, .inr (.inr (.inr (.inr (va_up (va_up (fun _ => none) 0 (some (B + 204))) 1 (some (B + 206))))))))] ++ mb_b es_LC cA B mb_mu 1 198) (lo := 200) (n := 10) (i := 8) (by decide) (by simp [mb_b_len])).trans (congrArg some (mb_c14 (P := 208) (by decide +kernel)))) rfl (i := 2) (show vp_in (nI 2) 4 from vp_in_nI (by decide) (by decide)) dX6_init_117 (fun H locs S => ?_)
  rw [es_tc2] at S
  have S : mb_S D s (B) 210 (([(B, .inr (6, [.ref (B + 1), .ref (B + 11), .ref (B + 73), .ref (B + 83), .int 0, .ref (B + 145), .ref (B + 199), .ref (B + 200), .ref (B + 202)])), (B + 199, .inl (cA 4, 4, .inr (.inr (.inr (.inr (va_up (va_up (va_up (fun _ => none) 0 (some (B + 204))) 1 (some (B + 206))) 2 (some (B + 208))))))))] ++ mb_b es_LC cA B mb_mu 1 198) ++ mb_b es_LC cA B mb_mu 200 10) H locs := S
  refine lv_iinc (v := 3) (lv' := [(1, .int 3), (0, .ref (B))]) hx hb dX6_init_118 hl (k := 0) rfl (by decide +kernel) (by decide) rfl (fun ls hl => ?_)
  refine lv_goto (tgt := 96) hx hb dX6_init_121 (by decide) ?_
  refine lv_iload_n hx hb dX6_init_96 rfl (lv_at hl 0 rfl) ?_
  refine lv_aload_n hx hb dX6_init_97 rfl (lv_at hl 1 rfl) ?_
  refine mb_get C S (ci := 6) (Cn := RX6) (T := TX6) (N := 9) 0 rfl rfl 6 (by decide) (show Cond.fieldLink RX6 42 "EtaSeries" "leaves" "[LEtaSeries$Leaf;" ∈ lw_tbl by decide +kernel) rfl dX6_init_98 ?_
  refine va_alen (v := 4) hx hb hK S.2.1 1 4 rfl (mz_ty_at (i := 4) rfl) (show Int32.ofNat 4 = 4 from rfl) dX6_init_101 ?_
  refine lv_icmp_ge (tgt := 124) hx hb dX6_init_102 (by decide) (fun q => absurd q (by decide +kernel)) (fun _ => ?_)
  refine lv_aload_n hx hb dX6_init_105 rfl (lv_at hl 1 rfl) ?_
  refine mb_get C S (ci := 6) (Cn := RX6) (T := TX6) (N := 9) 0 rfl rfl 6 (by decide) (show Cond.fieldLink RX6 42 "EtaSeries" "leaves" "[LEtaSeries$Leaf;" ∈ lw_tbl by decide +kernel) rfl dX6_init_106 ?_
  refine lv_iload_n hx hb dX6_init_109 rfl (lv_at hl 0 rfl) ?_
  refine mb_new C ha S (ci := 0) (Cn := RX0) (T := TX0) (fs := [.null, .int 0, .int 0, .int 0]) rfl (show Cond.classLink RX6 40 RX0 ∈ lw_tbl by decide +kernel) (show Cond.instantiable RX0 4 ∈ lw_tbl by decide +kernel) (show Cond.initialized RX0 ∈ lw_tbl by decide +kernel) tyX0 tyX0_ok (mb_df0) (Nat.le_of_ble_eq_true rfl) (Nat.le_of_ble_eq_true rfl) dX6_init_110 (fun H S => ?_)
  refine lv_dup hx hb dX6_init_113 rfl ?_
  refine mb_initN (ws := (([(B, .inr (6, [.ref (B + 1), .ref (B + 11), .ref (B + 73), .ref (B + 83), .int 0, .ref (B + 145), .ref (B + 199), .ref (B + 200), .ref (B + 202)])), (B + 199, .inl (cA 4, 4, .inr (.inr (.inr (.inr (va_up (va_up (va_up (fun _ => none) 0 (some (B + 204))) 1 (some (B + 206))) 2 (some (B + 208))))))))] ++ mb_b es_LC cA B mb_mu 1 198) ++ mb_b es_LC cA B mb_mu 200 10)) (As := []) (rest := [.ref (B + 210), .int 3, .ref (B + 199)]) (np := 0) (rm := { frames := 1, cells := 1, slots := 40, locals := 30 }) (host := "EtaSeries") C hml hl.1 S (k_X0 (B := B) (P := 210) (h := B + 210) (by omega) (by decide +kernel) (by decide +kernel)) (show Cond.code yX0_init cX0_init 1 none ∈ lw_tbl by decide +kernel) rfl rfl (show Cond.methodLinkNest RX6 56 yX0_init "EtaSeries" ∈ lw_tbl by decide +kernel) (show Cond.initialized RX0 ∈ lw_tbl by decide +kernel) (show Cond.instanceMethod yX0_init ∈ lw_tbl by decide +kernel) rfl (by decide +kernel) ⟨Nat.le_of_ble_eq_true rfl, Nat.le_of_ble_eq_true rfl⟩ rfl (Nat.le_of_ble_eq_true rfl) dX6_init_114 ⟨Nat.le_of_ble_eq_true rfl, Nat.le_of_ble_eq_true rfl⟩ (fun H locs S => ?_)
  have S : mb_S D s (B) 212 (([(B, .inr (6, [.ref (B + 1), .ref (B + 11), .ref (B + 73), .ref (B + 83), .int 0, .ref (B + 145), .ref (B + 199), .ref (B + 200), .ref (B + 202)])), (B + 199, .inl (cA 4, 4, .inr (.inr (.inr (.inr (va_up (va_up (va_up (fun _ => none) 0 (some (B + 204))) 1 (some (B + 206))) 2 (some (B + 208))))))))] ++ mb_b es_LC cA B mb_mu 1 198) ++ mb_b es_LC cA B mb_mu 200 12) H locs := mb_S.glue S (by omega) rfl
  refine mb_aast C S (t0 := 4) (r := (RX0, TX0, 4)) 1 210 rfl rfl ((mb_at2 (hd := [(B, .inr (6, [.ref (B + 1), .ref (B + 11), .ref (B + 73), .ref (B + 83), .int 0, .ref (B + 145), .ref (B + 199), .ref (B + 200), .ref (B + 202)])), (B + 199, .inl (cA 4, 4, .inr (.inr (.inr (.inr (va_up (va_up (va_up (fun _ => none) 0 (some (B + 204))) 1 (some (B + 206))) 2 (some (B + 208))))))))] ++ mb_b es_LC cA B mb_mu 1 198) (lo := 200) (n := 12) (i := 10) (by decide) (by simp [mb_b_len])).trans (congrArg some (mb_c14 (P := 210) (by decide +kernel)))) rfl (i := 3) (show vp_in (nI 3) 4 from vp_in_nI (by decide) (by decide)) dX6_init_117 (fun H locs S => ?_)
  rw [es_tc3] at S
  have S : mb_S D s (B) 212 (([(B, .inr (6, [.ref (B + 1), .ref (B + 11), .ref (B + 73), .ref (B + 83), .int 0, .ref (B + 145), .ref (B + 199), .ref (B + 200), .ref (B + 202)])), (B + 199, .inl (cA 4, 4, .inr (.inr (.inr (.inr (va_up (va_up (va_up (va_up (fun _ => none) 0 (some (B + 204))) 1 (some (B + 206))) 2 (some (B + 208))) 3 (some (B + 210))))))))] ++ mb_b es_LC cA B mb_mu 1 198) ++ mb_b es_LC cA B mb_mu 200 12) H locs := S
  refine lv_iinc (v := 4) (lv' := [(1, .int 4), (0, .ref (B))]) hx hb dX6_init_118 hl (k := 0) rfl (by decide +kernel) (by decide) rfl (fun ls hl => ?_)
  refine lv_goto (tgt := 96) hx hb dX6_init_121 (by decide) ?_
  refine lv_iload_n hx hb dX6_init_96 rfl (lv_at hl 0 rfl) ?_
  refine lv_aload_n hx hb dX6_init_97 rfl (lv_at hl 1 rfl) ?_
  refine mb_get C S (ci := 6) (Cn := RX6) (T := TX6) (N := 9) 0 rfl rfl 6 (by decide) (show Cond.fieldLink RX6 42 "EtaSeries" "leaves" "[LEtaSeries$Leaf;" ∈ lw_tbl by decide +kernel) rfl dX6_init_98 ?_
  refine va_alen (v := 4) hx hb hK S.2.1 1 4 rfl (mz_ty_at (i := 4) rfl) (show Int32.ofNat 4 = 4 from rfl) dX6_init_101 ?_
  refine lv_icmp_ge (tgt := 124) hx hb dX6_init_102 (by decide) (fun _ => ?_) (fun q => absurd (by decide +kernel) q)
  refine mb_end C hr hlocks S ?_ mb_b_D (Nat.le_of_ble_eq_true rfl) (Nat.le_of_ble_eq_true rfl) dX6_init_124
  refine mb_P_of (fun q hq => ?_)
  obtain ⟨i, hi, rfl⟩ := mb_b_mem hq
  rcases (show i = 0 ∨ i = 199 ∨ (1 ≤ i ∧ i ≤ 198) ∨ 200 ≤ i by omega) with rfl | rfl | h1 | h2
  · show va_at D vwCl (mb_c es_LC cA B mb_mu 0) H
    rw [mb_c0]; exact S.2.1 0 _ rfl
  · rw [mb_c13 (P := 0 + 199) (by decide +kernel)]
    refine mb_arr (S.2.1 1 _ rfl) (fun j hj => ?_)
    rcases (show j = 0 ∨ j = 1 ∨ j = 2 ∨ j = 3 by omega) with rfl | rfl | rfl | rfl <;> rfl
  · exact mb_mem S.2.1 (List.mem_append_left _ (List.mem_append_right _ (mb_in (by omega) (by omega))))
  · exact mb_mem S.2.1 (List.mem_append_right _ (mb_in (by omega) (by omega)))
