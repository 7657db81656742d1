/-! How the class's cells begin. -/
def mb_i (t k : Nat) : Int32 := if t = 1 then (if k = 1 then 24 else if k = 2 then 1 else 0) else if t = 9 then (if k = 8 then -1000004 else if k = 9 then -1000004 else 0) else 0
def mb_mu : mz_M := (fun p k => mb_i (es_LC.getD p 0) k, fun _ _ => 0)
theorem mb_mu_at {p t : Nat} (h : es_LC.getD p 0 = t) : mb_mu.1 p = mb_i t := by
  funext k
  show mb_i (es_LC.getD p 0) k = _
  rw [h]
def mb_ls : List Nat := [1, 2, 3, 4, 3, 4, 3, 4, 3, 4]
def mb_lp : List Nat := [5, 6] ++ mb_ls ++ mb_ls ++ mb_ls ++ mb_ls ++ mb_ls ++ mb_ls
theorem mb_lp_ls0 : ∀ k, k < 6 → ∀ i, i < 10 → mb_lp.getD (2 + 10 * k + i) 0 = mb_ls.getD i 0 := by decide +kernel
theorem mb_lp_ls (k i : Nat) (hk : k < 6) (hi : i < 10) : mb_lp.getD (2 + 10 * k + i) 0 = mb_ls.getD i 0 := mb_lp_ls0 k hk i hi
section MBM
variable {cA : Nat → ClassId} {B P : Nat}
theorem mb_c1 (h : es_LC.getD P 0 = 1) : mb_c es_LC cA B mb_mu P = (B + P, .inr (4, [.ref (B + (P + 1)), .int 24, .int 1])) := by
  unfold mb_c
  rw [h]
  show (B + P, Sum.inr (4, [Value.ref (B + (P + 1)), Value.int (mb_mu.1 P 1), Value.int (mb_mu.1 P 2)])) = _
  rw [mb_mu_at h]; rfl
theorem mb_c2 (h : es_LC.getD P 0 = 2) : mb_c es_LC cA B mb_mu P = (B + P, .inl (cA 2, 4, .inr (.inr (.inr (.inr (fun i => some (B + (P + 1 + 2 * i)))))))) := by
  unfold mb_c
  rw [h]; rfl
theorem mb_c3 (h : es_LC.getD P 0 = 3) : mb_c es_LC cA B mb_mu P = (B + P, .inr (3, [.ref (B + (P + 1)), .int 0])) := by
  unfold mb_c
  rw [h]
  show (B + P, Sum.inr (3, [Value.ref (B + (P + 1)), Value.int (mb_mu.1 P 1)])) = _
  rw [mb_mu_at h]; rfl
theorem mb_c4 (h : es_LC.getD P 0 = 4) : mb_c es_LC cA B mb_mu P = (B + P, .inl (cA 0, 40, .inl (fun _ => 0))) := by
  unfold mb_c
  rw [h]
  show (B + P, Sum.inl (cA 0, 40, Sum.inl (mb_mu.1 P))) = _
  rw [mb_mu_at h]; rfl
theorem mb_c5 (h : es_LC.getD P 0 = 5) : mb_c es_LC cA B mb_mu P = (B + P, .inr (2, [.ref (B + (P + 1)), .int 0, .int 0])) := by
  unfold mb_c
  rw [h]
  show (B + P, Sum.inr (2, [Value.ref (B + (P + 1)), Value.int (mb_mu.1 P 1), Value.int (mb_mu.1 P 2)])) = _
  rw [mb_mu_at h]; rfl
theorem mb_c6 (h : es_LC.getD P 0 = 6) : mb_c es_LC cA B mb_mu P = (B + P, .inl (cA 3, 6, .inr (.inr (.inr (.inr (fun i => some (B + (P + 1 + 10 * i)))))))) := by
  unfold mb_c
  rw [h]; rfl
theorem mb_c7 (h : es_LC.getD P 0 = 7) : mb_c es_LC cA B mb_mu P = (B + P, .inr (5, [.ref (B + (P + 1)), .int 0, .int 0, .int 0, .ref (B + (P + 2)), .ref (B + (P + 3)), .int 0])) := by
  unfold mb_c
  rw [h]
  show (B + P, Sum.inr (5, [Value.ref (B + (P + 1)), Value.int (mb_mu.1 P 1), Value.int (mb_mu.1 P 2), Value.int (mb_mu.1 P 3), Value.ref (B + (P + 2)), Value.ref (B + (P + 3)), Value.int (mb_mu.1 P 6)])) = _
  rw [mb_mu_at h]; rfl
theorem mb_c8 (h : es_LC.getD P 0 = 8) : mb_c es_LC cA B mb_mu P = (B + P, .inl (cA 0, 60, .inl (fun _ => 0))) := by
  unfold mb_c
  rw [h]
  show (B + P, Sum.inl (cA 0, 60, Sum.inl (mb_mu.1 P))) = _
  rw [mb_mu_at h]; rfl
theorem mb_c9 (h : es_LC.getD P 0 = 9) : mb_c es_LC cA B mb_mu P = (B + P, .inr (1, [.ref (B + 146), .ref (B + (P + 5)), .ref (B + (P + 6)), .ref (B + (P + 7)), .ref (B + (P + 8)), .ref (B + (P + 10)), .int 0, .int 0, .int (-1000004), .int (-1000004)])) := by
  unfold mb_c
  rw [h]
  show (B + P, Sum.inr (1, [Value.ref (B + 146), Value.ref (B + (P + 5)), Value.ref (B + (P + 6)), Value.ref (B + (P + 7)), Value.ref (B + (P + 8)), Value.ref (B + (P + 10)), Value.int (mb_mu.1 P 6), Value.int (mb_mu.1 P 7), Value.int (mb_mu.1 P 8), Value.int (mb_mu.1 P 9)])) = _
  rw [mb_mu_at h]; rfl
theorem mb_c10 (h : es_LC.getD P 0 = 10) : mb_c es_LC cA B mb_mu P = (B + P, .inl (cA 2, 7, .inr (.inr (.inr (.inr (fun i => some (B + (157 + 6 * i)))))))) := by
  unfold mb_c
  rw [h]; rfl
theorem mb_c11 (h : es_LC.getD P 0 = 11) : mb_c es_LC cA B mb_mu P = (B + P, .inl (cA 2, 7, .inr (.inr (.inr (.inr (fun i => some (B + (159 + 6 * i)))))))) := by
  unfold mb_c
  rw [h]; rfl
theorem mb_c12 (h : es_LC.getD P 0 = 12) : mb_c es_LC cA B mb_mu P = (B + P, .inl (cA 2, 7, .inr (.inr (.inr (.inr (fun i => some (B + (161 + 6 * i)))))))) := by
  unfold mb_c
  rw [h]; rfl
theorem mb_c13 (h : es_LC.getD P 0 = 13) : mb_c es_LC cA B mb_mu P = (B + P, .inl (cA 4, 4, .inr (.inr (.inr (.inr (fun i => some (B + (204 + 2 * i)))))))) := by
  unfold mb_c
  rw [h]; rfl
theorem mb_c14 (h : es_LC.getD P 0 = 14) : mb_c es_LC cA B mb_mu P = (B + P, .inr (0, [.ref (B + (P + 1)), .int 0, .int 0, .int 0])) := by
  unfold mb_c
  rw [h]
  show (B + P, Sum.inr (0, [Value.ref (B + (P + 1)), Value.int (mb_mu.1 P 1), Value.int (mb_mu.1 P 2), Value.int (mb_mu.1 P 3)])) = _
  rw [mb_mu_at h]; rfl
theorem mb_c15 (h : es_LC.getD P 0 = 15) : mb_c es_LC cA B mb_mu P = (B + P, .inl (cA 1, 40, .inr (.inl (fun _ => 0)))) := by
  unfold mb_c
  rw [h]; rfl
theorem mb_c0 : mb_c es_LC cA B mb_mu 0 = (B, .inr (6, [.ref (B + 1), .ref (B + 11), .ref (B + 73), .ref (B + 83), .int 0, .ref (B + 145), .ref (B + 199), .ref (B + 200), .ref (B + 202)])) := rfl
theorem mb_in {LAY : List Nat} {μ : mz_M} {lo n i : Nat} (h1 : lo ≤ i) (h2 : i < lo + n) : mb_c LAY cA B μ i ∈ mb_b LAY cA B μ lo n := by
  have h := mb_b_at (LAY := LAY) (cA := cA) (B := B) (μ := μ) (lo := lo) (n := n) (i := i - lo) (by omega)
  rw [show lo + (i - lo) = i by omega] at h
  exact List.mem_of_getElem? h
theorem mb_at2 {LAY : List Nat} {μ : mz_M} {hd : va_W} {lo n i k : Nat} (hi : i < n) (hk : k = hd.length + i) : (hd ++ mb_b LAY cA B μ lo n)[k]? = some (mb_c LAY cA B μ (lo + i)) := by
  subst hk
  rw [List.getElem?_append_right (by omega), show hd.length + i - hd.length = i by omega]
  exact mb_b_at hi
theorem mb_S.glue {LAY : List Nat} {μ : mz_M} {D : va_G} {s : State} {a N lo m lo2 k mk : Nat} {hd : va_W} {H : Heap} {locs : List Loc} (S : mb_S D s a N ((hd ++ mb_b LAY cA B μ lo m) ++ mb_b LAY cA B μ lo2 k) H locs) (h1 : lo2 = lo + m) (h2 : m + k = mk) : mb_S D s a N (hd ++ mb_b LAY cA B μ lo mk) H locs := by
  subst h1
  subst h2
  rw [mb_b_app, ← List.append_assoc]
  exact S
theorem mb_D_cons {A : Nat → Prop} {ws : va_W} {x : Nat × va_E} (h : va_D A ws) (hA : A x.1) (hne : ∀ q ∈ ws, q.1 ≠ x.1) : va_D A (x :: ws) := by
  refine ⟨fun i j p q hi hj hpq => ?_, fun k q hk => ?_⟩
  · cases i with
    | zero =>
      cases j with
      | zero => rfl
      | succ j =>
        cases hi
        exact absurd hpq.symm (hne q (List.mem_of_getElem? (i := j) hj))
    | succ i =>
      cases j with
      | zero =>
        cases hj
        exact absurd hpq (hne p (List.mem_of_getElem? (i := i) hi))
      | succ j => rw [h.1 i j p q hi hj hpq]
  · cases k with
    | zero => cases hk; exact hA
    | succ k => exact h.2 k q hk
end MBM
theorem es_tc0 : (0 : Int32).toNatClampNeg = 0 := by decide +kernel
theorem es_tc1 : (1 : Int32).toNatClampNeg = 1 := by decide +kernel
theorem es_tc2 : (2 : Int32).toNatClampNeg = 2 := by decide +kernel
theorem es_tc3 : (3 : Int32).toNatClampNeg = 3 := by decide +kernel
theorem es_tc4 : (4 : Int32).toNatClampNeg = 4 := by decide +kernel
theorem es_tc5 : (5 : Int32).toNatClampNeg = 5 := by decide +kernel
theorem es_tc6 : (6 : Int32).toNatClampNeg = 6 := by decide +kernel

abbrev cX3_init : ByteArray := prog_5_method_1_code
def yX3_init : MethodName := ⟨RX3, "<init>", "()V"⟩
theorem dX3_init_0 : decode cX3_init 0 = .ok (.aload_n 0, 1) := by decide +kernel
theorem dX3_init_1 : decode cX3_init 1 = .ok (.invokespecial 3, 3) := by decide +kernel
theorem dX3_init_4 : decode cX3_init 4 = .ok (.aload_n 0, 1) := by decide +kernel
theorem dX3_init_5 : decode cX3_init 5 = .ok (.bipush 40, 2) := by decide +kernel
theorem dX3_init_7 : decode cX3_init 7 = .ok (.newarray .int, 2) := by decide +kernel
theorem dX3_init_9 : decode cX3_init 9 = .ok (.putfield 9, 3) := by decide +kernel
theorem dX3_init_12 : decode cX3_init 12 = .ok (.aload_n 0, 1) := by decide +kernel
theorem dX3_init_13 : decode cX3_init 13 = .ok (.iconst 0, 1) := by decide +kernel
theorem dX3_init_14 : decode cX3_init 14 = .ok (.putfield 15, 3) := by decide +kernel
theorem dX3_init_17 : decode cX3_init 17 = .ok (.return_, 1) := by decide +kernel
theorem mb_df3 : ∀ j, j < 2 → defaultValue (tyX3 j) = vp_V [.null, .int 0] j := by
  intro j hj
  rcases (show j = 0 ∨ j = 1 by omega) with rfl | rfl <;> rfl
set_option maxHeartbeats 4000000 in
set_option maxRecDepth 100000 in
theorem k_X3 {l : Launch} {D : va_G} {cA : Nat → ClassId} {B P h : Nat} (hh : h = B + P) (h0 : es_LC.getD P 0 = 3) (h1 : es_LC.getD (P + 1) 0 = 4) : Met l yX3_init (mz_ws lw_tbl (mb_me yX3_init cX3_init 1)) { frames := 1, cells := 1, slots := 40, locals := 30 } (mb_Pre D cA [.ref h] h 3 [.null, .int 0]) (mb_Post D h 2 (mb_b es_LC cA B mb_mu P 2)) 1 40 (fun q => h ≤ q) := by
  subst hh
  refine mb_ofW (by decide +kernel) rfl ?_
  intro p e s m below meth c C hin hml hr hlocks ha S
  obtain ⟨hx, hb, hown, gw, hK, hN, hO⟩ := id C
  have hl := lv_entry ([.ref (B + P)] : List Value) (n := 1) (Nat.le_of_ble_eq_true rfl)
  rw [lg_entry_eq]
  generalize (lg_sl ([.ref (B + P)] : List Value) ++ List.replicate (1 - (lg_sl ([.ref (B + P)] : List Value)).length) Slot.unset).toArray = ls at hl ⊢
  have hl : lv_has ls 1 [(0, .ref (B + P))] := hl
  generalize hH : s.heap = H at S ⊢
  generalize hlc : ([] : List Loc) = locs at S ⊢
  refine lv_aload_n hx hb dX3_init_0 rfl (lv_at hl 0 rfl) ?_
  refine W.objInit hx hb hown (gw _ (show Cond.methodLink RX3 3 Lib.objectInit ∈ lw_tbl by decide +kernel) rfl) (gw _ (show Cond.instanceMethod Lib.objectInit ∈ lw_tbl by decide +kernel) rfl) (gw _ (show Cond.code Lib.objectInit ⟨#[0xb1]⟩ 1 none ∈ lw_tbl by decide +kernel) rfl) rfl (by rw [hml]; exact hl.1) rfl dX3_init_1 (Nat.le_of_ble_eq_true rfl) (Nat.le_of_ble_eq_true rfl) ?_
  refine W.eq (g2 := F0 m 4 ls []) rfl ?_
  refine lv_aload_n hx hb dX3_init_4 rfl (lv_at hl 0 rfl) ?_
  refine lv_bipush (v := 40) hx hb dX3_init_5 (by decide +kernel) ?_
  refine mb_newi (N := 40) C ha S (show Cond.arrayClass .int ∈ lw_tbl by decide +kernel) (by decide +kernel) (by decide +kernel) (Nat.le_of_ble_eq_true rfl) (Nat.le_of_ble_eq_true rfl) (Nat.le_of_ble_eq_true rfl) dX3_init_7 (fun H S => ?_)
  have S : mb_S D s (B + P) 2 [(B + P, .inr (3, [.null, .int 0])), (B + P + 1, .inl (cA 0, 40, .inl (fun _ => 0)))] H locs := S
  refine mb_putF C hin S (ci := 3) (Cn := RX3) (T := TX3) (N := 2) 0 rfl rfl 0 (by decide) (show Cond.fieldLink RX3 9 "EtaSeries$Row" "terms" "[I" ∈ lw_tbl by decide +kernel) rfl rfl (ty := (.array .int)) (by decide +kernel) rfl rfl (Nat.le_of_ble_eq_true rfl) dX3_init_9 (fun H locs S => ?_)
  have S : mb_S D s (B + P) 2 [(B + P, .inr (3, [.ref (B + P + 1), .int 0])), (B + P + 1, .inl (cA 0, 40, .inl (fun _ => 0)))] H locs := S
  refine lv_aload_n hx hb dX3_init_12 rfl (lv_at hl 0 rfl) ?_
  refine lv_iconst (v := 0) hx hb dX3_init_13 (by decide +kernel) ?_
  refine mb_put C S (ci := 3) (Cn := RX3) (T := TX3) (N := 2) 0 rfl rfl 1 (by decide) (show Cond.fieldLink RX3 15 "EtaSeries$Row" "size" "I" ∈ lw_tbl by decide +kernel) rfl (ty := .int) (by decide +kernel) rfl rfl (Nat.le_of_ble_eq_true rfl) dX3_init_14 (fun H locs S => ?_)
  have S : mb_S D s (B + P) 2 [(B + P, .inr (3, [.ref (B + P + 1), .int 0])), (B + P + 1, .inl (cA 0, 40, .inl (fun _ => 0)))] H locs := S
  refine mb_end C hr hlocks S ?_ mb_b_D (Nat.le_of_ble_eq_true rfl) (Nat.le_of_ble_eq_true rfl) dX3_init_17
  refine mb_P_of (fun q hq => ?_)
  obtain ⟨i, hi, rfl⟩ := mb_b_mem hq
  rcases (show i = 0 ∨ i = 1 by omega) with rfl | rfl
  · rw [mb_c3 (P := P + 0) h0]; exact S.2.1 0 _ rfl
  · rw [mb_c4 (P := P + 1) h1]; exact S.2.1 1 _ rfl
abbrev cX0_init : ByteArray := prog_2_method_1_code
def yX0_init : MethodName := ⟨RX0, "<init>", "()V"⟩
theorem dX0_init_0 : decode cX0_init 0 = .ok (.aload_n 0, 1) := by decide +kernel
theorem dX0_init_1 : decode cX0_init 1 = .ok (.invokespecial 3, 3) := by decide +kernel
theorem dX0_init_4 : decode cX0_init 4 = .ok (.aload_n 0, 1) := by decide +kernel
theorem dX0_init_5 : decode cX0_init 5 = .ok (.bipush 40, 2) := by decide +kernel
theorem dX0_init_7 : decode cX0_init 7 = .ok (.newarray .long, 2) := by decide +kernel
theorem dX0_init_9 : decode cX0_init 9 = .ok (.putfield 9, 3) := by decide +kernel
theorem dX0_init_12 : decode cX0_init 12 = .ok (.aload_n 0, 1) := by decide +kernel
theorem dX0_init_13 : decode cX0_init 13 = .ok (.iconst 0, 1) := by decide +kernel
theorem dX0_init_14 : decode cX0_init 14 = .ok (.putfield 15, 3) := by decide +kernel
theorem dX0_init_17 : decode cX0_init 17 = .ok (.aload_n 0, 1) := by decide +kernel
theorem dX0_init_18 : decode cX0_init 18 = .ok (.iconst 0, 1) := by decide +kernel
theorem dX0_init_19 : decode cX0_init 19 = .ok (.putfield 19, 3) := by decide +kernel
theorem dX0_init_22 : decode cX0_init 22 = .ok (.aload_n 0, 1) := by decide +kernel
theorem dX0_init_23 : decode cX0_init 23 = .ok (.iconst 0, 1) := by decide +kernel
theorem dX0_init_24 : decode cX0_init 24 = .ok (.putfield 23, 3) := by decide +kernel
theorem dX0_init_27 : decode cX0_init 27 = .ok (.return_, 1) := by decide +kernel
theorem mb_df0 : ∀ j, j < 4 → defaultValue (tyX0 j) = vp_V [.null, .int 0, .int 0, .int 0] j := by
  intro j hj
  rcases (show j = 0 ∨ j = 1 ∨ j = 2 ∨ j = 3 by omega) with rfl | rfl | rfl | rfl <;> rfl
set_option maxHeartbeats 4000000 in
set_option maxRecDepth 100000 in
theorem k_X0 {l : Launch} {D : va_G} {cA : Nat → ClassId} {B P h : Nat} (hh : h = B + P) (h0 : es_LC.getD P 0 = 14) (h1 : es_LC.getD (P + 1) 0 = 15) : Met l yX0_init (mz_ws lw_tbl (mb_me yX0_init cX0_init 1)) { frames := 1, cells := 1, slots := 40, locals := 30 } (mb_Pre D cA [.ref h] h 0 [.null, .int 0, .int 0, .int 0]) (mb_Post D h 2 (mb_b es_LC cA B mb_mu P 2)) 1 40 (fun q => h ≤ q) := by
  subst hh
  refine mb_ofW (by decide +kernel) rfl ?_
  intro p e s m below meth c C hin hml hr hlocks ha S
  obtain ⟨hx, hb, hown, gw, hK, hN, hO⟩ := id C
  have hl := lv_entry ([.ref (B + P)] : List Value) (n := 1) (Nat.le_of_ble_eq_true rfl)
  rw [lg_entry_eq]
  generalize (lg_sl ([.ref (B + P)] : List Value) ++ List.replicate (1 - (lg_sl ([.ref (B + P)] : List Value)).length) Slot.unset).toArray = ls at hl ⊢
  have hl : lv_has ls 1 [(0, .ref (B + P))] := hl
  generalize hH : s.heap = H at S ⊢
  generalize hlc : ([] : List Loc) = locs at S ⊢
  refine lv_aload_n hx hb dX0_init_0 rfl (lv_at hl 0 rfl) ?_
  refine W.objInit hx hb hown (gw _ (show Cond.methodLink RX0 3 Lib.objectInit ∈ lw_tbl by decide +kernel) rfl) (gw _ (show Cond.instanceMethod Lib.objectInit ∈ lw_tbl by decide +kernel) rfl) (gw _ (show Cond.code Lib.objectInit ⟨#[0xb1]⟩ 1 none ∈ lw_tbl by decide +kernel) rfl) rfl (by rw [hml]; exact hl.1) rfl dX0_init_1 (Nat.le_of_ble_eq_true rfl) (Nat.le_of_ble_eq_true rfl) ?_
  refine W.eq (g2 := F0 m 4 ls []) rfl ?_
  refine lv_aload_n hx hb dX0_init_4 rfl (lv_at hl 0 rfl) ?_
  refine lv_bipush (v := 40) hx hb dX0_init_5 (by decide +kernel) ?_
  refine mb_newl (N := 40) C ha S (show Cond.arrayClass .long ∈ lw_tbl by decide +kernel) (by decide +kernel) (by decide +kernel) (Nat.le_of_ble_eq_true rfl) (Nat.le_of_ble_eq_true rfl) (Nat.le_of_ble_eq_true rfl) dX0_init_7 (fun H S => ?_)
  have S : mb_S D s (B + P) 2 [(B + P, .inr (0, [.null, .int 0, .int 0, .int 0])), (B + P + 1, .inl (cA 1, 40, .inr (.inl (fun _ => 0))))] H locs := S
  refine mb_putF C hin S (ci := 0) (Cn := RX0) (T := TX0) (N := 4) 0 rfl rfl 0 (by decide) (show Cond.fieldLink RX0 9 "EtaSeries$Leaf" "items" "[J" ∈ lw_tbl by decide +kernel) rfl rfl (ty := (.array .long)) (by decide +kernel) rfl rfl (Nat.le_of_ble_eq_true rfl) dX0_init_9 (fun H locs S => ?_)
  have S : mb_S D s (B + P) 2 [(B + P, .inr (0, [.ref (B + P + 1), .int 0, .int 0, .int 0])), (B + P + 1, .inl (cA 1, 40, .inr (.inl (fun _ => 0))))] H locs := S
  refine lv_aload_n hx hb dX0_init_12 rfl (lv_at hl 0 rfl) ?_
  refine lv_iconst (v := 0) hx hb dX0_init_13 (by decide +kernel) ?_
  refine mb_put C S (ci := 0) (Cn := RX0) (T := TX0) (N := 4) 0 rfl rfl 1 (by decide) (show Cond.fieldLink RX0 15 "EtaSeries$Leaf" "held" "Z" ∈ lw_tbl by decide +kernel) rfl (ty := .boolean) (by decide +kernel) rfl rfl (Nat.le_of_ble_eq_true rfl) dX0_init_14 (fun H locs S => ?_)
  have S : mb_S D s (B + P) 2 [(B + P, .inr (0, [.ref (B + P + 1), .int 0, .int 0, .int 0])), (B + P + 1, .inl (cA 1, 40, .inr (.inl (fun _ => 0))))] H locs := S
  refine lv_aload_n hx hb dX0_init_17 rfl (lv_at hl 0 rfl) ?_
  refine lv_iconst (v := 0) hx hb dX0_init_18 (by decide +kernel) ?_
  refine mb_put C S (ci := 0) (Cn := RX0) (T := TX0) (N := 4) 0 rfl rfl 2 (by decide) (show Cond.fieldLink RX0 19 "EtaSeries$Leaf" "lane" "I" ∈ lw_tbl by decide +kernel) rfl (ty := .int) (by decide +kernel) rfl rfl (Nat.le_of_ble_eq_true rfl) dX0_init_19 (fun H locs S => ?_)
  have S : mb_S D s (B + P) 2 [(B + P, .inr (0, [.ref (B + P + 1), .int 0, .int 0, .int 0])), (B + P + 1, .inl (cA 1, 40, .inr (.inl (fun _ => 0))))] H locs := S
  refine lv_aload_n hx hb dX0_init_22 rfl (lv_at hl 0 rfl) ?_
  refine lv_iconst (v := 0) hx hb dX0_init_23 (by decide +kernel) ?_
  refine mb_put C S (ci := 0) (Cn := RX0) (T := TX0) (N := 4) 0 rfl rfl 3 (by decide) (show Cond.fieldLink RX0 23 "EtaSeries$Leaf" "size" "I" ∈ lw_tbl by decide +kernel) rfl (ty := .int) (by decide +kernel) rfl rfl (Nat.le_of_ble_eq_true rfl) dX0_init_24 (fun H locs S => ?_)
  have S : mb_S D s (B + P) 2 [(B + P, .inr (0, [.ref (B + P + 1), .int 0, .int 0, .int 0])), (B + P + 1, .inl (cA 1, 40, .inr (.inl (fun _ => 0))))] H locs := S
  refine mb_end C hr hlocks S ?_ mb_b_D (Nat.le_of_ble_eq_true rfl) (Nat.le_of_ble_eq_true rfl) dX0_init_27
  refine mb_P_of (fun q hq => ?_)
  obtain ⟨i, hi, rfl⟩ := mb_b_mem hq
  rcases (show i = 0 ∨ i = 1 by omega) with rfl | rfl
  · rw [mb_c14 (P := P + 0) h0]; exact S.2.1 0 _ rfl
  · rw [mb_c15 (P := P + 1) h1]; exact S.2.1 1 _ rfl
abbrev cX5_init : ByteArray := prog_7_method_1_code
def yX5_init : MethodName := ⟨RX5, "<init>", "()V"⟩
theorem dX5_init_0 : decode cX5_init 0 = .ok (.aload_n 0, 1) := by decide +kernel
theorem dX5_init_1 : decode cX5_init 1 = .ok (.invokespecial 3, 3) := by decide +kernel
theorem dX5_init_4 : decode cX5_init 4 = .ok (.aload_n 0, 1) := by decide +kernel
theorem dX5_init_5 : decode cX5_init 5 = .ok (.bipush 60, 2) := by decide +kernel
theorem dX5_init_7 : decode cX5_init 7 = .ok (.newarray .int, 2) := by decide +kernel
theorem dX5_init_9 : decode cX5_init 9 = .ok (.putfield 9, 3) := by decide +kernel
theorem dX5_init_12 : decode cX5_init 12 = .ok (.aload_n 0, 1) := by decide +kernel
theorem dX5_init_13 : decode cX5_init 13 = .ok (.iconst 0, 1) := by decide +kernel
theorem dX5_init_14 : decode cX5_init 14 = .ok (.putfield 15, 3) := by decide +kernel
theorem dX5_init_17 : decode cX5_init 17 = .ok (.aload_n 0, 1) := by decide +kernel
theorem dX5_init_18 : decode cX5_init 18 = .ok (.iconst 0, 1) := by decide +kernel
theorem dX5_init_19 : decode cX5_init 19 = .ok (.putfield 19, 3) := by decide +kernel
theorem dX5_init_22 : decode cX5_init 22 = .ok (.aload_n 0, 1) := by decide +kernel
theorem dX5_init_23 : decode cX5_init 23 = .ok (.iconst 0, 1) := by decide +kernel
theorem dX5_init_24 : decode cX5_init 24 = .ok (.putfield 22, 3) := by decide +kernel
theorem dX5_init_27 : decode cX5_init 27 = .ok (.aload_n 0, 1) := by decide +kernel
theorem dX5_init_28 : decode cX5_init 28 = .ok (.bipush 60, 2) := by decide +kernel
theorem dX5_init_30 : decode cX5_init 30 = .ok (.newarray .int, 2) := by decide +kernel
theorem dX5_init_32 : decode cX5_init 32 = .ok (.putfield 25, 3) := by decide +kernel
theorem dX5_init_35 : decode cX5_init 35 = .ok (.aload_n 0, 1) := by decide +kernel
theorem dX5_init_36 : decode cX5_init 36 = .ok (.bipush 60, 2) := by decide +kernel
theorem dX5_init_38 : decode cX5_init 38 = .ok (.newarray .int, 2) := by decide +kernel
theorem dX5_init_40 : decode cX5_init 40 = .ok (.putfield 28, 3) := by decide +kernel
theorem dX5_init_43 : decode cX5_init 43 = .ok (.aload_n 0, 1) := by decide +kernel
theorem dX5_init_44 : decode cX5_init 44 = .ok (.iconst 0, 1) := by decide +kernel
theorem dX5_init_45 : decode cX5_init 45 = .ok (.putfield 31, 3) := by decide +kernel
theorem dX5_init_48 : decode cX5_init 48 = .ok (.return_, 1) := by decide +kernel
theorem mb_df5 : ∀ j, j < 7 → defaultValue (tyX5 j) = vp_V [.null, .int 0, .int 0, .int 0, .null, .null, .int 0] j := by
  intro j hj
  rcases (show j = 0 ∨ j = 1 ∨ j = 2 ∨ j = 3 ∨ j = 4 ∨ j = 5 ∨ j = 6 by omega) with rfl | rfl | rfl | rfl | rfl | rfl | rfl <;> rfl
set_option maxHeartbeats 4000000 in
set_option maxRecDepth 100000 in
theorem k_X5 {l : Launch} {D : va_G} {cA : Nat → ClassId} {B P h : Nat} (hh : h = B + P) (h0 : es_LC.getD P 0 = 7) (h1 : es_LC.getD (P + 1) 0 = 8) (h2 : es_LC.getD (P + 2) 0 = 8) (h3 : es_LC.getD (P + 3) 0 = 8) : Met l yX5_init (mz_ws lw_tbl (mb_me yX5_init cX5_init 1)) { frames := 1, cells := 3, slots := 180, locals := 30 } (mb_Pre D cA [.ref h] h 5 [.null, .int 0, .int 0, .int 0, .null, .null, .int 0]) (mb_Post D h 4 (mb_b es_LC cA B mb_mu P 4)) 3 180 (fun q => h ≤ q) := by
  subst hh
  refine mb_ofW (by decide +kernel) rfl ?_
  intro p e s m below meth c C hin hml hr hlocks ha S
  obtain ⟨hx, hb, hown, gw, hK, hN, hO⟩ := id C
  have hl := lv_entry ([.ref (B + P)] : List Value) (n := 1) (Nat.le_of_ble_eq_true rfl)
  rw [lg_entry_eq]
  generalize (lg_sl ([.ref (B + P)] : List Value) ++ List.replicate (1 - (lg_sl ([.ref (B + P)] : List Value)).length) Slot.unset).toArray = ls at hl ⊢
  have hl : lv_has ls 1 [(0, .ref (B + P))] := hl
  generalize hH : s.heap = H at S ⊢
  generalize hlc : ([] : List Loc) = locs at S ⊢
  refine lv_aload_n hx hb dX5_init_0 rfl (lv_at hl 0 rfl) ?_
  refine W.objInit hx hb hown (gw _ (show Cond.methodLink RX5 3 Lib.objectInit ∈ lw_tbl by decide +kernel) rfl) (gw _ (show Cond.instanceMethod Lib.objectInit ∈ lw_tbl by decide +kernel) rfl) (gw _ (show Cond.code Lib.objectInit ⟨#[0xb1]⟩ 1 none ∈ lw_tbl by decide +kernel) rfl) rfl (by rw [hml]; exact hl.1) rfl dX5_init_1 (Nat.le_of_ble_eq_true rfl) (Nat.le_of_ble_eq_true rfl) ?_
  refine W.eq (g2 := F0 m 4 ls []) rfl ?_
  refine lv_aload_n hx hb dX5_init_4 rfl (lv_at hl 0 rfl) ?_
  refine lv_bipush (v := 60) hx hb dX5_init_5 (by decide +kernel) ?_
  refine mb_newi (N := 60) C ha S (show Cond.arrayClass .int ∈ lw_tbl by decide +kernel) (by decide +kernel) (by decide +kernel) (Nat.le_of_ble_eq_true rfl) (Nat.le_of_ble_eq_true rfl) (Nat.le_of_ble_eq_true rfl) dX5_init_7 (fun H S => ?_)
  have S : mb_S D s (B + P) 2 [(B + P, .inr (5, [.null, .int 0, .int 0, .int 0, .null, .null, .int 0])), (B + P + 1, .inl (cA 0, 60, .inl (fun _ => 0)))] H locs := S
  refine mb_putF C hin S (ci := 5) (Cn := RX5) (T := TX5) (N := 7) 0 rfl rfl 0 (by decide) (show Cond.fieldLink RX5 9 "EtaSeries$Tape" "letters" "[I" ∈ lw_tbl by decide +kernel) rfl rfl (ty := (.array .int)) (by decide +kernel) rfl rfl (Nat.le_of_ble_eq_true rfl) dX5_init_9 (fun H locs S => ?_)
  have S : mb_S D s (B + P) 2 [(B + P, .inr (5, [.ref (B + P + 1), .int 0, .int 0, .int 0, .null, .null, .int 0])), (B + P + 1, .inl (cA 0, 60, .inl (fun _ => 0)))] H locs := S
  refine lv_aload_n hx hb dX5_init_12 rfl (lv_at hl 0 rfl) ?_
  refine lv_iconst (v := 0) hx hb dX5_init_13 (by decide +kernel) ?_
  refine mb_put C S (ci := 5) (Cn := RX5) (T := TX5) (N := 7) 0 rfl rfl 1 (by decide) (show Cond.fieldLink RX5 15 "EtaSeries$Tape" "size" "I" ∈ lw_tbl by decide +kernel) rfl (ty := .int) (by decide +kernel) rfl rfl (Nat.le_of_ble_eq_true rfl) dX5_init_14 (fun H locs S => ?_)
  have S : mb_S D s (B + P) 2 [(B + P, .inr (5, [.ref (B + P + 1), .int 0, .int 0, .int 0, .null, .null, .int 0])), (B + P + 1, .inl (cA 0, 60, .inl (fun _ => 0)))] H locs := S
  refine lv_aload_n hx hb dX5_init_17 rfl (lv_at hl 0 rfl) ?_
  refine lv_iconst (v := 0) hx hb dX5_init_18 (by decide +kernel) ?_
  refine mb_put C S (ci := 5) (Cn := RX5) (T := TX5) (N := 7) 0 rfl rfl 2 (by decide) (show Cond.fieldLink RX5 19 "EtaSeries$Tape" "place" "I" ∈ lw_tbl by decide +kernel) rfl (ty := .int) (by decide +kernel) rfl rfl (Nat.le_of_ble_eq_true rfl) dX5_init_19 (fun H locs S => ?_)
  have S : mb_S D s (B + P) 2 [(B + P, .inr (5, [.ref (B + P + 1), .int 0, .int 0, .int 0, .null, .null, .int 0])), (B + P + 1, .inl (cA 0, 60, .inl (fun _ => 0)))] H locs := S
  refine lv_aload_n hx hb dX5_init_22 rfl (lv_at hl 0 rfl) ?_
  refine lv_iconst (v := 0) hx hb dX5_init_23 (by decide +kernel) ?_
  refine mb_put C S (ci := 5) (Cn := RX5) (T := TX5) (N := 7) 0 rfl rfl 3 (by decide) (show Cond.fieldLink RX5 22 "EtaSeries$Tape" "open" "I" ∈ lw_tbl by decide +kernel) rfl (ty := .int) (by decide +kernel) rfl rfl (Nat.le_of_ble_eq_true rfl) dX5_init_24 (fun H locs S => ?_)
  have S : mb_S D s (B + P) 2 [(B + P, .inr (5, [.ref (B + P + 1), .int 0, .int 0, .int 0, .null, .null, .int 0])), (B + P + 1, .inl (cA 0, 60, .inl (fun _ => 0)))] H locs := S
  refine lv_aload_n hx hb dX5_init_27 rfl (lv_at hl 0 rfl) ?_
  refine lv_bipush (v := 60) hx hb dX5_init_28 (by decide +kernel) ?_
  refine mb_newi (N := 60) C ha S (show Cond.arrayClass .int ∈ lw_tbl by decide +kernel) (by decide +kernel) (by decide +kernel) (Nat.le_of_ble_eq_true rfl) (Nat.le_of_ble_eq_true rfl) (Nat.le_of_ble_eq_true rfl) dX5_init_30 (fun H S => ?_)
  have S : mb_S D s (B + P) 3 [(B + P, .inr (5, [.ref (B + P + 1), .int 0, .int 0, .int 0, .null, .null, .int 0])), (B + P + 1, .inl (cA 0, 60, .inl (fun _ => 0))), (B + P + 2, .inl (cA 0, 60, .inl (fun _ => 0)))] H locs := S
  refine mb_putF C hin S (ci := 5) (Cn := RX5) (T := TX5) (N := 7) 0 rfl rfl 4 (by decide) (show Cond.fieldLink RX5 25 "EtaSeries$Tape" "signs" "[I" ∈ lw_tbl by decide +kernel) rfl rfl (ty := (.array .int)) (by decide +kernel) rfl rfl (Nat.le_of_ble_eq_true rfl) dX5_init_32 (fun H locs S => ?_)
  have S : mb_S D s (B + P) 3 [(B + P, .inr (5, [.ref (B + P + 1), .int 0, .int 0, .int 0, .ref (B + P + 2), .null, .int 0])), (B + P + 1, .inl (cA 0, 60, .inl (fun _ => 0))), (B + P + 2, .inl (cA 0, 60, .inl (fun _ => 0)))] H locs := S
  refine lv_aload_n hx hb dX5_init_35 rfl (lv_at hl 0 rfl) ?_
  refine lv_bipush (v := 60) hx hb dX5_init_36 (by decide +kernel) ?_
  refine mb_newi (N := 60) C ha S (show Cond.arrayClass .int ∈ lw_tbl by decide +kernel) (by decide +kernel) (by decide +kernel) (Nat.le_of_ble_eq_true rfl) (Nat.le_of_ble_eq_true rfl) (Nat.le_of_ble_eq_true rfl) dX5_init_38 (fun H S => ?_)
  have S : mb_S D s (B + P) 4 [(B + P, .inr (5, [.ref (B + P + 1), .int 0, .int 0, .int 0, .ref (B + P + 2), .null, .int 0])), (B + P + 1, .inl (cA 0, 60, .inl (fun _ => 0))), (B + P + 2, .inl (cA 0, 60, .inl (fun _ => 0))), (B + P + 3, .inl (cA 0, 60, .inl (fun _ => 0)))] H locs := S
  refine mb_putF C hin S (ci := 5) (Cn := RX5) (T := TX5) (N := 7) 0 rfl rfl 5 (by decide) (show Cond.fieldLink RX5 28 "EtaSeries$Tape" "values" "[I" ∈ lw_tbl by decide +kernel) rfl rfl (ty := (.array .int)) (by decide +kernel) rfl rfl (Nat.le_of_ble_eq_true rfl) dX5_init_40 (fun H locs S => ?_)
  have S : mb_S D s (B + P) 4 [(B + P, .inr (5, [.ref (B + P + 1), .int 0, .int 0, .int 0, .ref (B + P + 2), .ref (B + P + 3), .int 0])), (B + P + 1, .inl (cA 0, 60, .inl (fun _ => 0))), (B + P + 2, .inl (cA 0, 60, .inl (fun _ => 0))), (B + P + 3, .inl (cA 0, 60, .inl (fun _ => 0)))] H locs := S
  refine lv_aload_n hx hb dX5_init_43 rfl (lv_at hl 0 rfl) ?_
  refine lv_iconst (v := 0) hx hb dX5_init_44 (by decide +kernel) ?_
  refine mb_put C S (ci := 5) (Cn := RX5) (T := TX5) (N := 7) 0 rfl rfl 6 (by decide) (show Cond.fieldLink RX5 31 "EtaSeries$Tape" "signCount" "I" ∈ lw_tbl by decide +kernel) rfl (ty := .int) (by decide +kernel) rfl rfl (Nat.le_of_ble_eq_true rfl) dX5_init_45 (fun H locs S => ?_)
  have S : mb_S D s (B + P) 4 [(B + P, .inr (5, [.ref (B + P + 1), .int 0, .int 0, .int 0, .ref (B + P + 2), .ref (B + P + 3), .int 0])), (B + P + 1, .inl (cA 0, 60, .inl (fun _ => 0))), (B + P + 2, .inl (cA 0, 60, .inl (fun _ => 0))), (B + P + 3, .inl (cA 0, 60, .inl (fun _ => 0)))] H locs := S
  refine mb_end C hr hlocks S ?_ mb_b_D (Nat.le_of_ble_eq_true rfl) (Nat.le_of_ble_eq_true rfl) dX5_init_48
  refine mb_P_of (fun q hq => ?_)
  obtain ⟨i, hi, rfl⟩ := mb_b_mem hq
  rcases (show i = 0 ∨ i = 1 ∨ i = 2 ∨ i = 3 by omega) with rfl | rfl | rfl | rfl
  · rw [mb_c7 (P := P + 0) h0]; exact S.2.1 0 _ rfl
  · rw [mb_c8 (P := P + 1) h1]; exact S.2.1 1 _ rfl
  · rw [mb_c8 (P := P + 2) h2]; exact S.2.1 2 _ rfl
  · rw [mb_c8 (P := P + 3) h3]; exact S.2.1 3 _ rfl
