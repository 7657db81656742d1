/-- one draw -/
def es_nd (x : Int32) : Nat := (x.toInt.toNat * 1103515245 + 12345) % 2147483648
def es_td (S : es_Sn) : es_Sn := es_sr (S.1, S.2.1, nI (es_nd S.2.2)) (es_nd S.2.2 / 65536 % 4) (es_kd (1 + es_nd S.2.2 / 65536 / 4 % 3) (es_nd S.2.2 / 65536 / 16 % 9 + 1) S.2.1)
theorem es_k1 : (1103515245 : Int64) = lN 1103515245 := by decide +kernel
theorem es_k2 : (12345 : Int64) = lN 12345 := by decide +kernel
theorem es_k3 : (2147483647 : Int64) = lN (2 ^ 31 - 1) := by decide +kernel
theorem es_draw {x : Int32} (h : 0 ≤ x.toInt) : (((x.toInt64 * 1103515245) + 12345) &&& 2147483647 : Int64).toInt32 = nI (es_nd x) := by
  have hdr : x = nI x.toInt.toNat := es_nIof h
  have hrng := fb_rng x
  unfold es_nd
  generalize hn : x.toInt.toNat = n at hdr ⊢
  rw [hdr, nI_l (by omega), es_k1, es_k2, es_k3, lN_mul, lN_add, fb_maskL, lN_i]
theorem es_nd_lt (x : Int32) : es_nd x < 2147483648 := by
  unfold es_nd
  exact Nat.mod_lt _ (Nat.le_of_ble_eq_true rfl)
theorem es_nIpos {N : Nat} (h : N < 2147483648) : 0 ≤ (nI N).toInt := by
  rw [nI_toInt (by omega)]
  exact Int.natCast_nonneg N
theorem es_sh_draw {μ : mz_M} {q : Nat} {S : es_Sn} {w : Int32} (h : es_sh μ q S) (hw : 0 ≤ w.toInt) : es_sh (mz_wI μ q 2 w) q (S.1, S.2.1, w) := by
  obtain ⟨h1, h2, h3, h4, h5, h6⟩ := h
  have hf : es_fr (fun z => z = q) μ (mz_wI μ q 2 w) := es_fw1
  refine ⟨fun k hk => (h1 k hk).kept hf (by omega) (by omega), ?_, ?_, h4, h5, hw⟩
  · rw [mz_wI_at, if_neg (by omega)]; exact h2
  · rw [mz_wI_at, if_pos ⟨rfl, rfl⟩]
theorem s_turnDraw (d : Nat) {q : Nat} {μ : mz_M} {S : es_Sn} (h : es_sh μ q S) : es_V (d + 4) n_Shelf_turnDraw [mz_R 1 q] μ (fun μ' => es_fr (es_bk q 10) μ μ' ∧ es_sh μ' q (es_td S)) := by
  refine es_V.mk (w_Shelf_turnDraw_0 q μ ⟨by decide +kernel, ?_⟩)
  obtain ⟨h1, h2, h3, h4, h5, h6⟩ := h
  have hv : ((((μ.1 q 2).toInt64 * 1103515245) + 12345) &&& 2147483647 : Int64).toInt32 = nI (es_nd S.2.2) := by
    rw [h3]
    exact es_draw h6
  rw [hv]
  have hnd := es_nd_lt S.2.2
  generalize hN : es_nd S.2.2 = N at hnd ⊢
  rw [mz_wI_at, if_pos ⟨rfl, rfl⟩]
  have e1 : nI N / 65536 = nI (N / 65536) := pk_div (d := 65536) (by omega) (by omega) (by omega)
  rw [e1]
  refine ⟨_, _, es_pure (s_floorMod (d + 2) (a := N / 65536) (m := 4) (by omega) (by omega) (by omega) _), vp_in_nI (Nat.mod_lt _ (by omega)) (by omega), by decide +kernel, by decide +kernel, by decide +kernel, by decide +kernel, ?_⟩
  have e2 : nI (N / 65536) / 4 = nI (N / 65536 / 4) := pk_div (d := 4) (by omega) (by omega) (by omega)
  have e3 : nI (N / 65536) / 16 = nI (N / 65536 / 16) := pk_div (d := 16) (by omega) (by omega) (by omega)
  have e4 : nI (N / 65536 / 4) - nI (N / 65536 / 4) / 3 * 3 = nI (N / 65536 / 4 % 3) := pk_rem (d := 3) (by omega) (by omega) (by omega)
  have e5 : nI (N / 65536 / 16) - nI (N / 65536 / 16) / 9 * 9 = nI (N / 65536 / 16 % 9) := pk_rem (d := 9) (by omega) (by omega) (by omega)
  rw [e2, e3, e4, e5, nI_1, show (1 : Int32) = nI 1 from rfl, nI_add, es_clamp (by omega), mz_wI_at, if_neg (by omega), h2]
  have hw : es_fr (fun z => z = q) μ (mz_wI μ q 2 (nI N)) := es_fw1
  obtain ⟨μ1, hC, hf1, hr1⟩ := s_become d (p := q + 1 + 1 + 2 * (N / 65536 % 4)) (kind := 1 + N / 65536 / 4 % 3) (dd := N / 65536 / 16 % 9 + 1) (n := S.2.1) (by omega) (by omega) h5 (by omega) (mz_wI μ q 2 (nI N))
  refine ⟨_, hC, es_rV ⟨(hw.mono (fun z hz => ⟨by omega, by omega⟩)).tr (hf1.mono (fun z hz => by unfold es_2 at hz; unfold es_bk; omega)), ?_⟩⟩
  unfold es_td
  rw [hN]
  have hN4 : N / 65536 % 4 < 4 := Nat.mod_lt _ (by decide)
  have hsh : es_sh (mz_wI μ q 2 (nI N)) q (S.1, S.2.1, nI N) := es_sh_draw ⟨h1, h2, h3, h4, h5, h6⟩ (es_nIpos hnd)
  exact es_sr_sh hsh hN4 hf1 hr1
