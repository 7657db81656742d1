/-! The reference: powers, changes; make, join, change. -/
def mo_x3 : Nat → Nat → Prop := fun q k => q = 0 ∧ (k = 2 ∨ k = 4 ∨ k = 6)
def mo_y3 : Nat → Prop := fun q => q = 2 ∨ q = 3 ∨ q = 4
theorem mo_x3_1 : ∀ q k, mo_x1 2 q k → mo_x3 q k := fun q k h => by unfold mo_x1 at h; unfold mo_x3; omega
theorem mo_x3_2 : ∀ q k, mo_x1 4 q k → mo_x3 q k := fun q k h => by unfold mo_x1 at h; unfold mo_x3; omega
theorem mo_x3_3 : ∀ q k, mo_x1 6 q k → mo_x3 q k := fun q k h => by unfold mo_x1 at h; unfold mo_x3; omega
theorem mo_y3_1 : ∀ q, mo_y1 2 q → mo_y3 q := fun q h => by unfold mo_y1 at h; unfold mo_y3; omega
theorem mo_y3_2 : ∀ q, mo_y1 3 q → mo_y3 q := fun q h => by unfold mo_y1 at h; unfold mo_y3; omega
theorem mo_y3_3 : ∀ q, mo_y1 4 q → mo_y3 q := fun q h => by unfold mo_y1 at h; unfold mo_y3; omega
theorem mo_x3_X : ∀ q k, mo_x3 q k → mo_X q k := fun q k h => by unfold mo_x3 at h; unfold mo_X; omega
theorem mo_y3_Y : ∀ q, mo_y3 q → mo_Y q := fun q h => by unfold mo_y3 at h; unfold mo_Y; omega
theorem r_powers (d : Nat) {μ : mz_M} {l : List Int} {v : Nat} (h : mo_ls μ 4 6 l) (ho : es_ok l) (hne : l ≠ []) (hv : v ≤ 100) : es_I (d + 4) n_Mo_powers [mz_R 16 0, mz_I (nI v)] μ (mo_got mo_x3 mo_y3 (tx_pw l v) μ) := by
  have c1 := h.1
  have hl1 : 1 ≤ l.length := by
    cases l with
    | nil => exact absurd rfl hne
    | cons a b => exact Nat.succ_pos _
  obtain ⟨μ1, hC1, hf1, h1⟩ := r_copiesToTwo (d + 2) h
  obtain ⟨μ2, hC2, hf2, h2⟩ := r_makes (d + 1) (kind := 0) (d := 0) (n := l.length) (Or.inl ⟨rfl, rfl⟩) hl1 c1 μ1
  refine es_I.mk (w_Mo_powers_0 0 _ μ ⟨_, hC1, ?_⟩)
  rw [h.2.1]
  refine ⟨_, hC2, ?_⟩
  have hf12 : mo_f mo_x3 mo_y3 μ μ2 := (hf1.mono mo_x3_2 mo_y3_2).tr (hf2.mono mo_x3_3 mo_y3_3)
  generalize hb : (fun k => l.getD k 0) = b
  have k0 : es_kd 0 0 l.length = es_ls l.length (es_pwf b 0) := by
    unfold es_kd
    refine es_ls_cong (fun k hk => ?_)
    rw [es_bp0]
    rfl
  have ok0 : es_ok (es_ls l.length (es_pwf b 0)) := by
    refine ⟨by rw [es_ls_len]; exact c1, fun k hk => ?_⟩
    rw [es_ls_len] at hk
    rw [es_ls_at _ hk]
    show _ ≤ (if k = 0 then (1 : Int) else 0) ∧ (if k = 0 then (1 : Int) else 0) ≤ _
    split <;> omega
  unfold tx_pw
  rw [hb]
  have bad : ∀ (k : Nat) (μ' : mz_M), k < 200 → es_pwd l.length b v = true → mo_f mo_x3 mo_y3 μ μ' → v_Mo_powers (es_R (d + 3)) (es_qI (mo_got mo_x3 mo_y3 (if es_pwd l.length b v = true then .inl (-1000005) else .inr (es_ls l.length (es_pwf b v))) μ)) (21, [(0, mz_R 16 0), (1, mz_I (nI v)), (3, mz_I (-1000005)), (4, mz_I (nI k))], [], μ') := by
    intro k μ' hk hw hf
    have ans : es_qI (mo_got mo_x3 mo_y3 (if es_pwd l.length b v = true then .inl (-1000005) else .inr (es_ls l.length (es_pwf b v))) μ) (some (mz_I (-1000005))) μ' := by
      rw [if_pos hw]
      exact es_rI ⟨hf, rfl, es_w0⟩
    exact w_Mo_powers_21 0 _ _ _ μ' (es_br (fun _ => ans) (fun _ => es_f (by decide +kernel) ans))
  have key : ∀ (g k : Nat) (μ' : mz_M), k + g = v → mo_f mo_x3 mo_y3 μ μ' → mo_ls μ' 3 4 l → mo_ls μ' 4 6 (es_ls l.length (es_pwf b k)) → es_ok (es_ls l.length (es_pwf b k)) → es_pwd l.length b k = false → v_Mo_powers (es_R (d + 3)) (es_qI (mo_got mo_x3 mo_y3 (if es_pwd l.length b v = true then .inl (-1000005) else .inr (es_ls l.length (es_pwf b v))) μ)) (21, [(0, mz_R 16 0), (1, mz_I (nI v)), (3, mz_I 0), (4, mz_I (nI k))], [], μ') := by
    intro g
    induction g with
    | zero =>
      intro k μ' hk hf h3 h4 hok hpd
      have hk : k = v := by omega
      subst hk
      refine w_Mo_powers_21 0 _ _ _ μ' (es_t (nI_le (by omega) (by omega)) (es_rI ⟨hf, ?_⟩))
      rw [if_neg (by rw [hpd]; decide)]
      exact ⟨rfl, h4⟩
    | succ g ih =>
      intro k μ' hk hf h3 h4 hok hpd
      obtain ⟨μa, hCa, hfa, ha⟩ := r_goesOn (d + 2) h4
      have h3a : mo_ls μa 3 4 l := h3.kept hfa (by unfold mo_x1; omega) (by unfold mo_y1; omega)
      obtain ⟨r, μb, hCb, hfb, hm⟩ := r_joins d (a := 2) (by omega) ha h3a hok ho hne
      refine w_Mo_powers_21 0 _ _ _ μ' (es_f (nI_ge (by omega) (by omega)) (es_t rfl ⟨_, hCa, _, _, hCb, ?_⟩))
      have hfab : mo_f mo_x3 mo_y3 μ μb := (hf.tr (hfa.mono mo_x3_1 mo_y3_1)).tr (hfb.mono mo_x3_3 mo_y3_3)
      have hcong : ∀ i, i < l.length → es_cv (fun k' => (es_ls l.length (es_pwf b k)).getD k' 0) (fun k => l.getD k 0) i = es_pwf b (k + 1) i := by
        intro i hi
        rw [hb]
        exact es_cv_cong (fun t ht => es_ls_at _ (by omega)) (fun t _ => rfl)
      have hjr : es_jr 2 (es_ls l.length (es_pwf b k)) l = es_wr l.length (es_pwf b (k + 1)) := by
        unfold es_jr
        rw [if_neg (by decide), if_neg (by decide), if_pos rfl, es_ls_len, Nat.min_self]
        unfold es_wr
        rw [es_wd_cong hcong, es_ls_cong hcong]
      rw [hjr] at hm
      rw [nI_1]
      cases hw : es_wd (es_pwf b (k + 1)) l.length with
      | true =>
        have e1 : es_wr l.length (es_pwf b (k + 1)) = .inl (-1000005) := by
          unfold es_wr
          rw [if_pos hw]
        rw [e1] at hm
        rw [hm.1]
        refine bad (k + 1) μb (by omega) (es_pwd_up (t := k + 1) (by omega) ?_) hfab
        show (es_pwd l.length b k || es_wd (es_pwf b (k + 1)) l.length) = true
        rw [hw, Bool.or_true]
      | false =>
        have e1 : es_wr l.length (es_pwf b (k + 1)) = .inr (es_ls l.length (es_pwf b (k + 1))) := by
          unfold es_wr
          rw [if_neg (by rw [hw]; decide)]
        have hok2 := (es_wr_ok c1 e1).1
        rw [e1] at hm
        rw [hm.1]
        refine ih (k + 1) μb (by omega) hfab (h3a.kept hfb (by unfold mo_x1; omega) (by unfold mo_y1; omega)) hm.2 hok2 ?_
        show (es_pwd l.length b k || es_wd (es_pwf b (k + 1)) l.length) = false
        rw [hw, hpd]; rfl
  refine key v 0 μ2 (by omega) hf12 (h1.kept hf2 (by unfold mo_x1; omega) (by unfold mo_y1; omega)) ?_ ok0 rfl
  rw [← k0]
  exact h2
theorem tx_pw_ok {l l2 : List Int} {v : Nat} (hl : es_ok l) (h : tx_pw l v = .inr l2) : es_ok l2 ∧ l2.length = l.length := by
  unfold tx_pw at h
  by_cases e : es_pwd l.length (fun k => l.getD k 0) v = true
  · rw [if_pos e] at h; cases h
  · rw [if_neg e] at h
    cases h
    refine ⟨⟨by rw [es_ls_len]; exact hl.1, fun k hk => ?_⟩, es_ls_len _ _⟩
    rw [es_ls_len] at hk
    rw [es_ls_at _ hk]
    cases v with
    | zero =>
      show _ ≤ (if k = 0 then (1 : Int) else 0) ∧ (if k = 0 then (1 : Int) else 0) ≤ _
      split <;> omega
    | succ v =>
      have e2 : (es_pwd l.length (fun k => l.getD k 0) v || es_wd (es_pwf (fun k => l.getD k 0) (v + 1)) l.length) = false := Bool.of_not_eq_true e
      rw [Bool.or_eq_false_iff] at e2
      exact es_big_f (es_wd_f e2.2 hk)
theorem es_ceil {L m t : Nat} (hm : 1 ≤ m) (h1 : L ≤ t * m) (h2 : 0 < t → (t - 1) * m < L) : (L + m - 1) / m = t := by
  cases t with
  | zero =>
    rw [Nat.zero_mul] at h1
    rw [show L = 0 by omega, Nat.zero_add, Nat.div_eq_of_lt (by omega)]
  | succ t =>
    have h2 := h2 (by omega)
    rw [Nat.add_sub_cancel] at h2
    rw [Nat.succ_mul] at h1
    apply Nat.div_eq_of_lt_le
    · rw [Nat.succ_mul]; omega
    · rw [Nat.succ_mul, Nat.succ_mul]; omega
theorem r_changes (d : Nat) {μ : mz_M} {l : List Int} {a : Nat} {v : Int32} (h : mo_ls μ 2 2 l) (ho : es_ok l) (hne : l ≠ []) (hk : (a = 0 ∧ 0 ≤ v.toInt ∧ v.toInt ≤ 9) ∨ (a = 1 ∧ 1 ≤ v.toInt ∧ v.toInt ≤ 8) ∨ (a = 2 ∧ v.toInt = 0) ∨ (a = 3 ∧ 10 ≤ v.toInt ∧ v.toInt < 90 ∧ v.toInt % 10 < v.toInt / 10) ∨ (a = 4 ∧ 1 ≤ v.toInt ∧ v.toInt ≤ l.length) ∨ (a = 5 ∧ 0 ≤ v.toInt ∧ v.toInt ≤ 8) ∨ (a = 6 ∧ -99 ≤ v.toInt ∧ v.toInt ≤ 99)) :
    es_I (d + 5) n_Mo_changes [mz_R 16 0, mz_I (nI a), mz_I v] μ (mo_got mo_x3 mo_y3 (es_cr a v.toInt l) μ) := by
  have c1 := h.1
  have aq : ∀ c : Nat, c < 10 → (nI a = nI c ↔ a = c) := fun c hc => nI_eq (by omega) (by omega)
  have n10 : ¬ (10 : Int32) = 0 := by decide +kernel
  -- a part
  have part : a = 3 → ∀ μ1 : mz_M, mo_f mo_x3 mo_y3 μ μ1 → mo_ls μ1 2 2 l → μ1.1 0 6 = 0 → v_Mo_changes (es_R (d + 4)) (es_qI (mo_got mo_x3 mo_y3 (es_cr a v.toInt l) μ)) (32, [(0, mz_R 16 0), (2, mz_I v), (3, mz_I (v - v / 10 * 10))], [], μ1) := by
    intro e3 μ1 hf1 h1 h6
    obtain ⟨w, hw1, hw2, hw3, rfl⟩ : ∃ w : Nat, 10 ≤ w ∧ w < 90 ∧ w % 10 < w / 10 ∧ v = nI w := ⟨v.toInt.toNat, by omega, by omega, by omega, es_nIof (by omega)⟩
    have d1 : (nI w / 10) = nI (w / 10) := pk_div (d := 10) (by omega) (by omega) (by omega)
    have d2 : (nI w - nI w / 10 * 10) = nI (w % 10) := pk_rem (d := 10) (by omega) (by omega) (by omega)
    rw [d2]
    unfold es_cr
    rw [if_pos e3, nI_toInt (by omega)]
    simp only [Int.toNat_natCast]
    have hm9 : w / 10 ≤ 8 := by omega
    have hm1 : 1 ≤ w / 10 := by omega
    have hr9 : w % 10 ≤ 9 := by omega
    generalize w / 10 = m at d1 hm9 hm1
    generalize w % 10 = r at hr9
    have key : ∀ (g t : Nat) (μ' : mz_M), l.length ≤ r + t * m + g → (0 < t → r + (t - 1) * m < l.length) → t ≤ 40 → mo_f mo_x3 mo_y3 μ μ' → mo_ls μ' 2 2 l → μ'.1 0 6 = nI t → (∀ j, j < t → (μ'.2 4 j).toInt = l.getD (r + j * m) 0) → v_Mo_changes (es_R (d + 4)) (es_qI (mo_got mo_x3 mo_y3 (if l.length ≤ r then .inl (-1000002) else .inr (es_ls ((l.length - r + m - 1) / m) (fun k => l.getD (r + k * m) 0))) μ)) (32, [(0, mz_R 16 0), (2, mz_I (nI w)), (3, mz_I (nI (r + t * m)))], [], μ') := by
      intro g
      have stop : ∀ (t : Nat) (μ' : mz_M), l.length ≤ r + t * m → (0 < t → r + (t - 1) * m < l.length) → t ≤ 40 → mo_f mo_x3 mo_y3 μ μ' → mo_ls μ' 2 2 l → μ'.1 0 6 = nI t → (∀ j, j < t → (μ'.2 4 j).toInt = l.getD (r + j * m) 0) → v_Mo_changes (es_R (d + 4)) (es_qI (mo_got mo_x3 mo_y3 (if l.length ≤ r then .inl (-1000002) else .inr (es_ls ((l.length - r + m - 1) / m) (fun k => l.getD (r + k * m) 0))) μ)) (32, [(0, mz_R 16 0), (2, mz_I (nI w)), (3, mz_I (nI (r + t * m)))], [], μ') := by
        intro t μ' hle hlt ht hf h2 h6 hc
        have htm : t * m ≤ 40 * 8 := Nat.mul_le_mul ht hm9
        refine w_Mo_changes_32 0 _ _ μ' (es_t (by rw [h2.2.1]; exact nI_le hle (by omega)) ?_)
        rw [h6]
        refine es_br (fun q => es_rI ⟨hf, ?_⟩) (fun q => es_rI ⟨hf, ?_⟩)
        · have q := (nI_eq (b := 0) (by omega) (by omega)).mp q
          subst q
          rw [Nat.zero_mul] at hle
          rw [if_pos (by omega)]
          exact ⟨rfl, es_n0⟩
        · have q : ¬ t = 0 := fun z => q (by rw [z]; rfl)
          have hlt := hlt (by omega)
          rw [if_neg (by omega), es_ceil (t := t) hm1 (by omega) (fun _ => by omega)]
          refine ⟨rfl, by rw [es_ls_len]; exact ht, by rw [es_ls_len]; exact h6, fun j hj => ?_⟩
          rw [es_ls_len] at hj
          rw [es_ls_at _ hj]
          exact hc j hj
      induction g with
      | zero => exact fun t μ' hg hlt ht hf h2 h6 hc => stop t μ' (by omega) hlt ht hf h2 h6 hc
      | succ g ih =>
        intro t μ' hg hlt ht hf h2 h6 hc
        by_cases hle : l.length ≤ r + t * m
        · exact stop t μ' hle hlt ht hf h2 h6 hc
        · have htm : t * 1 ≤ t * m := Nat.mul_le_mul_left t hm1
          refine w_Mo_changes_32 0 _ _ μ' (es_f (by rw [h2.2.1]; exact nI_ge (by omega) (by omega)) ⟨vp_in_nI (by omega) (by omega), ?_⟩)
          rw [h6, es_clamp (show t < 2147483648 by omega), es_clamp (show r + t * m < 2147483648 by omega), d1, nI_add, show r + t * m + m = r + (t + 1) * m by rw [Nat.succ_mul]; omega]
          have e6 : (mz_wL μ' 4 t (μ'.2 2 (r + t * m))).1 0 6 = nI t := h6
          rw [e6, nI_1]
          refine ⟨vp_in_nI (by omega) (by omega), n10, ih (t + 1) _ (by rw [Nat.succ_mul]; omega) (fun _ => by rw [Nat.add_sub_cancel]; omega) (by omega) ((hf.wL (by unfold mo_y3; omega)).wI (by unfold mo_x3; omega)) ?_ ?_ (fun j hj => ?_)⟩
          · exact h2.kept (X := mo_x1 6) (Y := mo_y1 4) (mo_f.wI (X := mo_x1 6) (mo_f.wL (Y := mo_y1 4) mo_f.rf rfl) (show mo_x1 6 0 6 from ⟨rfl, rfl⟩)) (by unfold mo_x1; omega) (by unfold mo_y1; omega)
          · rw [mz_wI_at, if_pos ⟨rfl, rfl⟩]
          · show ((mz_wL μ' 4 t (μ'.2 2 (r + t * m))).2 4 j).toInt = _
            rw [mz_wL_at]
            by_cases e : j = t
            · rw [if_pos ⟨rfl, e⟩, e]
              exact h2.2.2 _ (by omega)
            · rw [if_neg (fun z => e z.2)]
              exact hc j (by omega)
    have := key l.length 0 μ1 (by omega) (fun z => absurd z (Nat.lt_irrefl 0)) (by omega) hf1 h1 h6 (fun j hj => absurd hj (Nat.not_lt_zero j))
    rw [Nat.zero_mul] at this
    exact this
  -- the others
  have other : a ≠ 3 → ∀ (n : Nat) (μ1 : mz_M), n = (if a = 4 then v.toInt.toNat else l.length) → mo_f mo_x3 mo_y3 μ μ1 → mo_ls μ1 2 2 l → μ1.1 0 6 = nI n → v_Mo_changes (es_R (d + 4)) (es_qI (mo_got mo_x3 mo_y3 (es_cr a v.toInt l) μ)) (91, [(0, mz_R 16 0), (1, mz_I (nI a)), (2, mz_I v), (3, mz_I 0)], [], μ1) := by
    intro e3 n μ1 hn hf1 h1 h6
    have hnl : n ≤ l.length := by
      rw [hn]
      split <;> omega
    obtain ⟨f, hf0⟩ : ∃ f : Nat → Int, f = if a = 5 then (fun k => l.getD k 0) else es_cf a v.toInt l := ⟨_, rfl⟩
    have fin : ∀ (μ' : mz_M), mo_f mo_x3 mo_y3 μ μ' → μ'.1 0 6 = nI n → (∀ j, j < n → (μ'.2 4 j).toInt = f j) → (if (nI a : Int32) = (5 : Int32) then
        (∃ (r2 : Int32) (μ1 : mz_M), es_R (d + 4) n_Mo_powers [mz_R 16 0, mz_I v] μ' (some (mz_I r2)) μ1 ∧
          (es_qI (mo_got mo_x3 mo_y3 (es_cr a v.toInt l) μ) (some (mz_I r2)) μ1))
      else
        (∃ (r4 : Int32) (μ3 : mz_M), es_R (d + 4) n_Mo_wide [mz_R 16 0] μ' (some (mz_I r4)) μ3 ∧
          (es_qI (mo_got mo_x3 mo_y3 (es_cr a v.toInt l) μ) (some (mz_I r4)) μ3))) := by
      intro μ' hf h6' hc
      unfold es_cr
      rw [if_neg e3]
      refine es_br (fun q => ?_) (fun q => ?_)
      · have q := (aq 5 (by omega)).mp q
        rw [if_pos q] at hf0
        rw [if_neg (by omega)] at hn
        rw [if_pos q]
        have hls : mo_ls μ' 4 6 l := ⟨c1, by rw [h6', hn], fun j hj => by rw [hc j (by omega), hf0]⟩
        obtain ⟨w, hw, rfl⟩ : ∃ w : Nat, w ≤ 8 ∧ v = nI w := ⟨v.toInt.toNat, by omega, es_nIof (by omega)⟩
        obtain ⟨r, μ2, hC, hf2, hm⟩ := r_powers d (v := w) hls ho hne (by omega)
        refine ⟨_, _, hC, es_rI ⟨hf.tr hf2, ?_⟩⟩
        rw [nI_toInt (by omega)]
        exact hm
      · have q : ¬ a = 5 := fun z => q ((aq 5 (by omega)).mpr z)
        rw [if_neg q] at hf0
        rw [if_neg q]
        refine ⟨_, _, es_pure (r_wide (d + 2) (by omega) h6' hc), es_rI ⟨hf, ?_⟩⟩
        rw [hf0, ← hn]
        unfold es_wr
        by_cases e : es_wd (es_cf a v.toInt l) n = true
        · rw [if_pos e, if_pos e]
          exact ⟨rfl, es_w0⟩
        · rw [if_neg e, if_neg e]
          refine ⟨rfl, by rw [es_ls_len]; omega, by rw [es_ls_len]; exact h6', fun j hj => ?_⟩
          rw [es_ls_len] at hj
          rw [es_ls_at _ hj, hc j hj, hf0]
    have key : ∀ (g k : Nat) (μ' : mz_M), k + g = n → mo_f mo_x3 mo_y3 μ μ' → mo_ls μ' 2 2 l → μ'.1 0 6 = nI n → (∀ j, j < k → (μ'.2 4 j).toInt = f j) → v_Mo_changes (es_R (d + 4)) (es_qI (mo_got mo_x3 mo_y3 (es_cr a v.toInt l) μ)) (91, [(0, mz_R 16 0), (1, mz_I (nI a)), (2, mz_I v), (3, mz_I (nI k))], [], μ') := by
      intro g
      induction g with
      | zero =>
        intro k μ' hk2 hf h2 h6' hc
        exact w_Mo_changes_91 0 _ _ _ μ' (es_t (by rw [h6']; exact nI_le (by omega) (by omega)) (fin μ' hf h6' (fun j hj => hc j (by omega))))
      | succ g ih =>
        intro k μ' hk2 hf h2 h6' hc
        have hin : vp_in (nI k) 40 := vp_in_nI (by omega) (by omega)
        have nx : ∀ y : Int64, y.toInt = f k → v_Mo_changes (es_R (d + 4)) (es_qI (mo_got mo_x3 mo_y3 (es_cr a v.toInt l) μ)) (91, [(0, mz_R 16 0), (1, mz_I (nI a)), (2, mz_I v), (3, mz_I (nI k + 1))], [], mz_wL μ' 4 k y) := by
          intro y hy
          rw [nI_1]
          refine ih (k + 1) _ (by omega) (hf.wL (by unfold mo_y3; omega)) (h2.kept (X := mo_x1 6) (Y := mo_y1 4) (mo_f.rf.wL rfl) (by unfold mo_x1; omega) (by unfold mo_y1; omega)) h6' (fun j hj => ?_)
          rw [mz_wL_at]
          by_cases e : j = k
          · rw [if_pos ⟨rfl, e⟩, hy, e]
          · rw [if_neg (fun z => e z.2)]
            exact hc j (by omega)
        refine w_Mo_changes_91 0 _ _ _ μ' (es_f (by rw [h6']; exact nI_ge (by omega) (by omega)) ?_)
        rw [es_clamp (show k < 2147483648 by omega)]
        have same : f k = l.getD k 0 → vp_in (nI k) 40 ∧ (vp_in (nI k) 40 ∧ (v_Mo_changes (es_R (d + 4)) (es_qI (mo_got mo_x3 mo_y3 (es_cr a v.toInt l) μ)) (91, [(0, mz_R 16 0), (1, mz_I (nI a)), (2, mz_I v), (3, mz_I (nI k + 1))], [], mz_wL μ' 4 k (μ'.2 2 k)))) := fun hfk => ⟨hin, hin, nx _ (by rw [hfk]; exact h2.2.2 k (by omega))⟩
        have bk := ho.bd k
        refine es_br (fun q => ?_) (fun q0 => es_br (fun q => ?_) (fun q1 => es_br (fun q => ?_) (fun q2 => es_br (fun q => ?_) (fun q3 => es_br (fun q => same ?_) (fun q4 => es_br (fun q => same ?_) (fun q5 => es_br (fun q => ⟨hin, hin, nx _ ?_⟩) (fun q6 => ?_)))))))
        · have q := (aq 0 (by omega)).mp q
          rw [if_neg (by omega)] at hf0
          obtain ⟨w, hw, rfl⟩ : ∃ w : Nat, w ≤ 9 ∧ v = nI w := ⟨v.toInt.toNat, by omega, es_nIof (by omega)⟩
          have efk : f k = if w ≤ k then l.getD (k - w) 0 else 0 := by
            rw [hf0]
            unfold es_cf
            rw [if_pos q, nI_toInt (by omega)]
            rfl
          refine es_br (fun c => ?_) (fun c => ⟨hin, nx _ ?_⟩)
          · have c := (nI_leI (by omega) (by omega)).mp c
            rw [pk_sub c, es_clamp (by omega)]
            refine ⟨vp_in_nI (by omega) (by omega), hin, nx _ ?_⟩
            rw [efk, if_pos c]
            exact h2.2.2 _ (by omega)
          · have c : ¬ w ≤ k := fun z => c (nI_le z (by omega))
            rw [efk, if_neg c]; rfl
        · have q := (aq 1 (by omega)).mp q
          rw [if_neg (by omega)] at hf0
          obtain ⟨w, hw, hw1, rfl⟩ : ∃ w : Nat, w ≤ 8 ∧ 1 ≤ w ∧ v = nI w := ⟨v.toInt.toNat, by omega, by omega, es_nIof (by omega)⟩
          have nw : ¬ nI w = 0 := nI_ne0 (by omega) (by omega)
          have efk : f k = if k % w = 0 then l.getD (k / w) 0 else 0 := by
            rw [hf0]
            unfold es_cf
            rw [if_neg (by omega), if_pos q, nI_toInt (by omega)]
            rfl
          refine ⟨nw, es_br (fun c => ?_) (fun c => ⟨hin, nx _ ?_⟩)⟩
          · have c := (es_remn (by omega) (by omega) (by omega)).mp c
            have kw : k / w ≤ k := Nat.div_le_self _ _
            rw [pk_div (by omega) (by omega) (by omega), es_clamp (by omega)]
            refine ⟨nw, vp_in_nI (by omega) (by omega), hin, nx _ ?_⟩
            rw [efk, if_pos c]
            exact h2.2.2 _ (by omega)
          · have c : ¬ k % w = 0 := fun z => c ((es_remn (by omega) (by omega) (by omega)).mpr z)
            rw [efk, if_neg c]; rfl
        · have q := (aq 2 (by omega)).mp q
          rw [if_neg (by omega)] at hf0
          have efk : f k = if k % 2 = 0 then l.getD k 0 else -l.getD k 0 := by
            rw [hf0]
            unfold es_cf
            rw [if_neg (by omega), if_neg (by omega), if_pos q]
          refine ⟨by decide +kernel, es_br (fun c => same ?_) (fun c => ⟨hin, hin, nx _ ?_⟩)⟩
          · have c := (es_remn (l := k) (p := 2) (by omega) (by omega) (by omega)).mp c
            rw [efk, if_pos c]
          · have c : ¬ k % 2 = 0 := fun z => c ((es_remn (l := k) (p := 2) (by omega) (by omega) (by omega)).mpr z)
            rw [efk, if_neg c, Int64.toInt_neg, h2.2.2 k (by omega), es_bm64 (by omega) (by omega)]
        · exact absurd ((aq 3 (by omega)).mp q) e3
        · have q := (aq 4 (by omega)).mp q
          rw [if_neg (by omega)] at hf0
          rw [hf0]
          unfold es_cf
          rw [if_neg (by omega), if_neg (by omega), if_neg (by omega), if_pos q]
        · have q := (aq 5 (by omega)).mp q
          rw [if_pos q] at hf0
          rw [hf0]
        · have q := (aq 6 (by omega)).mp q
          rw [if_neg (by omega)] at hf0
          have efk : f k = l.getD k 0 * v.toInt := by
            rw [hf0]
            unfold es_cf
            rw [if_neg (by omega), if_neg (by omega), if_neg (by omega), if_neg (by omega)]
          rw [efk]
          have t := es_mulb bk (show -99 ≤ v.toInt ∧ v.toInt ≤ 99 by omega)
          exact es_mul64 (h2.2.2 k (by omega)) (es_i2l v) (by omega) (by omega)
        · have n0 : ¬ a = 0 := fun z => q0 ((aq 0 (by omega)).mpr z)
          have n1 : ¬ a = 1 := fun z => q1 ((aq 1 (by omega)).mpr z)
          have n2 : ¬ a = 2 := fun z => q2 ((aq 2 (by omega)).mpr z)
          have n4 : ¬ a = 4 := fun z => q4 ((aq 4 (by omega)).mpr z)
          have n5 : ¬ a = 5 := fun z => q5 ((aq 5 (by omega)).mpr z)
          have n6 : ¬ a = 6 := fun z => q6 ((aq 6 (by omega)).mpr z)
          omega
    exact key n 0 μ1 (by omega) hf1 h1 h6 (fun j hj => absurd hj (Nat.not_lt_zero j))
  have w1 : ∀ x : Int32, mo_f mo_x3 mo_y3 μ (mz_wI μ 0 6 x) ∧ mo_ls (mz_wI μ 0 6 x) 2 2 l := fun x => ⟨mo_f.rf.wI (by unfold mo_x3; omega), h.kept (X := mo_x1 6) (Y := mo_y1 4) (mo_f.rf.wI ⟨rfl, rfl⟩) (by unfold mo_x1; omega) (by unfold mo_y1; omega)⟩
  have w2 : ∀ x y : Int32, mo_f mo_x3 mo_y3 μ (mz_wI (mz_wI μ 0 6 x) 0 6 y) ∧ mo_ls (mz_wI (mz_wI μ 0 6 x) 0 6 y) 2 2 l := fun x y => ⟨(mo_f.rf.wI (by unfold mo_x3; omega)).wI (by unfold mo_x3; omega), h.kept (X := mo_x1 6) (Y := mo_y1 4) ((mo_f.rf.wI ⟨rfl, rfl⟩).wI ⟨rfl, rfl⟩) (by unfold mo_x1; omega) (by unfold mo_y1; omega)⟩
  refine es_I.mk (w_Mo_changes_0 0 _ _ μ (es_br (fun q4 => es_br (fun q3 => ⟨n10, ?_⟩) (fun q3 => ?_)) (fun q4 => es_br (fun q3 => ⟨n10, ?_⟩) (fun q3 => ?_))))
  · have q3 := (aq 3 (by omega)).mp q3
    exact part q3 _ (w2 _ _).1 (w2 _ _).2 (by rw [mz_wI_at, if_pos ⟨rfl, rfl⟩])
  · have q4 := (aq 4 (by omega)).mp q4
    refine other (by omega) v.toInt.toNat _ (by rw [if_pos q4]) (w1 _).1 (w1 _).2 ?_
    rw [mz_wI_at, if_pos ⟨rfl, rfl⟩]
    exact es_nIof (by omega)
  · have q3 := (aq 3 (by omega)).mp q3
    exact part q3 _ (w2 _ _).1 (w2 _ _).2 (by rw [mz_wI_at, if_pos ⟨rfl, rfl⟩])
  · have q4 : ¬ a = 4 := fun z => q4 ((aq 4 (by omega)).mpr z)
    have q3 : ¬ a = 3 := fun z => q3 ((aq 3 (by omega)).mpr z)
    refine other q3 l.length _ (by rw [if_neg q4]) (w1 _).1 (w1 _).2 ?_
    rw [mz_wI_at, if_pos ⟨rfl, rfl⟩]
    exact h.2.1
