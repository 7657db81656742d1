/-! Pairs of a sheet: weight, level, bound. -/
theorem es_cmp_neg (x y : Int64) : lg_cmp x y < (0 : Int32) ↔ x.toInt < y.toInt := by
  have h2 := es_cmp_nn x y
  constructor
  · intro h
    have := es_hlt h
    rw [es_i0] at this
    refine Int.not_le.mp (fun z => ?_)
    have := es_hle (h2.mpr z)
    rw [es_i0] at this
    omega
  · intro h
    refine (fa_lt _ _).mpr ?_
    rw [es_i0]
    refine Int.not_le.mp (fun z => ?_)
    have := h2.mp ((fa_le _ _).mpr (by rw [es_i0]; exact z))
    omega
theorem es_cmp_np (x y : Int64) : lg_cmp x y ≤ (0 : Int32) ↔ x.toInt ≤ y.toInt := by
  have h2 := es_cmp_pos x y
  constructor
  · intro h
    have := es_hle h
    rw [es_i0] at this
    refine Int.not_lt.mp (fun z => ?_)
    have := es_hlt (h2.mpr z)
    rw [es_i0] at this
    omega
  · intro h
    refine (fa_le _ _).mpr ?_
    rw [es_i0]
    refine Int.not_lt.mp (fun z => ?_)
    have := h2.mp ((fa_lt _ _).mpr (by rw [es_i0]; exact z))
    omega
def es_okd (dv ev : Int64) : Bool := decide (1 ≤ dv.toInt ∧ dv.toInt ≤ 12 ∧ -9 ≤ ev.toInt ∧ ev.toInt ≤ 9)
def es_okp (its : List Int64) (i : Nat) : Nat → Bool
  | 0 => true
  | n + 1 => es_okp its i n && es_okd (its.getD (i + 2 * n) 0) (its.getD (i + 2 * n + 1) 0)
theorem es_okp_at {its : List Int64} {i : Nat} : ∀ {n k : Nat}, es_okp its i n = true → k < n → es_okd (its.getD (i + 2 * k) 0) (its.getD (i + 2 * k + 1) 0) = true
  | 0, _, _, h => absurd h (Nat.not_lt_zero _)
  | n + 1, k, h, hk => by
    unfold es_okp at h
    rw [Bool.and_eq_true] at h
    by_cases e : k = n
    · subst e; exact h.2
    · exact es_okp_at h.1 (by omega)
theorem es_okp_up {its : List Int64} {i : Nat} : ∀ {n k : Nat}, k ≤ n → es_okp its i k = false → es_okp its i n = false
  | 0, k, h, hk => by
    have : k = 0 := by omega
    subst this; exact hk
  | n + 1, k, h, hk => by
    by_cases e : k = n + 1
    · subst e; exact hk
    · unfold es_okp
      rw [es_okp_up (by omega) hk]; rfl
def es_its (o : es_L) : List Int64 := match o with
  | none => []
  | some q => q.2
/-- why n pairs of a sheet can't be taken; 0 -/
def es_rp (o : es_L) (lane i : Int32) (n : Nat) : Int32 := if es_rf o lane i (nI (2 * n)) = 0 then (if es_okp (es_its o) i.toInt.toNat n = true then 0 else -1000002) else es_rf o lane i (nI (2 * n))
theorem es_rf_0 {o : es_L} {lane i n : Int32} (h : es_rf o lane i n = 0) : ∃ ln its, o = some (ln, its) ∧ nI ln = lane ∧ 0 ≤ i.toInt ∧ 0 ≤ n.toInt ∧ i.toInt + n.toInt ≤ its.length := by
  match o, h with
  | some (ln, its), h =>
    unfold es_rf at h
    dsimp only at h
    by_cases e : nI ln = lane
    · rw [if_pos e] at h
      by_cases e2 : es_hi its.length i n = true
      · exact ⟨ln, its, rfl, e, of_decide_eq_true e2⟩
      · rw [if_neg e2] at h
        exact absurd h (by decide +kernel)
    · rw [if_neg e] at h
      exact absurd h (by decide +kernel)
  | none, h => exact absurd (show (-1000011 : Int32) = 0 from h) (by decide +kernel)
theorem s_refusePairs (d : Nat) {p n : Nat} {lane i : Int32} {μ : mz_M} {o : es_L} (h : es_lf μ p o) (hn : n ≤ 6) : es_I (d + 3) n_Leaf_refusePairs [mz_R 14 p, mz_I lane, mz_I i, mz_I (nI n)] μ (fun r μ' => μ' = μ ∧ r = es_rp o lane i n) := by
  refine es_I.mk (w_Leaf_refusePairs_0 p lane i (nI n) μ ?_)
  rw [show (2 : Int32) = nI 2 from rfl, pk_mul]
  refine ⟨_, _, es_pure (s_refuse d h), ?_⟩
  by_cases h0 : es_rf o lane i (nI (2 * n)) = 0
  · obtain ⟨ln, its, rfl, hln, hi0, -, hi2⟩ := es_rf_0 h0
    rw [nI_toInt (by omega)] at hi2
    have h40 : its.length ≤ 40 := h.2.2.2.1
    obtain ⟨iN, hiN, rfl⟩ : ∃ iN : Nat, iN ≤ 40 ∧ i = nI iN := ⟨i.toInt.toNat, by omega, es_nIof hi0⟩
    rw [nI_toInt (by omega)] at hi2
    have key : ∀ (g k : Nat), n - k ≤ g → k ≤ n → es_okp its iN k = true → v_Leaf_refusePairs (es_R (d + 2)) (es_qI (fun r μ' => μ' = μ ∧ r = es_rp (some (ln, its)) lane (nI iN) n)) (14, [(0, mz_R 14 p), (2, mz_I (nI iN)), (3, mz_I (nI n)), (4, mz_I 0), (5, mz_I (nI k))], [], μ) := by
      have e0 : es_rp (some (ln, its)) lane (nI iN) n = if es_okp its iN n = true then 0 else -1000002 := by
        unfold es_rp
        rw [if_pos h0]
        show (if es_okp its (nI iN).toInt.toNat n = true then _ else _) = _
        rw [nI_toInt (by omega)]; rfl
      have stop : ∀ k, k = n → es_okp its iN k = true → v_Leaf_refusePairs (es_R (d + 2)) (es_qI (fun r μ' => μ' = μ ∧ r = es_rp (some (ln, its)) lane (nI iN) n)) (14, [(0, mz_R 14 p), (2, mz_I (nI iN)), (3, mz_I (nI n)), (4, mz_I 0), (5, mz_I (nI k))], [], μ) := by
        intro k hk hb
        subst hk
        exact w_Leaf_refusePairs_14 p _ _ _ _ μ (es_t (nI_le (by omega) (by omega)) (es_rI ⟨rfl, by rw [e0, if_pos hb]⟩))
      intro g
      induction g with
      | zero => exact fun k hg hk hb => stop k (by omega) hb
      | succ g ih =>
        intro k hg hk hb
        by_cases e : k = n
        · exact stop k e hb
        · refine w_Leaf_refusePairs_14 p _ _ _ _ μ (es_f (nI_ge (by omega) (by omega)) (es_t rfl ?_))
          rw [show (2 : Int32) = nI 2 from rfl, pk_mul, nI_add, nI_1]
          refine ⟨_, _, es_pureJ (s_lat (d + 1) (k := iN + 2 * k) h (by omega)), ?_⟩
          refine ⟨_, _, es_pureJ (s_lat (d + 1) (k := iN + 2 * k + 1) h (by omega)), ?_⟩
          have bad : es_okd (its.getD (iN + 2 * k) 0) (its.getD (iN + 2 * k + 1) 0) = false → v_Leaf_refusePairs (es_R (d + 2)) (es_qI (fun r μ' => μ' = μ ∧ r = es_rp (some (ln, its)) lane (nI iN) n)) (14, [(0, mz_R 14 p), (2, mz_I (nI iN)), (3, mz_I (nI n)), (4, mz_I (-1000002)), (5, mz_I (nI k + 1))], [], μ) := by
            intro hbad
            have hf : es_okp its iN n = false := by
              refine es_okp_up (k := k + 1) (by omega) ?_
              unfold es_okp
              rw [hb, hbad]; rfl
            have hv : -1000002 = es_rp (some (ln, its)) lane (nI iN) n := by rw [e0, hf]; rfl
            exact w_Leaf_refusePairs_14 p _ _ _ _ μ (es_br (fun _ => es_rI ⟨rfl, hv⟩) (fun _ => es_f (by decide +kernel) (es_rI ⟨rfl, hv⟩)))
          have c1 : (1 : Int64).toInt = 1 := by decide +kernel
          have c2 : (12 : Int64).toInt = 12 := by decide +kernel
          have c3 : (-9 : Int64).toInt = -9 := by decide +kernel
          have c4 : (9 : Int64).toInt = 9 := by decide +kernel
          refine es_br (fun q => bad ?_) (fun q => es_br (fun q2 => bad ?_) (fun q2 => es_br (fun q3 => bad ?_) (fun q3 => es_br (fun q4 => ?_) (fun q4 => bad ?_))))
          · rw [es_cmp_neg, c1] at q
            exact decide_eq_false (by omega)
          · rw [es_cmp_pos, c2] at q2
            exact decide_eq_false (by omega)
          · rw [es_cmp_neg, c3] at q3
            exact decide_eq_false (by omega)
          · rw [es_cmp_neg, c1] at q
            rw [es_cmp_pos, c2] at q2
            rw [es_cmp_neg, c3] at q3
            rw [es_cmp_np, c4] at q4
            rw [nI_1]
            refine ih (k + 1) (by omega) (by omega) ?_
            unfold es_okp
            rw [hb]
            exact decide_eq_true (by omega)
          · rw [es_cmp_np, c4] at q4
            exact decide_eq_false (by omega)
    rw [h0]
    exact key n 0 (by omega) (by omega) rfl
  · have hv : es_rf o lane i (nI (2 * n)) = es_rp o lane i n := by
      unfold es_rp
      rw [if_neg h0]
    refine w_Leaf_refusePairs_14 p _ _ _ _ μ (es_br (fun _ => es_rI ⟨rfl, hv⟩) (fun _ => es_f h0 (es_rI ⟨rfl, hv⟩)))
theorem es_rp_0 {o : es_L} {lane i : Int32} {n : Nat} (hn : n ≤ 6) (h : es_rp o lane i n = 0) : ∃ (ln : Nat) (its : List Int64) (iN : Nat), o = some (ln, its) ∧ nI ln = lane ∧ i = nI iN ∧ iN + 2 * n ≤ its.length ∧ i.toInt = iN ∧ es_okp its iN n = true := by
  unfold es_rp at h
  by_cases h0 : es_rf o lane i (nI (2 * n)) = 0
  · rw [if_pos h0] at h
    obtain ⟨ln, its, rfl, hln, hi0, -, hi2⟩ := es_rf_0 h0
    rw [nI_toInt (by omega)] at hi2
    by_cases e : es_okp (es_its (some (ln, its))) i.toInt.toNat n = true
    · exact ⟨ln, its, i.toInt.toNat, rfl, hln, es_nIof hi0, by omega, by omega, e⟩
    · rw [if_neg e] at h
      exact absurd h (by decide +kernel)
  · rw [if_neg h0] at h
    exact absurd h h0
theorem s_divisor (d : Nat) {p i k : Nat} {μ : mz_M} {ln : Nat} {its : List Int64} (h : es_lf μ p (some (ln, its))) (hi : i ≤ 1000) (hk : k ≤ 1000) : es_I (d + 2) n_Leaf_divisor [mz_R 14 p, mz_I (nI i), mz_I (nI k)] μ (fun r μ' => μ' = μ ∧ r = (its.getD (i + 2 * k) 0).toInt32) := by
  refine es_I.mk (w_Leaf_divisor_0 p _ _ μ ?_)
  rw [show (2 : Int32) = nI 2 from rfl, pk_mul, nI_add]
  exact ⟨_, _, es_pureJ (s_lat d (k := i + 2 * k) h (by omega)), es_rI ⟨rfl, rfl⟩⟩
theorem s_exponent (d : Nat) {p i k : Nat} {μ : mz_M} {ln : Nat} {its : List Int64} (h : es_lf μ p (some (ln, its))) (hi : i ≤ 1000) (hk : k ≤ 1000) : es_I (d + 2) n_Leaf_exponent [mz_R 14 p, mz_I (nI i), mz_I (nI k)] μ (fun r μ' => μ' = μ ∧ r = (its.getD (i + 2 * k + 1) 0).toInt32) := by
  refine es_I.mk (w_Leaf_exponent_0 p _ _ μ ?_)
  rw [show (2 : Int32) = nI 2 from rfl, pk_mul, nI_add, nI_1]
  exact ⟨_, _, es_pureJ (s_lat d (k := i + 2 * k + 1) h (by omega)), es_rI ⟨rfl, rfl⟩⟩
def es_wt (its : List Int64) (i : Nat) : Nat → Int32
  | 0 => 0
  | n + 1 => es_wt its i n + (its.getD (i + 2 * n + 1) 0).toInt32
theorem s_weight (d : Nat) {p i n : Nat} {μ : mz_M} {ln : Nat} {its : List Int64} (h : es_lf μ p (some (ln, its))) (hi : i ≤ 1000) (hn : n ≤ 1000) : es_I (d + 3) n_Leaf_weight [mz_R 14 p, mz_I (nI i), mz_I (nI n)] μ (fun r μ' => μ' = μ ∧ r = es_wt its i n) := by
  refine es_I.mk (w_Leaf_weight_0 p _ _ μ ?_)
  have key : ∀ (g k : Nat), n - k ≤ g → k ≤ n → v_Leaf_weight (es_R (d + 2)) (es_qI (fun r μ' => μ' = μ ∧ r = es_wt its i n)) (5, [(0, mz_R 14 p), (1, mz_I (nI i)), (2, mz_I (nI n)), (3, mz_I (es_wt its i k)), (4, mz_I (nI k))], [], μ) := by
    intro g
    induction g with
    | zero =>
      intro k hg hk
      have : k = n := by omega
      subst this
      exact w_Leaf_weight_5 p _ _ _ _ μ (es_t (nI_le (by omega) (by omega)) (es_rI ⟨rfl, rfl⟩))
    | succ g ih =>
      intro k hg hk
      by_cases e : k = n
      · subst e
        exact w_Leaf_weight_5 p _ _ _ _ μ (es_t (nI_le (by omega) (by omega)) (es_rI ⟨rfl, rfl⟩))
      · refine w_Leaf_weight_5 p _ _ _ _ μ (es_f (nI_ge (by omega) (by omega)) ?_)
        refine ⟨_, _, es_pure (s_exponent d (k := k) h hi (by omega)), ?_⟩
        rw [nI_1]
        exact ih (k + 1) (by omega) (by omega)
  exact key n 0 (by omega) (by omega)
/-- what is left of a division -/
theorem es_rem {x y : Int32} (hy : 0 < y.toInt) : (x - x / y * y = 0) ↔ x.toInt % y.toInt = 0 := by
  have rx := fb_rng x
  have ry := fb_rng y
  have hd : (x / y).toInt = x.toInt.tdiv y.toInt := by
    rw [Int32.toInt_div, fb_bmod]
    · have := Int.natAbs_tdiv_le_natAbs x.toInt y.toInt
      omega
    · have := Int.natAbs_tdiv_le_natAbs x.toInt y.toInt
      by_cases e : x.toInt = -2147483648
      · rw [e]
        have : Int.tdiv (-2147483648) y.toInt ≤ 0 := by
          rw [Int.neg_tdiv]
          have := Int.tdiv_nonneg (a := 2147483648) (b := y.toInt) (by omega) (by omega)
          omega
        omega
      · omega
  have hm : (x / y * y).toInt = x.toInt.tdiv y.toInt * y.toInt := by
    have h3 : (x.toInt.tdiv y.toInt * y.toInt).natAbs ≤ x.toInt.natAbs := by
      rw [Int.natAbs_mul, Int.natAbs_tdiv]
      exact Nat.div_mul_le_self _ _
    rw [fb_mulI, hd]
    · rw [hd]; omega
    · rw [hd]
      by_cases e5 : 0 ≤ x.toInt
      · omega
      · have h6 : x.toInt.tdiv y.toInt ≤ 0 := by
          have h8 : x.toInt = -(-x.toInt) := by omega
          rw [h8, Int.neg_tdiv]
          have := Int.tdiv_nonneg (a := -x.toInt) (b := y.toInt) (by omega) (by omega)
          omega
        have h7 : x.toInt.tdiv y.toInt * y.toInt ≤ 0 := Int.mul_nonpos_of_nonpos_of_nonneg h6 (by omega)
        omega
  have hs : (x - x / y * y = 0) ↔ x.toInt = x.toInt.tdiv y.toInt * y.toInt := by
    rw [← hm]
    constructor
    · intro h
      have h2 : x = x / y * y := by
        have := congrArg (fun z => z + x / y * y) h
        simpa using this
      exact congrArg Int32.toInt h2
    · intro h
      have h2 : x = x / y * y := Int32.toInt_inj.mp h
      rw [← h2]; simp
  rw [hs]
  constructor
  · intro h
    rw [h]
    exact Int.mul_emod_left _ _
  · intro h
    rw [Int.tdiv_mul_cancel (Int.dvd_of_emod_eq_zero h)]
