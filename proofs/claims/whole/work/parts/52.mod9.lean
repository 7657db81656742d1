/-! The reference: pairs of sheets, levels, told. -/
theorem r_whyPairs (d : Nat) {s n : Nat} (hs : s < 4) {lane i : Int32} {μ : mz_M} {o : es_L} (h : mo_lf μ s o) (hn : n ≤ 6) : es_I (d + 2) n_Mo_whyPairs [mz_R 16 0, mz_I (nI s), mz_I lane, mz_I i, mz_I (nI n)] μ (fun r μ' => μ' = μ ∧ r = es_rp o lane i n) := by
  refine es_I.mk (w_Mo_whyPairs_0 0 _ lane i (nI n) μ ?_)
  rw [show (2 : Int32) = nI 2 from rfl, pk_mul]
  refine ⟨_, _, es_pure (r_why d hs (n := nI (2 * n)) (by rw [nI_toInt (by omega)]; omega) h), ?_⟩
  by_cases h0 : es_rf o lane i (nI (2 * n)) = 0
  · obtain ⟨ln, its, rfl, hln, hi0, -, hi2⟩ := es_rf_0 h0
    rw [nI_toInt (by omega)] at hi2
    have h40 : its.length ≤ 40 := h.2.2.1
    have h15 : ∀ k, k < its.length → μ.2 15 (40 * s + k) = its.getD k 0 := h.2.2.2.2
    obtain ⟨iN, hiN, rfl⟩ : ∃ iN : Nat, iN ≤ 40 ∧ i = nI iN := ⟨i.toInt.toNat, by omega, es_nIof hi0⟩
    rw [nI_toInt (by omega)] at hi2
    have key : ∀ (g k : Nat), k + g = n → es_okp its iN k = true → v_Mo_whyPairs (es_R (d + 1)) (es_qI (fun r μ' => μ' = μ ∧ r = es_rp (some (ln, its)) lane (nI iN) n)) (16, [(0, mz_R 16 0), (1, mz_I (nI s)), (3, mz_I (nI iN)), (4, mz_I (nI n)), (5, mz_I 0), (6, mz_I (nI k))], [], μ) := by
      have e0 : es_rp (some (ln, its)) lane (nI iN) n = if es_okp its iN n = true then 0 else -1000002 := by
        unfold es_rp
        rw [if_pos h0]
        show (if es_okp its (nI iN).toInt.toNat n = true then _ else _) = _
        rw [nI_toInt (by omega)]; rfl
      intro g
      induction g with
      | zero =>
        intro k hk hb
        have hk : k = n := by omega
        subst hk
        exact w_Mo_whyPairs_16 0 _ _ _ _ _ μ (es_t (nI_le (by omega) (by omega)) (es_rI ⟨rfl, by rw [e0, if_pos hb]⟩))
      | succ g ih =>
        intro k hk hb
        refine w_Mo_whyPairs_16 0 _ _ _ _ _ μ (es_f (nI_ge (by omega) (by omega)) (es_t rfl ?_))
        rw [show (2 : Int32) = nI 2 from rfl, show (40 : Int32) = nI 40 from rfl, pk_mul, pk_mul, nI_add, nI_add, nI_1 (40 * s + iN + 2 * k), es_clamp (show 40 * s + iN + 2 * k < 2147483648 by omega), es_clamp (show 40 * s + iN + 2 * k + 1 < 2147483648 by omega)]
        have x1 : μ.2 15 (40 * s + iN + 2 * k) = its.getD (iN + 2 * k) 0 := (congrArg (μ.2 15) (by omega)).trans (h15 (iN + 2 * k) (by omega))
        have x2 : μ.2 15 (40 * s + iN + 2 * k + 1) = its.getD (iN + 2 * k + 1) 0 := (congrArg (μ.2 15) (by omega)).trans (h15 (iN + 2 * k + 1) (by omega))
        have bad : es_okd (its.getD (iN + 2 * k) 0) (its.getD (iN + 2 * k + 1) 0) = false → v_Mo_whyPairs (es_R (d + 1)) (es_qI (fun r μ' => μ' = μ ∧ r = es_rp (some (ln, its)) lane (nI iN) n)) (16, [(0, mz_R 16 0), (1, mz_I (nI s)), (3, mz_I (nI iN)), (4, mz_I (nI n)), (5, mz_I (-1000002)), (6, mz_I (nI k + 1))], [], μ) := by
          intro hbad
          have hf : es_okp its iN n = false := by
            refine es_okp_up (k := k + 1) (by omega) ?_
            unfold es_okp
            rw [hb, hbad]; rfl
          have hv : -1000002 = es_rp (some (ln, its)) lane (nI iN) n := by rw [e0, hf]; rfl
          exact w_Mo_whyPairs_16 0 _ _ _ _ _ μ (es_br (fun _ => es_rI ⟨rfl, hv⟩) (fun _ => es_f (by decide +kernel) (es_rI ⟨rfl, hv⟩)))
        have c3 : (-9 : Int64).toInt = -9 := by decide +kernel
        have c4 : (9 : Int64).toInt = 9 := by decide +kernel
        rw [x1]
        refine ⟨es_v160 (by omega), _, _, es_pure (r_inL d _ 1 12 (by omega) (by omega) μ), es_br (fun q => bad ?_) (fun q => ⟨es_v160 (by omega), ?_⟩)⟩
        · have q := es_bf q
          exact decide_eq_false (by omega)
        · rw [x2]
          refine ⟨_, _, es_pure (r_in d _ _ _ μ), es_br (fun q2 => bad ?_) (fun q2 => ?_)⟩
          · have q2 := es_bf q2
            rw [c3, c4] at q2
            exact decide_eq_false (by omega)
          · have q := es_bt q
            have q2 := es_bt q2
            rw [c3, c4] at q2
            rw [nI_1]
            refine ih (k + 1) (by omega) ?_
            unfold es_okp
            rw [hb]
            exact decide_eq_true (by omega)
    rw [h0]
    exact key n 0 (by omega) rfl
  · have hv : es_rf o lane i (nI (2 * n)) = es_rp o lane i n := by
      unfold es_rp
      rw [if_neg h0]
    refine w_Mo_whyPairs_16 0 _ _ _ _ _ μ (es_br (fun _ => es_rI ⟨rfl, hv⟩) (fun _ => es_f h0 (es_rI ⟨rfl, hv⟩)))
theorem es_div64 {x y : Int64} (hx : 0 ≤ x.toInt) (hx2 : x.toInt < 1000000000) (hy : 0 < y.toInt) : (x / y).toInt = x.toInt / y.toInt := by
  have h1 := Int.ediv_nonneg (a := x.toInt) (b := y.toInt) hx (by omega)
  have h2 := Int.ediv_le_self y.toInt hx
  rw [Int64.toInt_div, Int.tdiv_eq_ediv_of_nonneg hx, es_bm64 (by omega) (by omega)]
theorem es_rem64 {x y : Int64} {a b : Int} (hx : x.toInt = a) (hyb : y.toInt = b) (hy : 0 < b) (h1 : -1000000000 ≤ a) (h2 : a ≤ 1000000000) : (lg_cmp (x - x / y * y) 0 = 0) ↔ a % b = 0 := by
  have h3 := Int.natAbs_tdiv_le_natAbs a b
  have h4 : (a.tdiv b * b).natAbs ≤ a.natAbs := by
    rw [Int.natAbs_mul, Int.natAbs_tdiv]
    exact Nat.div_mul_le_self _ _
  have hd : (x / y).toInt = a.tdiv b := by rw [Int64.toInt_div, hx, hyb, es_bm64 (by omega) (by omega)]
  have hm : (x / y * y).toInt = a.tdiv b * b := es_mul64 hd hyb (by omega) (by omega)
  have hs : (x - x / y * y).toInt = a - a.tdiv b * b := es_sub64 hx hm (by omega) (by omega)
  rw [es_cmp_0, hs, show (0 : Int64).toInt = 0 by decide +kernel]
  constructor
  · intro h
    have h5 : a = a.tdiv b * b := by omega
    rw [h5]
    exact Int.mul_emod_left _ _
  · intro h
    rw [Int.tdiv_mul_cancel (Int.dvd_of_emod_eq_zero h)]
    omega
theorem es_0L : (0 : Int64).toInt = 0 := by decide +kernel
set_option maxHeartbeats 1000000 in
theorem r_levelOf (d : Nat) {s i n : Nat} {μ : mz_M} {ln : Nat} {its : List Int64} (hs : s < 4) (h : mo_lf μ s (some (ln, its))) (hi : i + 2 * n ≤ its.length) (hn : n ≤ 6) (hok : es_okp its i n = true) : es_I (d + 1) n_Mo_levelOf [mz_R 16 0, mz_I (nI (40 * s + i)), mz_I (nI n)] μ (fun r μ' => μ' = μ ∧ r = es_lvI (es_fs (es_isl its i n) 600 1)) := by
  have h40 : its.length ≤ 40 := h.2.2.1
  have h15 : ∀ k, k < its.length → μ.2 15 (40 * s + k) = its.getD k 0 := h.2.2.2.2
  have b1 : ∀ k, k ≤ n → -(k * 108 : Int) ≤ es_lo its i k ∧ es_lo its i k ≤ (k * 108 : Int) := fun k hk => fb_si_bound (by omega) (fun j hj => by
    have := es_okp_bd hok (show j < n by omega)
    have := es_mulb (A := 12) (B := 9) (a := es_dd its i j) (b := es_ee its i j) (by omega) (by omega)
    omega)
  have e24 : (24 : Int64).toInt = 24 := by decide +kernel
  refine es_I.mk (w_Mo_levelOf_0 0 _ _ μ ?_)
  have key : ∀ (g N : Nat), N + g = 601 → 1 ≤ N → es_fs (es_isl its i n) 600 1 = es_fs (es_isl its i n) g N → v_Mo_levelOf (es_R d) (es_qI (fun r μ' => μ' = μ ∧ r = es_lvI (es_fs (es_isl its i n) 600 1))) (2, [(0, mz_R 16 0), (1, mz_I (nI (40 * s + i))), (2, mz_I (nI n)), (3, mz_I (nI N))], [], μ) := by
    intro g
    induction g with
    | zero =>
      intro N hg h1 he
      refine w_Mo_levelOf_2 0 _ _ _ μ (es_t (nI_lt (a := 600) (by omega) (by omega)) (es_rI ⟨rfl, ?_⟩))
      rw [he]; rfl
    | succ g ih =>
      intro N hg h1 he
      refine w_Mo_levelOf_2 0 _ _ _ μ (es_f (nI_nlt (a := 600) (b := N) (by omega) (by omega)) ?_)
      have nx : es_isl its i n N = false → v_Mo_levelOf (es_R d) (es_qI (fun r μ' => μ' = μ ∧ r = es_lvI (es_fs (es_isl its i n) 600 1))) (2, [(0, mz_R 16 0), (1, mz_I (nI (40 * s + i))), (2, mz_I (nI n)), (3, mz_I (nI N + 1))], [], μ) := by
        intro q
        rw [nI_1]
        refine ih (N + 1) (by omega) (by omega) ?_
        rw [he]
        show (if es_isl its i n N = true then some N else es_fs (es_isl its i n) g (N + 1)) = _
        rw [if_neg (by rw [q]; decide)]
      have yes : es_isl its i n N = true → es_qI (fun r μ' => μ' = μ ∧ r = es_lvI (es_fs (es_isl its i n) 600 1)) (some (mz_I (nI N))) μ := by
        intro q
        refine es_rI ⟨rfl, ?_⟩
        rw [he]
        show nI N = es_lvI (if es_isl its i n N = true then some N else es_fs (es_isl its i n) g (N + 1))
        rw [if_pos q]; rfl
      have hq : ∀ k, k < n → 0 ≤ (N : Int) / es_dd its i k ∧ (N : Int) / es_dd its i k ≤ 600 := by
        intro k hk
        have := es_okp_bd hok hk
        have h1 := Int.ediv_nonneg (a := (N : Int)) (b := es_dd its i k) (by omega) (by omega)
        have h2 := Int.ediv_le_self (a := (N : Int)) (es_dd its i k) (by omega)
        omega
      have b2 : ∀ k, k ≤ n → -(k * 5400 : Int) ≤ es_hg its i N k ∧ es_hg its i N k ≤ (k * 5400 : Int) := fun k hk => fb_si_bound (by omega) (fun j hj => by
        have h1 := es_okp_bd hok (show j < n by omega)
        have h2 := hq j (by omega)
        have := es_mulb (A := 600) (B := 9) (a := (N : Int) / es_dd its i j) (b := es_ee its i j) (by omega) (by omega)
        omega)
      have inner : ∀ (g2 k : Nat) (x y : Int64), k + g2 = n → x.toInt = es_lo its i k → y.toInt = es_hg its i N k → v_Mo_levelOf (es_R d) (es_qI (fun r μ' => μ' = μ ∧ r = es_lvI (es_fs (es_isl its i n) 600 1))) (21, [(0, mz_R 16 0), (1, mz_I (nI (40 * s + i))), (2, mz_I (nI n)), (3, mz_I (nI N)), (4, mz_L x), (6, mz_L y), (8, mz_I (es_b (es_dvs its i N k))), (9, mz_I (nI k))], [], μ) := by
        intro g2
        induction g2 with
        | zero =>
          intro k x y hk hx hy
          have hk : k = n := by omega
          subst hk
          have c1 := b1 k (Nat.le_refl _)
          have c2 := b2 k (Nat.le_refl _)
          refine w_Mo_levelOf_21 0 _ _ _ x y _ _ μ (es_t (nI_le (by omega) (by omega)) (es_br (fun q => nx ?_) (fun q => ⟨by decide +kernel, es_br (fun q2 => ⟨by decide +kernel, es_br (fun q3 => yes ?_) (fun q3 => nx ?_)⟩) (fun q2 => nx ?_)⟩)))
          · rw [es_b_0] at q
            unfold es_isl
            rw [q]; rfl
          · have q := Bool.of_not_eq_false (fun z => q (es_b_0.mpr z))
            rw [es_rem64 hx e24 (by omega) (by omega) (by omega)] at q2
            rw [es_rem64 hy e24 (by omega) (by omega) (by omega)] at q3
            unfold es_isl
            rw [q, decide_eq_true q2, decide_eq_true q3]; rfl
          · rw [es_rem64 hy e24 (by omega) (by omega) (by omega)] at q3
            unfold es_isl
            rw [decide_eq_false q3, Bool.and_false, Bool.and_false]
          · rw [es_rem64 hx e24 (by omega) (by omega) (by omega)] at q2
            unfold es_isl
            rw [decide_eq_false q2, Bool.false_and, Bool.and_false]
        | succ g2 ih2 =>
          intro k x y hk hx hy
          refine w_Mo_levelOf_21 0 _ _ _ x y _ _ μ (es_f (nI_ge (by omega) (by omega)) ?_)
          have x1 : μ.2 15 (40 * s + i + 2 * k) = its.getD (i + 2 * k) 0 := (congrArg (μ.2 15) (by omega)).trans (h15 (i + 2 * k) (by omega))
          have x2 : μ.2 15 (40 * s + i + 2 * k + 1) = its.getD (i + 2 * k + 1) 0 := (congrArg (μ.2 15) (by omega)).trans (h15 (i + 2 * k + 1) (by omega))
          rw [show (2 : Int32) = nI 2 from rfl, pk_mul, nI_add, nI_1 (40 * s + i + 2 * k), es_clamp (show 40 * s + i + 2 * k < 2147483648 by omega), es_clamp (show 40 * s + i + 2 * k + 1 < 2147483648 by omega), x1, x2, nI_1]
          have bd := es_okp_bd hok (show k < n by omega)
          have hdv : (its.getD (i + 2 * k) 0).toInt = es_dd its i k := rfl
          have hev : (its.getD (i + 2 * k + 1) 0).toInt = es_ee its i k := rfl
          have s1 : es_lo its i (k + 1) = es_lo its i k + es_dd its i k * es_ee its i k := fb_si_succ _ _
          have s2 : es_hg its i N (k + 1) = es_hg its i N k + (N : Int) / es_dd its i k * es_ee its i k := fb_si_succ _ _
          have s3 : es_dvs its i N (k + 1) = (es_dvs its i N k && decide (es_ee its i k = 0 ∨ (N : Int) % es_dd its i k = 0)) := rfl
          have c1 := b1 k (by omega)
          have c2 := b2 k (by omega)
          have hqq := hq k (by omega)
          have m1 := es_mulb (A := 12) (B := 9) (a := es_dd its i k) (b := es_ee its i k) (by omega) (by omega)
          have m2 := es_mulb (A := 600) (B := 9) (a := (N : Int) / es_dd its i k) (b := es_ee its i k) (by omega) (by omega)
          generalize its.getD (i + 2 * k) 0 = dv at hdv
          generalize its.getD (i + 2 * k + 1) 0 = ev at hev
          have hNi : (nI N).toInt64.toInt = N := by rw [es_i2l, nI_toInt (by omega)]
          have hdn : ¬ dv = 0 := fun z => by rw [z, es_0L] at hdv; omega
          have hdiv : ((nI N).toInt64 / dv).toInt = (N : Int) / es_dd its i k := by
            rw [es_div64 (by omega) (by omega) (by omega), hNi, hdv]
          have n1 : (x + dv * ev).toInt = es_lo its i (k + 1) := by
            rw [s1]
            exact es_add64 hx (es_mul64 hdv hev (by omega) (by omega)) (by omega) (by omega)
          have n2 : (y + (nI N).toInt64 / dv * ev).toInt = es_hg its i N (k + 1) := by
            rw [s2]
            exact es_add64 hy (es_mul64 hdiv hev (by omega) (by omega)) (by omega) (by omega)
          have go := ih2 (k + 1) _ _ (by omega) n1 n2
          refine ⟨es_v160 (by omega), es_v160 (by omega), es_br (fun q => ⟨hdn, ?_⟩) (fun q => es_br (fun q2 => ⟨hdn, ?_⟩) (fun q2 => ⟨hdn, es_br (fun q3 => ⟨hdn, ?_⟩) (fun q3 => ⟨hdn, ?_⟩)⟩))⟩
          · rw [es_b_0] at q
            rw [s3, q] at go
            exact go
          · have q := Bool.of_not_eq_false (fun z => q (es_b_0.mpr z))
            rw [es_cmp_0, hev, es_0L] at q2
            rw [s3, q, decide_eq_true (Or.inl q2)] at go
            exact go
          · have q := Bool.of_not_eq_false (fun z => q (es_b_0.mpr z))
            rw [es_rem64 hNi hdv (by omega) (by omega) (by omega)] at q3
            rw [s3, q, decide_eq_true (Or.inr q3)] at go
            exact go
          · have q := Bool.of_not_eq_false (fun z => q (es_b_0.mpr z))
            rw [es_cmp_0, hev, es_0L] at q2
            rw [es_rem64 hNi hdv (by omega) (by omega) (by omega)] at q3
            rw [s3, q, decide_eq_false (by omega)] at go
            exact go
      exact inner n 0 0 0 (Nat.zero_add _) es_0L es_0L
  exact key 600 1 (by omega) (by omega) rfl
theorem r_indexOf (d : Nat) {N : Nat} (h1 : 1 ≤ N) (h2 : N ≤ 600) (μ : mz_M) : es_I (d + 1) n_Mo_indexOf [mz_I (nI N)] μ (fun r μ' => μ' = μ ∧ r = nI (es_ix 600 N N 2)) := by
  refine es_I.mk (w_Mo_indexOf_0 _ μ ?_)
  have key : ∀ (g x l p : Nat), l + 1 ≤ g + p → 2 ≤ p → p ≤ 602 → 1 ≤ l → l ≤ 600 → x * l ≤ 360000 → v_Mo_indexOf (es_R d) (es_qI (fun r μ' => μ' = μ ∧ r = nI (es_ix g x l p))) (6, [(1, mz_I (nI x)), (2, mz_I (nI l)), (3, mz_I (nI p))], [], μ) := by
    intro g
    induction g with
    | zero =>
      intro x l p hg hp hp2 hl hl2 hx
      exact w_Mo_indexOf_6 _ _ _ μ (es_t (nI_lt (by omega) (by omega)) (es_rI ⟨rfl, rfl⟩))
    | succ g ih =>
      intro x l p hg hp hp2 hl hl2 hx
      have hx2 : x ≤ 360000 := Nat.le_trans (Nat.le_mul_of_pos_right x (by omega)) hx
      have unf : es_ix (g + 1) x l p = if l < p then x else if l % p = 0 then es_ix g (x / p * (p + 1)) (es_dv l l p) (p + 1) else es_ix g x l (p + 1) := rfl
      by_cases c : l < p
      · refine w_Mo_indexOf_6 _ _ _ μ (es_t (nI_lt c (by omega)) (es_rI ⟨rfl, ?_⟩))
        rw [unf, if_pos c]
      · refine w_Mo_indexOf_6 _ _ _ μ (es_f (nI_nlt (by omega) (by omega)) ⟨nI_ne0 (by omega) (by omega), es_br (fun q => ⟨nI_ne0 (by omega) (by omega), ?_⟩) (fun q => ?_)⟩)
        · rw [es_remn (by omega) (by omega) (by omega)] at q
          obtain ⟨s1, s2⟩ := es_ix_small (x := x) hp hl q
          have hb : x / p * (p + 1) ≤ 720000 := by omega
          rw [pk_div (by omega) (by omega) (by omega), nI_1, pk_mul]
          generalize hy : x / p * (p + 1) = y at *
          have hyl : y * es_dv l l p ≤ 360000 := by
            have a1 : y * es_dv l l p ≤ 2 * x * es_dv l l p := Nat.mul_le_mul_right _ s1
            have a2 : 2 * x * es_dv l l p = x * (2 * es_dv l l p) := by rw [Nat.mul_comm 2 x, Nat.mul_assoc]
            have a3 : x * (2 * es_dv l l p) ≤ x * l := Nat.mul_le_mul_left _ s2
            omega
          have inner : ∀ (g2 m : Nat), m ≤ g2 → m ≤ 600 → 1 ≤ m → es_dv l l p = es_dv g2 m p → v_Mo_indexOf (es_R d) (es_qI (fun r μ' => μ' = μ ∧ r = nI (es_ix (g + 1) x l p))) (25, [(1, mz_I (nI y)), (2, mz_I (nI m)), (3, mz_I (nI p))], [], μ) := by
            intro g2
            induction g2 with
            | zero => exact fun m h3 h4 h5 h6 => by omega
            | succ g2 ih2 =>
              intro m h3 h4 h5 h6
              have unf2 : es_dv (g2 + 1) m p = if m % p = 0 then es_dv g2 (m / p) p else m := rfl
              refine w_Mo_indexOf_25 _ _ _ μ ⟨nI_ne0 (by omega) (by omega), es_br (fun q2 => ⟨nI_ne0 (by omega) (by omega), ?_⟩) (fun q2 => ?_)⟩
              · rw [es_remn (by omega) (by omega) (by omega)] at q2
                rw [pk_div (by omega) (by omega) (by omega)]
                have m1 : p ≤ m := Nat.le_of_dvd (by omega) (Nat.dvd_of_mod_eq_zero q2)
                have m2 : 0 < m / p := Nat.div_pos m1 (by omega)
                have m3 : m / p < m := Nat.div_lt_self (by omega) (by omega)
                refine ih2 (m / p) (by omega) (by omega) (by omega) ?_
                rw [h6, unf2, if_pos q2]
              · rw [es_remn (by omega) (by omega) (by omega)] at q2
                rw [nI_1, unf, if_neg c, if_pos q]
                rw [unf2, if_neg q2] at h6
                have le := es_dv_le l l p
                subst h6
                exact ih y (es_dv l l p) (p + 1) (by omega) (by omega) (by omega) (by omega) (by omega) hyl
          exact inner l l (by omega) (by omega) hl rfl
        · rw [es_remn (by omega) (by omega) (by omega)] at q
          rw [nI_1, unf, if_neg c, if_neg q]
          exact ih x l (p + 1) (by omega) (by omega) (by omega) hl hl2 hx
  exact key 600 N N 2 (by omega) (by omega) (by omega) h1 h2 (Nat.mul_le_mul h2 h2)
theorem es_rp_n {o : es_L} {lane i : Int32} {n : Nat} : (0 : Int32) ≤ es_rp o lane i n ↔ es_rp o lane i n = 0 := by
  constructor
  · intro h
    unfold es_rp at h ⊢
    by_cases e : es_rf o lane i (nI (2 * n)) = 0
    · rw [if_pos e] at h ⊢
      by_cases e2 : es_okp (es_its o) i.toInt.toNat n = true
      · rw [if_pos e2]
      · rw [if_neg e2] at h
        exact absurd h (by decide +kernel)
    · rw [if_neg e] at h
      exact absurd (es_rf_n.mp h) e
  · intro h
    rw [h]
    decide +kernel
theorem q_told (d : Nat) {μ : mz_M} {A : es_A} (h : es_M μ A) (s ln i n w : Int32) : es_I (d + 3) n_Mo_told [mz_R 16 0, mz_I s, mz_I ln, mz_I i, mz_I n, mz_I w] μ (mo_ans (es_told A s ln i n w, A)) := by
  have bad : ¬ (es_4ok s = true ∧ es_4ok ln = true ∧ (1 ≤ n.toInt ∧ n.toInt ≤ 6) ∧ (0 ≤ w.toInt ∧ w.toInt ≤ 2)) → es_qI (mo_ans (es_told A s ln i n w, A)) (some (mz_I (-1000001))) μ := by
    intro z
    unfold es_told
    rw [if_neg z]
    exact es_rI ⟨rfl, h⟩
  refine es_I.mk (w_Mo_told_0 0 s ln i n w μ ⟨_, _, es_pure (r_isSheet d s μ), es_br (fun q => bad (fun z => es_4f q z.1)) (fun q => ⟨_, _, es_pure (r_in3 (d + 1) ln μ), es_br (fun q => bad (fun z => es_4f q z.2.1)) (fun q2 => ⟨_, _, es_pure (r_inn (d + 1) n 1 6 (by omega) (by omega) μ), es_br (fun q => bad (fun z => es_bf q z.2.2.1)) (fun q3 => ⟨_, _, es_pure (r_inn (d + 1) w 0 2 (by omega) (by omega) μ), es_br (fun q => bad (fun z => es_bf q z.2.2.2)) (fun q4 => ?_)⟩)⟩)⟩)⟩)
  have b1 := es_4t q
  have b2 := es_4t q2
  have b3 := es_bt q3
  have b4 := es_bt q4
  unfold es_told
  rw [if_pos ⟨es_4T b1, es_4T b2, b3, b4⟩]
  obtain ⟨sn, hs, rfl, es, hl⟩ := h.lf b1.1 b1.2
  obtain ⟨nn, hn, rfl⟩ : ∃ nn : Nat, nn ≤ 6 ∧ n = nI nn := ⟨n.toInt.toNat, by omega, es_nIof (by omega)⟩
  rw [nI_toInt (by omega)]
  simp only [Int.toNat_natCast]
  refine ⟨_, _, es_pure (r_whyPairs d hs hl hn), es_br (fun q5 => ?_) (fun q5 => es_rI ⟨?_, h⟩)⟩
  · have q5 := es_rp_n.mp q5
    rw [if_pos q5]
    obtain ⟨l4, its, iN, ho, e1, rfl, e2, e3, e4⟩ := es_rp_0 hn q5
    rw [ho] at hl
    have h40 : its.length ≤ 40 := hl.2.2.1
    have h15 : ∀ k, k < its.length → μ.2 15 (40 * sn + k) = its.getD k 0 := hl.2.2.2.2
    rw [ho, e3, show (40 : Int32) = nI 40 from rfl, pk_mul, nI_add]
    simp only [Int.toNat_natCast]
    show v_Mo_told (es_R (d + 2)) (es_qI (mo_ans (if w.toInt = 0 then es_wt its iN nn else if w.toInt = 1 then es_lvI (es_fs (es_isl its iN nn) 600 1) else es_bnd its iN nn, A))) _
    have key : ∀ (g k : Nat), k + g = nn → v_Mo_told (es_R (d + 2)) (es_qI (mo_ans (if w.toInt = 0 then es_wt its iN nn else if w.toInt = 1 then es_lvI (es_fs (es_isl its iN nn) 600 1) else es_bnd its iN nn, A))) (81, [(0, mz_R 16 0), (4, mz_I (nI nn)), (5, mz_I w), (7, mz_I (nI (40 * sn + iN))), (8, mz_I (es_wt its iN k)), (9, mz_I (nI k))], [], μ) := by
      intro g
      induction g with
      | zero =>
        intro k hk
        have hk : k = nn := by omega
        subst hk
        refine w_Mo_told_81 0 _ w _ _ _ μ (es_t (nI_le (by omega) (by omega)) (es_br (fun q6 => es_rI ⟨?_, h⟩) (fun q6 => ⟨_, _, es_pure (r_levelOf (d + 1) hs hl e2 hn e4), es_br (fun q7 => es_rI ⟨?_, h⟩) (fun q7 => ?_)⟩)))
        · have q6 := (es_eqn 0 (by omega)).mp q6
          rw [if_pos (show w.toInt = 0 from q6)]
        · have q6 := es_neqn 0 (by omega) q6
          have q7 := (es_eqn 1 (by omega)).mp q7
          rw [if_neg (show ¬ w.toInt = 0 from q6), if_pos (show w.toInt = 1 from q7)]
        · have q6 := es_neqn 0 (by omega) q6
          have q7 := es_neqn 1 (by omega) q7
          rw [if_neg (show ¬ w.toInt = 0 from q6), if_neg (show ¬ w.toInt = 1 from q7)]
          unfold es_bnd
          cases hlv : es_fs (es_isl its iN k) 600 1 with
          | none => exact es_t rfl (es_rI ⟨rfl, h⟩)
          | some N =>
            have hN := es_fs_bd hlv
            refine es_f (fun z => ?_) (es_br (fun q => ?_) (fun q => es_rI ⟨?_, h⟩))
            · have z : nI N = -1000004 := z
              have := congrArg Int32.toInt z
              rw [nI_toInt (by omega), show (-1000004 : Int32).toInt = -1000004 by decide +kernel] at this
              omega
            · refine ⟨_, _, es_pure (r_indexOf (d + 1) (N := N) (by omega) (by omega) μ), by decide +kernel, es_rI ⟨?_, h⟩⟩
              dsimp only
              rw [if_pos q]
            · dsimp only
              rw [if_neg q]
      | succ g ih =>
        intro k hk
        refine w_Mo_told_81 0 _ w _ _ _ μ (es_f (nI_ge (by omega) (by omega)) ?_)
        have x2 : μ.2 15 (40 * sn + iN + 2 * k + 1) = its.getD (iN + 2 * k + 1) 0 := (congrArg (μ.2 15) (by omega)).trans (h15 (iN + 2 * k + 1) (by omega))
        rw [show (2 : Int32) = nI 2 from rfl, pk_mul, nI_add, nI_1 (40 * sn + iN + 2 * k), es_clamp (show 40 * sn + iN + 2 * k + 1 < 2147483648 by omega), x2, nI_1]
        exact ⟨es_v160 (by omega), ih (k + 1) (by omega)⟩
    exact key nn 0 (Nat.zero_add _)
  · have q5 : ¬ es_rp (es_ll A (nI sn)) ln i nn = 0 := fun z => q5 (es_rp_n.mpr z)
    rw [if_neg q5]
