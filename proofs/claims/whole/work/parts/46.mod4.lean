/-! The reference: series are taken, joined. -/
theorem es_ok.bd {l : List Int} (h : es_ok l) (k : Nat) : -100000000 ≤ l.getD k 0 ∧ l.getD k 0 ≤ 100000000 := by
  by_cases hk : k < l.length
  · exact h.2 k hk
  · rw [List.getD_eq_getElem?_getD, List.getElem?_eq_none (by omega)]
    exact ⟨by decide, by decide⟩
def mo_x1 (f : Nat) : Nat → Nat → Prop := fun q k => q = 0 ∧ k = f
def mo_y1 (p : Nat) : Nat → Prop := fun q => q = p
theorem r_takesOne (d : Nat) {S : es_Sn} {μ : mz_M} {s : Nat} (h : mo_sn (μ.1 1) S) (hs : s < 4) : es_V (d + 2) n_Mo_takesOne [mz_R 16 0, mz_I (nI s)] μ (fun μ' => mo_f (mo_x1 2) (mo_y1 2) μ μ' ∧ mo_ls μ' 2 2 (S.1 s)) := by
  have h40 := (h.2.2.2.2 s hs).1.1
  refine es_V.mk (w_Mo_takesOne_0 0 _ μ ⟨_, _, es_pure (r_many d h hs), ?_⟩)
  have key : ∀ (g k : Nat) (μ' : mz_M), k + g = (S.1 s).length → mo_f (mo_x1 2) (mo_y1 2) μ μ' → μ'.1 0 2 = nI (S.1 s).length → (∀ j, j < k → (μ'.2 2 j).toInt = (S.1 s).getD j 0) → v_Mo_takesOne (es_R (d + 1)) (es_qV (fun μ' => mo_f (mo_x1 2) (mo_y1 2) μ μ' ∧ mo_ls μ' 2 2 (S.1 s))) (11, [(0, mz_R 16 0), (1, mz_I (nI s)), (2, mz_I (nI k))], [], μ') := by
    intro g
    induction g with
    | zero =>
      intro k μ' hk hf hm hc
      exact w_Mo_takesOne_11 0 _ _ μ' (es_t (by rw [hm]; exact nI_le (by omega) (by omega)) (es_rV ⟨hf, h40, hm, fun j hj => hc j (by omega)⟩))
    | succ g ih =>
      intro k μ' hk hf hm hc
      have h' : mo_sn (μ'.1 1) S := h.cong (fun j _ => hf.1 1 j (by unfold mo_x1; omega))
      obtain ⟨x, hX, hx⟩ := es_pur (r_termOf d h' hs (k := k) (by omega))
      refine w_Mo_takesOne_11 0 _ _ μ' (es_f (by rw [hm]; exact nI_ge (by omega) (by omega)) ⟨_, _, hX, vp_in_nI (by omega) (by omega), ?_⟩)
      rw [es_clamp (by omega), nI_1]
      refine ih (k + 1) _ (by omega) (hf.wL rfl) hm (fun j hj => ?_)
      rw [mz_wL_at]
      by_cases e : j = k
      · rw [if_pos ⟨rfl, e⟩, es_i2l, hx, e]
      · rw [if_neg (fun z => e z.2)]
        exact hc j (by omega)
  exact key _ 0 _ (Nat.zero_add _) (mo_f.rf.wI ⟨rfl, rfl⟩) (by rw [mz_wI_at, if_pos ⟨rfl, rfl⟩]) (fun j hj => absurd hj (Nat.not_lt_zero j))
theorem r_takesTwo (d : Nat) {S : es_Sn} {μ : mz_M} {s : Nat} (h : mo_sn (μ.1 1) S) (hs : s < 4) : es_V (d + 2) n_Mo_takesTwo [mz_R 16 0, mz_I (nI s)] μ (fun μ' => mo_f (mo_x1 4) (mo_y1 3) μ μ' ∧ mo_ls μ' 3 4 (S.1 s)) := by
  have h40 := (h.2.2.2.2 s hs).1.1
  refine es_V.mk (w_Mo_takesTwo_0 0 _ μ ⟨_, _, es_pure (r_many d h hs), ?_⟩)
  have key : ∀ (g k : Nat) (μ' : mz_M), k + g = (S.1 s).length → mo_f (mo_x1 4) (mo_y1 3) μ μ' → μ'.1 0 4 = nI (S.1 s).length → (∀ j, j < k → (μ'.2 3 j).toInt = (S.1 s).getD j 0) → v_Mo_takesTwo (es_R (d + 1)) (es_qV (fun μ' => mo_f (mo_x1 4) (mo_y1 3) μ μ' ∧ mo_ls μ' 3 4 (S.1 s))) (11, [(0, mz_R 16 0), (1, mz_I (nI s)), (2, mz_I (nI k))], [], μ') := by
    intro g
    induction g with
    | zero =>
      intro k μ' hk hf hm hc
      exact w_Mo_takesTwo_11 0 _ _ μ' (es_t (by rw [hm]; exact nI_le (by omega) (by omega)) (es_rV ⟨hf, h40, hm, fun j hj => hc j (by omega)⟩))
    | succ g ih =>
      intro k μ' hk hf hm hc
      have h' : mo_sn (μ'.1 1) S := h.cong (fun j _ => hf.1 1 j (by unfold mo_x1; omega))
      obtain ⟨x, hX, hx⟩ := es_pur (r_termOf d h' hs (k := k) (by omega))
      refine w_Mo_takesTwo_11 0 _ _ μ' (es_f (by rw [hm]; exact nI_ge (by omega) (by omega)) ⟨_, _, hX, vp_in_nI (by omega) (by omega), ?_⟩)
      rw [es_clamp (by omega), nI_1]
      refine ih (k + 1) _ (by omega) (hf.wL rfl) hm (fun j hj => ?_)
      rw [mz_wL_at]
      by_cases e : j = k
      · rw [if_pos ⟨rfl, e⟩, es_i2l, hx, e]
      · rw [if_neg (fun z => e z.2)]
        exact hc j (by omega)
  exact key _ 0 _ (Nat.zero_add _) (mo_f.rf.wI ⟨rfl, rfl⟩) (by rw [mz_wI_at, if_pos ⟨rfl, rfl⟩]) (fun j hj => absurd hj (Nat.not_lt_zero j))
theorem r_goesOn (d : Nat) {μ : mz_M} {l : List Int} (h : mo_ls μ 4 6 l) : es_V (d + 1) n_Mo_goesOn [mz_R 16 0] μ (fun μ' => mo_f (mo_x1 2) (mo_y1 2) μ μ' ∧ mo_ls μ' 2 2 l) := by
  obtain ⟨l1, l2, l3⟩ := h
  refine es_V.mk (w_Mo_goesOn_0 0 μ ?_)
  rw [l2]
  have key : ∀ (g k : Nat) (μ' : mz_M), k + g = l.length → mo_f (mo_x1 2) (mo_y1 2) μ μ' → μ'.1 0 2 = nI l.length → (∀ j, j < k → (μ'.2 2 j).toInt = l.getD j 0) → v_Mo_goesOn (es_R d) (es_qV (fun μ' => mo_f (mo_x1 2) (mo_y1 2) μ μ' ∧ mo_ls μ' 2 2 l)) (10, [(0, mz_R 16 0), (1, mz_I (nI k))], [], μ') := by
    intro g
    induction g with
    | zero =>
      intro k μ' hk hf hm hc
      have e6 : μ'.1 0 6 = nI l.length := by rw [hf.1 0 6 (by unfold mo_x1; omega)]; exact l2
      exact w_Mo_goesOn_10 0 _ μ' (es_t (by rw [e6]; exact nI_le (by omega) (by omega)) (es_rV ⟨hf, l1, hm, fun j hj => hc j (by omega)⟩))
    | succ g ih =>
      intro k μ' hk hf hm hc
      have e6 : μ'.1 0 6 = nI l.length := by rw [hf.1 0 6 (by unfold mo_x1; omega)]; exact l2
      refine w_Mo_goesOn_10 0 _ μ' (es_f (by rw [e6]; exact nI_ge (by omega) (by omega)) ⟨vp_in_nI (by omega) (by omega), vp_in_nI (by omega) (by omega), ?_⟩)
      rw [es_clamp (by omega), nI_1]
      refine ih (k + 1) _ (by omega) (hf.wL rfl) hm (fun j hj => ?_)
      rw [mz_wL_at]
      by_cases e : j = k
      · rw [if_pos ⟨rfl, e⟩, hf.2 4 (by unfold mo_y1; omega), e]
        exact l3 k (by omega)
      · rw [if_neg (fun z => e z.2)]
        exact hc j (by omega)
  exact key _ 0 _ (Nat.zero_add _) (mo_f.rf.wI ⟨rfl, rfl⟩) (by rw [mz_wI_at, if_pos ⟨rfl, rfl⟩]) (fun j hj => absurd hj (Nat.not_lt_zero j))
theorem r_copiesToTwo (d : Nat) {μ : mz_M} {l : List Int} (h : mo_ls μ 4 6 l) : es_V (d + 1) n_Mo_copiesToTwo [mz_R 16 0] μ (fun μ' => mo_f (mo_x1 4) (mo_y1 3) μ μ' ∧ mo_ls μ' 3 4 l) := by
  obtain ⟨l1, l2, l3⟩ := h
  refine es_V.mk (w_Mo_copiesToTwo_0 0 μ ?_)
  rw [l2]
  have key : ∀ (g k : Nat) (μ' : mz_M), k + g = l.length → mo_f (mo_x1 4) (mo_y1 3) μ μ' → μ'.1 0 4 = nI l.length → (∀ j, j < k → (μ'.2 3 j).toInt = l.getD j 0) → v_Mo_copiesToTwo (es_R d) (es_qV (fun μ' => mo_f (mo_x1 4) (mo_y1 3) μ μ' ∧ mo_ls μ' 3 4 l)) (10, [(0, mz_R 16 0), (1, mz_I (nI k))], [], μ') := by
    intro g
    induction g with
    | zero =>
      intro k μ' hk hf hm hc
      have e6 : μ'.1 0 6 = nI l.length := by rw [hf.1 0 6 (by unfold mo_x1; omega)]; exact l2
      exact w_Mo_copiesToTwo_10 0 _ μ' (es_t (by rw [e6]; exact nI_le (by omega) (by omega)) (es_rV ⟨hf, l1, hm, fun j hj => hc j (by omega)⟩))
    | succ g ih =>
      intro k μ' hk hf hm hc
      have e6 : μ'.1 0 6 = nI l.length := by rw [hf.1 0 6 (by unfold mo_x1; omega)]; exact l2
      refine w_Mo_copiesToTwo_10 0 _ μ' (es_f (by rw [e6]; exact nI_ge (by omega) (by omega)) ⟨vp_in_nI (by omega) (by omega), vp_in_nI (by omega) (by omega), ?_⟩)
      rw [es_clamp (by omega), nI_1]
      refine ih (k + 1) _ (by omega) (hf.wL rfl) hm (fun j hj => ?_)
      rw [mz_wL_at]
      by_cases e : j = k
      · rw [if_pos ⟨rfl, e⟩, hf.2 4 (by unfold mo_y1; omega), e]
        exact l3 k (by omega)
      · rw [if_neg (fun z => e z.2)]
        exact hc j (by omega)
  exact key _ 0 _ (Nat.zero_add _) (mo_f.rf.wI ⟨rfl, rfl⟩) (by rw [mz_wI_at, if_pos ⟨rfl, rfl⟩]) (fun j hj => absurd hj (Nat.not_lt_zero j))
theorem es_1e8 : (100000000 : Int64).toInt = 100000000 := by decide +kernel
theorem es_m1e8 : (-100000000 : Int64).toInt = -100000000 := by decide +kernel
theorem r_inW (d : Nat) (v : Int64) (μ : mz_M) : es_I (d + 1) n_Mo_in [mz_L v, mz_L (-100000000), mz_L 100000000] μ (fun r μ' => μ' = μ ∧ r = es_b (!es_big v.toInt)) := by
  refine (r_in d _ _ _ μ).mono (fun r μ' h => ⟨h.1, ?_⟩)
  rw [h.2, es_1e8, es_m1e8]
  congr 1
  unfold es_big
  by_cases e : v.toInt < -100000000 ∨ 100000000 < v.toInt
  · rw [decide_eq_true e, decide_eq_false (by omega)]; rfl
  · rw [decide_eq_false e, decide_eq_true (by omega)]; rfl
theorem r_wide (d : Nat) {μ : mz_M} {n : Nat} {f : Nat → Int} (hn : n ≤ 40) (h6 : μ.1 0 6 = nI n) (hc : ∀ k, k < n → (μ.2 4 k).toInt = f k) : es_I (d + 2) n_Mo_wide [mz_R 16 0] μ (fun r μ' => μ' = μ ∧ r = if es_wd f n = true then -1000005 else 0) := by
  refine es_I.mk (w_Mo_wide_0 0 μ ?_)
  have key : ∀ (g k : Nat), k + g = n → v_Mo_wide (es_R (d + 1)) (es_qI (fun r μ' => μ' = μ ∧ r = if es_wd f n = true then -1000005 else 0)) (4, [(0, mz_R 16 0), (1, mz_I (es_b (es_wd f k))), (2, mz_I (nI k))], [], μ) := by
    intro g
    induction g with
    | zero =>
      intro k hk
      have hk : k = n := by omega
      subst hk
      refine w_Mo_wide_4 0 _ _ μ (es_t (by rw [h6]; exact nI_le (by omega) (by omega)) (es_br (fun q => es_rI ⟨rfl, ?_⟩) (fun q => es_rI ⟨rfl, ?_⟩)))
      · rw [es_b_0] at q
        rw [q]; rfl
      · rw [es_b_0] at q
        rw [if_pos (Bool.of_not_eq_false q)]
    | succ g ih =>
      intro k hk
      have nx := ih (k + 1) (by omega)
      rw [es_wd] at nx
      refine w_Mo_wide_4 0 _ _ μ (es_f (by rw [h6]; exact nI_ge (by omega) (by omega)) ?_)
      rw [nI_1, es_clamp (by omega)]
      refine es_br (fun q => ⟨vp_in_nI (by omega) (by omega), _, _, es_pure (r_inW d _ μ), ?_⟩) (fun q => ?_)
      · rw [es_b_0] at q
        rw [q, Bool.false_or] at nx
        rw [hc k (by omega)]
        refine es_br (fun q2 => ?_) (fun q2 => ?_)
        · rw [es_b_0, Bool.not_eq_false'] at q2
          rw [q2] at nx
          exact nx
        · rw [es_b_0, Bool.not_eq_false'] at q2
          rw [Bool.of_not_eq_true q2] at nx
          exact nx
      · rw [es_b_0] at q
        rw [Bool.of_not_eq_false q, Bool.true_or] at nx
        exact nx
  exact key n 0 (by omega)
theorem r_product (d : Nat) {μ : mz_M} {l1 l2 : List Int} {k : Nat} (h1 : mo_ls μ 2 2 l1) (h2 : mo_ls μ 3 4 l2) (o1 : es_ok l1) (o2 : es_ok l2) (hk1 : k < l1.length) (hk2 : k < l2.length) : es_J (d + 1) n_Mo_product [mz_R 16 0, mz_I (nI k)] μ (fun r μ' => μ' = μ ∧ r.toInt = es_cv (fun k => l1.getD k 0) (fun k => l2.getD k 0) k) := by
  have c1 := h1.1
  refine es_J.mk (w_Mo_product_0 0 _ μ ?_)
  have bnd : ∀ (j : Nat), -(j * 10000000000000000 : Int) ≤ fb_si (fun i => l1.getD i 0 * l2.getD (k - i) 0) j ∧ fb_si (fun i => l1.getD i 0 * l2.getD (k - i) 0) j ≤ (j * 10000000000000000 : Int) := fun j => fb_si_bound (by omega) (fun i _ => by
    have := es_mulb (o1.bd i) (o2.bd (k - i))
    omega)
  have key : ∀ (g j : Nat) (y : Int64), j + g = k + 1 → y.toInt = fb_si (fun i => l1.getD i 0 * l2.getD (k - i) 0) j → v_Mo_product (es_R d) (es_qJ (fun r μ' => μ' = μ ∧ r.toInt = es_cv (fun k => l1.getD k 0) (fun k => l2.getD k 0) k)) (5, [(0, mz_R 16 0), (1, mz_I (nI k)), (2, mz_L y), (4, mz_I (nI j))], [], μ) := by
    intro g
    induction g with
    | zero =>
      intro j y hj hy
      refine w_Mo_product_5 0 _ _ _ μ (es_t (nI_lt (by omega) (by omega)) (es_rJ ⟨rfl, ?_⟩))
      rw [hy, show j = k + 1 by omega]; rfl
    | succ g ih =>
      intro j y hj hy
      refine w_Mo_product_5 0 _ _ _ μ (es_f (nI_nlt (by omega) (by omega)) ⟨vp_in_nI (by omega) (by omega), ?_⟩)
      rw [pk_sub (by omega), es_clamp (by omega), es_clamp (by omega), nI_1]
      refine ⟨vp_in_nI (by omega) (by omega), ih (j + 1) _ (by omega) ?_⟩
      have t := es_mulb (o1.bd j) (o2.bd (k - j))
      have b := bnd j
      rw [fb_si_succ]
      exact es_add64 hy (es_mul64 (h1.2.2 j (by omega)) (h2.2.2 (k - j) (by omega)) (by omega) (by omega)) (by omega) (by omega)
  exact key (k + 1) 0 0 (by omega) rfl
/-- what was made is o -/
def mo_got (X : Nat → Nat → Prop) (Y : Nat → Prop) (o : es_RL) (μ : mz_M) (r : Int32) (μ' : mz_M) : Prop := mo_f X Y μ μ' ∧ match o with
  | .inl c => r = c ∧ c.toInt < 0
  | .inr l => r = 0 ∧ mo_ls μ' 4 6 l
theorem es_w0 : (-1000005 : Int32).toInt < 0 := by decide +kernel
theorem es_r0 : (-1000006 : Int32).toInt < 0 := by decide +kernel
theorem es_n0 : (-1000002 : Int32).toInt < 0 := by decide +kernel
theorem r_over (d : Nat) {μ : mz_M} {l1 l2 : List Int} (h1 : mo_ls μ 2 2 l1) (h2 : mo_ls μ 3 4 l2) (o1 : es_ok l1) (o2 : es_ok l2) (hne : l2 ≠ []) (h6 : μ.1 0 6 = nI (min l1.length l2.length)) : es_I (d + 2) n_Mo_over [mz_R 16 0] μ (mo_got (mo_x1 6) (mo_y1 4) (es_jr 3 l1 l2) μ) := by
  have c1 := h1.1
  have c2 := h2.1
  have hl2 : 0 < l2.length := by
    cases l2 with
    | nil => exact absurd rfl hne
    | cons a b => exact Nat.succ_pos _
  have e0 : (μ.2 3 0).toInt = l2.getD 0 0 := h2.2.2 0 hl2
  unfold es_jr
  rw [if_neg (by decide), if_neg (by decide), if_neg (by decide)]
  have v40 : vp_in 0 40 := show vp_in (nI 0) 40 from vp_in_nI (by decide) (by decide)
  refine es_I.mk (w_Mo_over_0 0 μ ⟨v40, ?_⟩)
  rw [es_0c]
  have main : l2.getD 0 0 = 1 ∨ l2.getD 0 0 = -1 → v_Mo_over (es_R (d + 1)) (es_qI (mo_got (mo_x1 6) (mo_y1 4) (if l2.getD 0 0 = 1 ∨ l2.getD 0 0 = -1 then es_wr (min l1.length l2.length) (es_qf (fun k => l1.getD k 0) (fun k => l2.getD k 0) (l2.getD 0 0)) else .inl (-1000006)) μ)) (29, [(0, mz_R 16 0), (1, mz_I 0)], [], μ) := by
    intro hs1
    rw [if_pos hs1]
    generalize hs : l2.getD 0 0 = s0 at hs1 e0
    generalize hn : min l1.length l2.length = n at h6
    generalize hF : es_qf (fun k => l1.getD k 0) (fun k => l2.getD k 0) s0 = F
    have key : ∀ (g k : Nat) (μ' : mz_M), k + g = n → mo_f (mo_x1 6) (mo_y1 4) μ μ' → μ'.1 0 6 = nI n → (∀ j, j < k → (μ'.2 4 j).toInt = F j ∧ es_big (F j) = false) → v_Mo_over (es_R (d + 1)) (es_qI (mo_got (mo_x1 6) (mo_y1 4) (es_wr n F) μ)) (29, [(0, mz_R 16 0), (1, mz_I (nI k))], [], μ') := by
      intro g
      induction g with
      | zero =>
        intro k μ' hk hf h6' hb
        refine w_Mo_over_29 0 _ μ' (es_t (by rw [h6']; exact nI_le (by omega) (by omega)) (es_rI ⟨hf, ?_⟩))
        unfold es_wr
        rw [if_neg (by rw [es_wd_all (fun j hj => (hb j (by omega)).2)]; decide)]
        refine ⟨rfl, by rw [es_ls_len]; omega, by rw [es_ls_len]; exact h6', fun j hj => ?_⟩
        rw [es_ls_len] at hj
        rw [es_ls_at _ hj]
        exact (hb j (by omega)).1
      | succ g ih =>
        intro k μ' hk hf h6' hb
        have h1' : mo_ls μ' 2 2 l1 := h1.kept hf (by unfold mo_x1; omega) (by unfold mo_y1; omega)
        have h2' : mo_ls μ' 3 4 l2 := h2.kept hf (by unfold mo_x1; omega) (by unfold mo_y1; omega)
        refine w_Mo_over_29 0 _ μ' (es_f (by rw [h6']; exact nI_ge (by omega) (by omega)) ⟨vp_in_nI (by omega) (by omega), ?_⟩)
        rw [es_clamp (by omega)]
        have bF : ∀ j, j < k → -100000000 ≤ F j ∧ F j ≤ 100000000 := fun j hj => es_big_f (hb j hj).2
        have bnd : ∀ j, j ≤ k → -(j * 10000000000000000 : Int) ≤ fb_si (fun i => l2.getD (i + 1) 0 * F (k - (i + 1))) j ∧ fb_si (fun i => l2.getD (i + 1) 0 * F (k - (i + 1))) j ≤ (j * 10000000000000000 : Int) := fun j hj => fb_si_bound (by omega) (fun i hi => by
          have := es_mulb (o2.bd (i + 1)) (bF (k - (i + 1)) (by omega))
          omega)
        have b1 := o1.bd k
        have inner : ∀ (g2 j : Nat) (y : Int64), j + g2 = k → y.toInt = l1.getD k 0 - fb_si (fun i => l2.getD (i + 1) 0 * F (k - (i + 1))) j → v_Mo_over (es_R (d + 1)) (es_qI (mo_got (mo_x1 6) (mo_y1 4) (es_wr n F) μ)) (47, [(0, mz_R 16 0), (1, mz_I (nI k)), (2, mz_L y), (4, mz_I (nI (j + 1)))], [], μ') := by
          intro g2
          induction g2 with
          | zero =>
            intro j y hj hy
            have hj : j = k := by omega
            subst hj
            have b := bnd j (by omega)
            have e3 : (μ'.2 3 0).toInt = s0 := by rw [hf.2 3 (by unfold mo_y1; omega)]; exact e0
            have hv : (y * μ'.2 3 0).toInt = F j := by
              rw [← hF, es_qf_eq, hF]
              refine es_mul64 hy e3 ?_ ?_
              · rcases hs1 with e | e <;> rw [e] <;> omega
              · rcases hs1 with e | e <;> rw [e] <;> omega
            refine w_Mo_over_47 0 _ _ _ μ' (es_t (nI_lt (by omega) (by omega)) ⟨v40, vp_in_nI (by omega) (by omega), vp_in_nI (by omega) (by omega), ?_⟩)
            rw [es_clamp (by omega), es_0c, mz_wL_at, if_pos ⟨rfl, rfl⟩, nI_1]
            have hf2 : mo_f (mo_x1 6) (mo_y1 4) μ (mz_wL μ' 4 j (y * μ'.2 3 0)) := hf.wL rfl
            refine ⟨_, _, es_pure (r_inW d _ _), ?_⟩
            rw [hv]
            refine es_br (fun q => es_rI ⟨hf2, ?_⟩) (fun q => ?_)
            · rw [es_b_0, Bool.not_eq_false'] at q
              unfold es_wr
              rw [if_pos (es_wd_t (k := j) (by omega) q)]
              exact ⟨rfl, es_w0⟩
            · rw [es_b_0, Bool.not_eq_false'] at q
              refine ih (j + 1) _ (by omega) hf2 h6' (fun i hi => ?_)
              rw [mz_wL_at]
              by_cases e : i = j
              · rw [if_pos ⟨rfl, e⟩, hv, e]
                exact ⟨rfl, Bool.of_not_eq_true q⟩
              · rw [if_neg (fun z => e z.2)]
                exact hb i (by omega)
          | succ g2 ih2 =>
            intro j y hj hy
            refine w_Mo_over_47 0 _ _ _ μ' (es_f (nI_nlt (by omega) (by omega)) ⟨vp_in_nI (by omega) (by omega), ?_⟩)
            rw [pk_sub (by omega), es_clamp (by omega), es_clamp (by omega), nI_1]
            refine ⟨vp_in_nI (by omega) (by omega), ih2 (j + 1) _ (by omega) ?_⟩
            have t := es_mulb (o2.bd (j + 1)) (bF (k - (j + 1)) (by omega))
            have b := bnd j (by omega)
            rw [fb_si_succ, show ∀ a b c : Int, a - (b + c) = a - b - c by intros; omega]
            exact es_sub64 hy (es_mul64 (h2'.2.2 (j + 1) (by omega)) (hb (k - (j + 1)) (by omega)).1 (by omega) (by omega)) (by omega) (by omega)
        refine inner k 0 _ (by omega) ?_
        rw [h1'.2.2 k (by omega)]
        show _ = _ - (0 : Int)
        omega
    exact key n 0 μ (by omega) mo_f.rf h6 (fun j hj => absurd hj (Nat.not_lt_zero j))
  have i1 : (1 : Int64).toInt = 1 := by decide +kernel
  have im1 : (-1 : Int64).toInt = -1 := by decide +kernel
  refine es_br (fun q => main (Or.inl ?_)) (fun q => ⟨v40, es_br (fun q2 => main (Or.inr ?_)) (fun q2 => es_rI ⟨mo_f.rf, ?_⟩)⟩)
  · rw [es_cmp_0, e0, i1] at q
    exact q
  · rw [es_cmp_0, e0, im1] at q2
    exact q2
  · rw [es_cmp_0, e0, i1] at q
    rw [es_cmp_0, e0, im1] at q2
    rw [if_neg (fun z => z.elim q q2)]
    exact ⟨rfl, es_r0⟩
theorem es_wr_ok {n : Nat} {f : Nat → Int} {l : List Int} (hn : n ≤ 40) (h : es_wr n f = .inr l) : es_ok l ∧ l.length = n := by
  unfold es_wr at h
  by_cases e : es_wd f n = true
  · rw [if_pos e] at h; cases h
  · rw [if_neg e] at h
    cases h
    refine ⟨⟨by rw [es_ls_len]; exact hn, fun k hk => ?_⟩, es_ls_len n f⟩
    rw [es_ls_len] at hk
    rw [es_ls_at _ hk]
    exact es_big_f (es_wd_f (Bool.of_not_eq_true e) hk)
theorem es_jr_ok {a : Nat} {l1 l2 l : List Int} (h1 : l1.length ≤ 40) (h : es_jr a l1 l2 = .inr l) : es_ok l ∧ l.length = min l1.length l2.length := by
  unfold es_jr at h
  split at h
  · exact es_wr_ok (by omega) h
  · split at h
    · exact es_wr_ok (by omega) h
    · split at h
      · exact es_wr_ok (by omega) h
      · split at h
        · exact es_wr_ok (by omega) h
        · cases h
theorem r_joins (d : Nat) {μ : mz_M} {l1 l2 : List Int} {a : Nat} (ha : a < 4) (h1 : mo_ls μ 2 2 l1) (h2 : mo_ls μ 3 4 l2) (o1 : es_ok l1) (o2 : es_ok l2) (hne : l2 ≠ []) : es_I (d + 3) n_Mo_joins [mz_R 16 0, mz_I (nI a)] μ (mo_got (mo_x1 6) (mo_y1 4) (es_jr a l1 l2) μ) := by
  have c1 := h1.1
  have c2 := h2.1
  have aq : ∀ c : Nat, c < 10 → (nI a = nI c ↔ a = c) := fun c hc => nI_eq (by omega) (by omega)
  have main : ∀ n, n = min l1.length l2.length → (if (nI a : Int32) = (3 : Int32) then
        (∃ (r2 : Int32) (μ1 : mz_M), es_R (d + 2) n_Mo_over [mz_R 16 0] (mz_wI μ 0 6 (nI n)) (some (mz_I r2)) μ1 ∧
          (es_qI (mo_got (mo_x1 6) (mo_y1 4) (es_jr a l1 l2) μ) (some (mz_I r2)) μ1))
      else
        (v_Mo_joins (es_R (d + 2)) (es_qI (mo_got (mo_x1 6) (mo_y1 4) (es_jr a l1 l2) μ)) (38, [(0, mz_R 16 0), (1, mz_I (nI a)), (2, mz_I 0)], [], mz_wI μ 0 6 (nI n)))) := by
    intro n hn
    have hw : mo_f (mo_x1 6) (mo_y1 4) μ (mz_wI μ 0 6 (nI n)) := mo_f.rf.wI ⟨rfl, rfl⟩
    have w1 : mo_ls (mz_wI μ 0 6 (nI n)) 2 2 l1 := h1.kept hw (by unfold mo_x1; omega) (by unfold mo_y1; omega)
    have w2 : mo_ls (mz_wI μ 0 6 (nI n)) 3 4 l2 := h2.kept hw (by unfold mo_x1; omega) (by unfold mo_y1; omega)
    have w6 : (mz_wI μ 0 6 (nI n)).1 0 6 = nI n := by rw [mz_wI_at, if_pos ⟨rfl, rfl⟩]
    refine es_br (fun q => ?_) (fun q => ?_)
    · have q := (aq 3 (by omega)).mp q
      rw [q]
      obtain ⟨r, μ1, hC, hf, hm⟩ := r_over d w1 w2 o1 o2 hne (by rw [w6, hn])
      exact ⟨_, _, hC, es_rI ⟨hw.tr hf, hm⟩⟩
    · have q : ¬ a = 3 := fun z => q ((aq 3 (by omega)).mpr z)
      obtain ⟨f, hf1, hf2⟩ : ∃ f : Nat → Int, es_jr a l1 l2 = es_wr n f ∧ f = if a = 0 then (fun k => l1.getD k 0 + l2.getD k 0) else if a = 1 then (fun k => l1.getD k 0 - l2.getD k 0) else es_cv (fun k => l1.getD k 0) (fun k => l2.getD k 0) := by
        refine ⟨_, ?_, rfl⟩
        unfold es_jr
        rw [← hn]
        by_cases e0 : a = 0
        · rw [if_pos e0, if_pos e0]
        · rw [if_neg e0, if_neg e0]
          by_cases e1 : a = 1
          · rw [if_pos e1, if_pos e1]
          · rw [if_neg e1, if_neg e1, if_pos (by omega)]
      rw [hf1]
      have key : ∀ (g k : Nat) (μ' : mz_M), k + g = n → mo_f (mo_x1 6) (mo_y1 4) μ μ' → μ'.1 0 6 = nI n → (∀ j, j < k → (μ'.2 4 j).toInt = f j) → v_Mo_joins (es_R (d + 2)) (es_qI (mo_got (mo_x1 6) (mo_y1 4) (es_wr n f) μ)) (38, [(0, mz_R 16 0), (1, mz_I (nI a)), (2, mz_I (nI k))], [], μ') := by
        intro g
        induction g with
        | zero =>
          intro k μ' hk hf h6' hb
          refine w_Mo_joins_38 0 _ _ μ' (es_t (by rw [h6']; exact nI_le (by omega) (by omega)) ⟨_, _, es_pure (r_wide d (by omega) h6' (fun j hj => hb j (by omega))), es_rI ⟨hf, ?_⟩⟩)
          unfold es_wr
          by_cases e : es_wd f n = true
          · rw [if_pos e, if_pos e]
            exact ⟨rfl, es_w0⟩
          · rw [if_neg e, if_neg e]
            refine ⟨rfl, by rw [es_ls_len]; omega, by rw [es_ls_len]; exact h6', fun j hj => ?_⟩
            rw [es_ls_len] at hj
            rw [es_ls_at _ hj]
            exact hb j (by omega)
        | succ g ih =>
          intro k μ' hk hf h6' hb
          have h1' : mo_ls μ' 2 2 l1 := h1.kept hf (by unfold mo_x1; omega) (by unfold mo_y1; omega)
          have h2' : mo_ls μ' 3 4 l2 := h2.kept hf (by unfold mo_x1; omega) (by unfold mo_y1; omega)
          have hin : vp_in (nI k) 40 := vp_in_nI (by omega) (by omega)
          have b1 := o1.bd k
          have b2 := o2.bd k
          have nx : ∀ y : Int64, y.toInt = f k → v_Mo_joins (es_R (d + 2)) (es_qI (mo_got (mo_x1 6) (mo_y1 4) (es_wr n f) μ)) (38, [(0, mz_R 16 0), (1, mz_I (nI a)), (2, mz_I (nI k + 1))], [], mz_wL μ' 4 k y) := by
            intro y hy
            rw [nI_1]
            refine ih (k + 1) _ (by omega) (hf.wL rfl) h6' (fun j hj => ?_)
            rw [mz_wL_at]
            by_cases e : j = k
            · rw [if_pos ⟨rfl, e⟩, hy, e]
            · rw [if_neg (fun z => e z.2)]
              exact hb j (by omega)
          refine w_Mo_joins_38 0 _ _ μ' (es_f (by rw [h6']; exact nI_ge (by omega) (by omega)) ?_)
          rw [es_clamp (by omega)]
          refine es_br (fun q0 => ⟨hin, hin, hin, nx _ ?_⟩) (fun q0 => es_br (fun q1 => ⟨hin, hin, hin, nx _ ?_⟩) (fun q1 => ?_))
          · rw [hf2, if_pos ((aq 0 (by omega)).mp q0)]
            exact es_add64 (h1'.2.2 k (by omega)) (h2'.2.2 k (by omega)) (by omega) (by omega)
          · rw [hf2, if_neg (fun z => q0 ((aq 0 (by omega)).mpr z)), if_pos ((aq 1 (by omega)).mp q1)]
            exact es_sub64 (h1'.2.2 k (by omega)) (h2'.2.2 k (by omega)) (by omega) (by omega)
          · obtain ⟨y, hY, hy⟩ := es_purJ (r_product (d + 1) h1' h2' o1 o2 (k := k) (by omega) (by omega))
            refine ⟨_, _, hY, hin, nx _ ?_⟩
            rw [hf2, if_neg (fun z => q0 ((aq 0 (by omega)).mpr z)), if_neg (fun z => q1 ((aq 1 (by omega)).mpr z))]
            exact hy
      exact key n 0 _ (by omega) hw w6 (fun j hj => absurd hj (Nat.not_lt_zero j))
  refine es_I.mk (w_Mo_joins_0 0 _ μ ?_)
  rw [h1.2.1, h2.2.1]
  refine es_br (fun q => main _ ?_) (fun q => main _ ?_)
  · have q := (nI_leI (by omega) (by omega)).mp q
    omega
  · have q : ¬ l2.length ≤ l1.length := fun z => q (nI_le z (by omega))
    omega
