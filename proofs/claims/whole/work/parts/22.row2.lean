/-! Sums, products, quotients of rows. -/
theorem es_bm64 {z : Int} (h1 : -9223372036854775808 ≤ z) (h2 : z < 9223372036854775808) : z.bmod (2 ^ 64) = z := by
  rw [Int.bmod_eq_of_le] <;> omega
theorem es_add64 {x y : Int64} {a b : Int} (hx : x.toInt = a) (hy : y.toInt = b) (h1 : -9223372036854775808 ≤ a + b) (h2 : a + b < 9223372036854775808) : (x + y).toInt = a + b := by
  rw [Int64.toInt_add, hx, hy, es_bm64 h1 h2]
theorem es_sub64 {x y : Int64} {a b : Int} (hx : x.toInt = a) (hy : y.toInt = b) (h1 : -9223372036854775808 ≤ a - b) (h2 : a - b < 9223372036854775808) : (x - y).toInt = a - b := by
  rw [Int64.toInt_sub, hx, hy, es_bm64 h1 h2]
theorem es_mul64 {x y : Int64} {a b : Int} (hx : x.toInt = a) (hy : y.toInt = b) (h1 : -9223372036854775808 ≤ a * b) (h2 : a * b < 9223372036854775808) : (x * y).toInt = a * b := by
  rw [Int64.toInt_mul, hx, hy, es_bm64 h1 h2]
theorem es_i2l (x : Int32) : x.toInt64.toInt = x.toInt := Int32.toInt_toInt64 x
theorem es_mulb {a b A B : Int} (ha : -A ≤ a ∧ a ≤ A) (hb : -B ≤ b ∧ b ≤ B) : -(A * B) ≤ a * b ∧ a * b ≤ A * B := by
  have h1 : a.natAbs ≤ A.toNat := by omega
  have h2 : b.natAbs ≤ B.toNat := by omega
  have h3 : (a * b).natAbs ≤ A.toNat * B.toNat := by rw [Int.natAbs_mul]; exact Nat.mul_le_mul h1 h2
  have h4 : ((A.toNat * B.toNat : Nat) : Int) = A * B := by
    rw [Int.natCast_mul, Int.toNat_of_nonneg (by omega), Int.toNat_of_nonneg (by omega)]
  omega
def es_ls (n : Nat) (f : Nat → Int) : List Int := (List.range n).map f
theorem es_ls_len (n : Nat) (f : Nat → Int) : (es_ls n f).length = n := by unfold es_ls; rw [List.length_map, List.length_range]
theorem es_ls_at {n k : Nat} (f : Nat → Int) (h : k < n) : (es_ls n f).getD k 0 = f k := by
  unfold es_ls
  rw [List.getD_eq_getElem?_getD, List.getElem?_map, List.getElem?_range h]
  rfl
theorem es_ls_cong {n : Nat} {f g : Nat → Int} (h : ∀ k, k < n → f k = g k) : es_ls n f = es_ls n g := List.map_congr_left (fun k hk => h k (List.mem_range.mp hk))
theorem es_ls_eta (l : List Int) : es_ls l.length (fun k => l.getD k 0) = l := by
  apply List.ext_getElem?
  intro k
  unfold es_ls
  rw [List.getElem?_map]
  by_cases h : k < l.length
  · rw [List.getElem?_range h]
    show some (l.getD k 0) = _
    rw [List.getD_eq_getElem?_getD, List.getElem?_eq_getElem h]; rfl
  · rw [List.getElem?_eq_none (by rw [List.length_range]; omega), List.getElem?_eq_none (by omega)]; rfl
def es_big (v : Int) : Bool := decide (v < -100000000 ∨ 100000000 < v)
theorem es_big_f {v : Int} (h : es_big v = false) : -100000000 ≤ v ∧ v ≤ 100000000 := by
  have := of_decide_eq_false h
  omega
/-- whether some of the first n is too great -/
def es_wd (f : Nat → Int) : Nat → Bool
  | 0 => false
  | n + 1 => es_wd f n || es_big (f n)
theorem es_wd_f {f : Nat → Int} : ∀ {n k : Nat}, es_wd f n = false → k < n → es_big (f k) = false
  | 0, _, _, h => absurd h (Nat.not_lt_zero _)
  | n + 1, k, h, hk => by
    unfold es_wd at h
    rw [Bool.or_eq_false_iff] at h
    by_cases e : k = n
    · subst e; exact h.2
    · exact es_wd_f h.1 (by omega)
theorem es_wd_t {f : Nat → Int} : ∀ {n k : Nat}, k < n → es_big (f k) = true → es_wd f n = true
  | 0, _, h, _ => absurd h (Nat.not_lt_zero _)
  | n + 1, k, hk, h => by
    unfold es_wd
    by_cases e : k = n
    · subst e; rw [h, Bool.or_true]
    · rw [es_wd_t (by omega) h, Bool.true_or]
theorem es_wd_all {f : Nat → Int} : ∀ {n : Nat}, (∀ k, k < n → es_big (f k) = false) → es_wd f n = false
  | 0, _ => rfl
  | n + 1, h => by
    unfold es_wd
    rw [es_wd_all (fun k hk => h k (by omega)), h n (by omega)]; rfl
theorem es_wd_cong {f g : Nat → Int} : ∀ {n : Nat}, (∀ k, k < n → f k = g k) → es_wd f n = es_wd g n
  | 0, _ => rfl
  | n + 1, h => by
    unfold es_wd
    rw [es_wd_cong (fun k hk => h k (by omega)), h n (by omega)]
/-- n terms f became a row, or one of them was too great -/
def es_res (p n : Nat) (f : Nat → Int) (μ : mz_M) (r : Int32) (μ' : mz_M) : Prop := es_fr (es_2 p) μ μ' ∧ ((es_wd f n = true ∧ r = -1000005) ∨ (es_wd f n = false ∧ r = 0 ∧ es_row μ' p (es_ls n f)))
theorem es_res.done {p n : Nat} {f : Nat → Int} {μ μ' : mz_M} (hf : es_fr (es_2 p) μ μ') (h : es_raw μ' p n f) (hb : ∀ k, k < n → es_big (f k) = false) : es_res p n f μ 0 μ' :=
  ⟨hf, Or.inr ⟨es_wd_all hb, rfl, h.row (es_ls_len n f) (fun k hk => (es_ls_at f hk).symm) (fun k hk => es_big_f (hb k hk))⟩⟩
theorem es_res.wide {p n k : Nat} {f : Nat → Int} {μ μ' : mz_M} (hf : es_fr (es_2 p) μ μ') (hk : k < n) (hb : es_big (f k) = true) : es_res p n f μ (-1000005) μ' :=
  ⟨hf, Or.inl ⟨es_wd_t hk hb, rfl⟩⟩
theorem es_res.cong {p n : Nat} {f g : Nat → Int} {μ μ' : mz_M} {r : Int32} (h : es_res p n f μ r μ') (hfg : ∀ k, k < n → f k = g k) : es_res p n g μ r μ' := by
  obtain ⟨h1, h2⟩ := h
  rw [es_wd_cong hfg, es_ls_cong hfg] at h2
  exact ⟨h1, h2⟩
theorem es_row.bd {μ : mz_M} {p : Nat} {l : List Int} (h : es_row μ p l) (k : Nat) : -100000000 ≤ l.getD k 0 ∧ l.getD k 0 ≤ 100000000 := by
  by_cases hk : k < l.length
  · exact h.1.2 k hk
  · rw [List.getD_eq_getElem?_getD, List.getElem?_eq_none (by omega)]
    exact ⟨by decide, by decide⟩
theorem s_sum (d : Nat) {p p1 p2 : Nat} {sg : Int32} {μ : mz_M} {l1 l2 : List Int} (h1 : es_row μ p1 l1) (h2 : es_row μ p2 l2) (e1 : es_sep p p1) (e2 : es_sep p p2) (hs : sg.toInt = 1 ∨ sg.toInt = -1) :
    es_I (d + 3) n_Row_sum [mz_R 3 p, mz_R 3 p1, mz_R 3 p2, mz_I sg] μ (es_res p (min l1.length l2.length) (fun k => l1.getD k 0 + sg.toInt * l2.getD k 0) μ) := by
  have c1 := h1.1.1
  have c2 := h2.1.1
  refine es_I.mk (w_Row_sum_0 p p1 p2 sg μ ?_)
  rw [h1.2.1, h2.2.1]
  refine ⟨_, _, es_pure (s_min_n (d + 1) (by omega) (by omega) μ), ?_⟩
  obtain ⟨μ1, hC, hf, hr⟩ := s_begin d (p := p) (n := min l1.length l2.length) (by omega) μ
  refine ⟨_, hC, ?_⟩
  generalize hn : min l1.length l2.length = n at hr ⊢
  have key : ∀ (g k : Nat) (μ' : mz_M), n - k ≤ g → k ≤ n → es_fr (es_2 p) μ μ' → es_raw μ' p n (fun j => if j < k then l1.getD j 0 + sg.toInt * l2.getD j 0 else 0) → (∀ j, j < k → es_big (l1.getD j 0 + sg.toInt * l2.getD j 0) = false) → v_Row_sum (es_R (d + 2)) (es_qI (es_res p n (fun k => l1.getD k 0 + sg.toInt * l2.getD k 0) μ)) (18, [(0, mz_R 3 p), (1, mz_R 3 p1), (2, mz_R 3 p2), (3, mz_I sg), (4, mz_I (nI k))], [], μ') := by
    intro g
    induction g with
    | zero =>
      intro k μ' hg hk hf hr hb
      have hkn : k = n := by omega
      refine w_Row_sum_18 p p1 p2 sg (nI k) μ' (es_t ?_ (es_rI (es_res.done hf (hr.cong (fun j hj => if_pos (by omega))) (fun j hj => hb j (by omega)))))
      rw [hr.2.1]
      exact nI_le (by omega) (by omega)
    | succ g ih =>
      intro k μ' hg hk hf hr hb
      by_cases hkn : k = n
      · refine w_Row_sum_18 p p1 p2 sg (nI k) μ' (es_t ?_ (es_rI (es_res.done hf (hr.cong (fun j hj => if_pos (by omega))) (fun j hj => hb j (by omega)))))
        rw [hr.2.1]
        exact nI_le (by omega) (by omega)
      · refine w_Row_sum_18 p p1 p2 sg (nI k) μ' (es_f ?_ ?_)
        · rw [hr.2.1]
          exact nI_ge (by omega) (by omega)
        · obtain ⟨a, hA, ha⟩ := es_pur (s_at_n (d + 1) (k := k) (h1.kept hf e1.n1 e1.n2) (by omega))
          obtain ⟨b, hB, hb2⟩ := es_pur (s_at_n (d + 1) (k := k) (h2.kept hf e2.n1 e2.n2) (by omega))
          refine ⟨_, _, hA, _, _, hB, ?_⟩
          have b1 := h1.bd k
          have b2 := h2.bd k
          have b3 : -100000000 ≤ sg.toInt * l2.getD k 0 ∧ sg.toInt * l2.getD k 0 ≤ 100000000 := by
            rcases hs with e | e <;> rw [e] <;> omega
          have hv : (a.toInt64 + sg.toInt64 * b.toInt64).toInt = l1.getD k 0 + sg.toInt * l2.getD k 0 := es_add64 (by rw [es_i2l, ha]) (es_mul64 (es_i2l sg) (by rw [es_i2l, hb2]) (by omega) (by omega)) (by omega) (by omega)
          refine ⟨_, _, es_pure (s_isWide (d + 1) _ μ'), ?_⟩
          rw [hv]
          refine es_br (fun q => ?_) (fun q => es_rI (es_res.wide (k := k) hf (by omega) ?_))
          · rw [es_b_0] at q
            obtain ⟨μ2, hD, hf2, hr2⟩ := s_put_n (d + 1) (p := p) (n := n) (j := k) (v := a.toInt64 + sg.toInt64 * b.toInt64) hr (by omega) (by rw [hv]; omega)
            refine ⟨_, hD, ?_⟩
            rw [nI_1]
            refine ih (k + 1) μ2 (by omega) (by omega) (hf.tr hf2) (hr2.cong (fun j hj => ?_)) (fun j hj => ?_)
            · by_cases e : j = k
              · rw [if_pos e, if_pos (by omega), hv, e]
              · rw [if_neg e]
                by_cases e3 : j < k
                · rw [if_pos e3, if_pos (by omega)]
                · rw [if_neg e3, if_neg (by omega)]
            · by_cases e : j = k
              · rw [e]; exact q
              · exact hb j (by omega)
          · rw [es_b_0] at q
            exact Bool.of_not_eq_false q
  exact key n 0 μ1 (by omega) (by omega) hf (hr.cong (fun j hj => (if_neg (by omega)).symm)) (fun j hj => by omega)
/-- the terms of a product -/
def es_cv (a b : Nat → Int) (k : Nat) : Int := fb_si (fun i => a i * b (k - i)) (k + 1)
theorem es_cv_cong {a b a' b' : Nat → Int} {k : Nat} (h1 : ∀ i, i ≤ k → a i = a' i) (h2 : ∀ i, i ≤ k → b i = b' i) : es_cv a b k = es_cv a' b' k := fb_si_cong (fun i hi => by rw [h1 i (by omega), h2 (k - i) (by omega)])
set_option maxHeartbeats 1000000 in
theorem s_product (d : Nat) {p p1 p2 : Nat} {μ : mz_M} {l1 l2 : List Int} (h1 : es_row μ p1 l1) (h2 : es_row μ p2 l2) (e1 : es_sep p p1) (e2 : es_sep p p2) :
    es_I (d + 3) n_Row_product [mz_R 3 p, mz_R 3 p1, mz_R 3 p2] μ (es_res p (min l1.length l2.length) (es_cv (fun k => l1.getD k 0) (fun k => l2.getD k 0)) μ) := by
  have c1 := h1.1.1
  have c2 := h2.1.1
  refine es_I.mk (w_Row_product_0 p p1 p2 μ ?_)
  rw [h1.2.1, h2.2.1]
  refine ⟨_, _, es_pure (s_min_n (d + 1) (by omega) (by omega) μ), ?_⟩
  obtain ⟨μ1, hC, hf, hr⟩ := s_begin d (p := p) (n := min l1.length l2.length) (by omega) μ
  refine ⟨_, hC, ?_⟩
  generalize hn : min l1.length l2.length = n at hr ⊢
  have bnd : ∀ (k j : Nat), -(j * 10000000000000000 : Int) ≤ fb_si (fun i => l1.getD i 0 * l2.getD (k - i) 0) j ∧ fb_si (fun i => l1.getD i 0 * l2.getD (k - i) 0) j ≤ (j * 10000000000000000 : Int) := fun k j => fb_si_bound (by omega) (fun i _ => by
    have := es_mulb (h1.bd i) (h2.bd (k - i))
    omega)
  have key : ∀ (g k : Nat) (μ' : mz_M), n - k ≤ g → k ≤ n → es_fr (es_2 p) μ μ' → es_raw μ' p n (fun j => if j < k then es_cv (fun k => l1.getD k 0) (fun k => l2.getD k 0) j else 0) → (∀ j, j < k → es_big (es_cv (fun k => l1.getD k 0) (fun k => l2.getD k 0) j) = false) → v_Row_product (es_R (d + 2)) (es_qI (es_res p n (es_cv (fun k => l1.getD k 0) (fun k => l2.getD k 0)) μ)) (17, [(0, mz_R 3 p), (1, mz_R 3 p1), (2, mz_R 3 p2), (3, mz_I (nI k))], [], μ') := by
    intro g
    induction g with
    | zero =>
      intro k μ' hg hk hf hr hb
      have hkn : k = n := by omega
      refine w_Row_product_17 p p1 p2 (nI k) μ' (es_t ?_ (es_rI (es_res.done hf (hr.cong (fun j hj => if_pos (by omega))) (fun j hj => hb j (by omega)))))
      rw [hr.2.1]
      exact nI_le (by omega) (by omega)
    | succ g ih =>
      intro k μ' hg hk hf hr hb
      by_cases hkn : k = n
      · refine w_Row_product_17 p p1 p2 (nI k) μ' (es_t ?_ (es_rI (es_res.done hf (hr.cong (fun j hj => if_pos (by omega))) (fun j hj => hb j (by omega)))))
        rw [hr.2.1]
        exact nI_le (by omega) (by omega)
      · refine w_Row_product_17 p p1 p2 (nI k) μ' (es_f ?_ ?_)
        · rw [hr.2.1]
          exact nI_ge (by omega) (by omega)
        · have inner : ∀ (g2 j : Nat) (y : Int64), k + 1 - j ≤ g2 → j ≤ k + 1 → y.toInt = fb_si (fun i => l1.getD i 0 * l2.getD (k - i) 0) j → v_Row_product (es_R (d + 2)) (es_qI (es_res p n (es_cv (fun k => l1.getD k 0) (fun k => l2.getD k 0)) μ)) (31, [(0, mz_R 3 p), (1, mz_R 3 p1), (2, mz_R 3 p2), (3, mz_I (nI k)), (4, mz_L y), (6, mz_I (nI j))], [], μ') := by
            have stop : ∀ (j : Nat) (y : Int64), j = k + 1 → y.toInt = fb_si (fun i => l1.getD i 0 * l2.getD (k - i) 0) j → v_Row_product (es_R (d + 2)) (es_qI (es_res p n (es_cv (fun k => l1.getD k 0) (fun k => l2.getD k 0)) μ)) (31, [(0, mz_R 3 p), (1, mz_R 3 p1), (2, mz_R 3 p2), (3, mz_I (nI k)), (4, mz_L y), (6, mz_I (nI j))], [], μ') := by
              intro j y hj hy
              subst hj
              refine w_Row_product_31 p p1 p2 (nI k) y (nI (k + 1)) μ' (es_t (nI_lt (by omega) (by omega)) ?_)
              refine ⟨_, _, es_pure (s_isWide (d + 1) y μ'), ?_⟩
              rw [hy]
              refine es_br (fun q => ?_) (fun q => es_rI (es_res.wide (k := k) hf (by omega) ?_))
              · rw [es_b_0] at q
                have q3 := es_big_f q
                obtain ⟨μ2, hD, hf2, hr2⟩ := s_put_n (d + 1) (p := p) (n := n) (j := k) (v := y) hr (by omega) (by rw [hy]; omega)
                refine ⟨_, hD, ?_⟩
                rw [nI_1]
                refine ih (k + 1) μ2 (by omega) (by omega) (hf.tr hf2) (hr2.cong (fun j hj => ?_)) (fun j hj => ?_)
                · by_cases e : j = k
                  · rw [if_pos e, if_pos (by omega), hy, e]; rfl
                  · rw [if_neg e]
                    by_cases e3 : j < k
                    · rw [if_pos e3, if_pos (by omega)]
                    · rw [if_neg e3, if_neg (by omega)]
                · by_cases e : j = k
                  · rw [e]; exact q
                  · exact hb j (by omega)
              · rw [es_b_0] at q
                exact Bool.of_not_eq_false q
            intro g2
            induction g2 with
            | zero => exact fun j y hg hj hy => stop j y (by omega) hy
            | succ g2 ih2 =>
              intro j y hg hj hy
              by_cases e : j = k + 1
              · exact stop j y e hy
              · refine w_Row_product_31 p p1 p2 (nI k) y (nI j) μ' (es_f (nI_nlt (by omega) (by omega)) ⟨vp_in_nI (by omega) (by omega), ?_⟩)
                rw [pk_sub (by omega)]
                refine ⟨vp_in_nI (by omega) (by omega), ?_⟩
                rw [es_clamp (by omega), es_clamp (by omega), nI_1]
                have h1' := h1.kept hf e1.n1 e1.n2
                have h2' := h2.kept hf e2.n1 e2.n2
                refine ih2 (j + 1) _ (by omega) (by omega) ?_
                have t := es_mulb (h1.bd j) (h2.bd (k - j))
                have b := bnd k j
                rw [fb_si_succ]
                exact es_add64 hy (es_mul64 (by rw [es_i2l, h1'.2.2 j (by omega)]) (by rw [es_i2l, h2'.2.2 (k - j) (by omega)]) (by omega) (by omega)) (by omega) (by omega)
          exact inner (k + 1) 0 0 (by omega) (by omega) rfl
  exact key n 0 μ1 (by omega) (by omega) hf (hr.cong (fun j hj => (if_neg (by omega)).symm)) (fun j hj => by omega)
