/-! Sheets of the class. -/
/-- a sheet: not there, or its lane and items -/
abbrev es_L : Type := Option (Nat × List Int64)
def es_lf (μ : mz_M) (p : Nat) (o : es_L) : Prop := match o with
  | none => μ.1 p 1 = 0
  | some (ln, its) => μ.1 p 1 = 1 ∧ ln < 4 ∧ μ.1 p 2 = nI ln ∧ its.length ≤ 40 ∧ μ.1 p 3 = nI its.length ∧ ∀ k, k < its.length → μ.2 (p + 1) k = its.getD k 0
theorem es_lf.kept {T : Nat → Prop} {μ μ' : mz_M} {p : Nat} {o : es_L} (h : es_lf μ p o) (hf : es_fr T μ μ') (h1 : ¬ T p) (h2 : ¬ T (p + 1)) : es_lf μ' p o := by
  cases o with
  | none =>
    show μ'.1 p 1 = 0
    rw [(hf p h1).1]; exact h
  | some q =>
    obtain ⟨ln, its⟩ := q
    obtain ⟨a1, a2, a3, a4, a5, a6⟩ := h
    refine ⟨?_, a2, ?_, a4, ?_, fun k hk => ?_⟩
    · rw [(hf p h1).1]; exact a1
    · rw [(hf p h1).1]; exact a3
    · rw [(hf p h1).1]; exact a5
    · rw [(hf (p + 1) h2).2]; exact a6 k hk
/-- n items from i on lie in a row of so many -/
def es_hi (len : Nat) (i n : Int32) : Bool := decide (0 ≤ i.toInt ∧ 0 ≤ n.toInt ∧ i.toInt + n.toInt ≤ len)
theorem s_hasItems (d : Nat) {p : Nat} {i n : Int32} {μ : mz_M} {ln : Nat} {its : List Int64} (h : es_lf μ p (some (ln, its))) : es_I (d + 1) n_Leaf_hasItems [mz_R 14 p, mz_I i, mz_I n] μ (fun r μ' => μ' = μ ∧ r = es_b (es_hi its.length i n)) := by
  obtain ⟨a1, a2, a3, a4, a5, a6⟩ := h
  have r1 := fb_rng i
  have r2 := fb_rng n
  have e : (i.toInt64 + n.toInt64).toInt = i.toInt + n.toInt := es_add64 (es_i2l i) (es_i2l n) (by omega) (by omega)
  refine es_I.mk (w_Leaf_hasItems_0 p i n μ (es_br (fun q => ⟨Or.inl rfl, es_rI ⟨rfl, ?_⟩⟩) (fun q => es_br (fun q2 => ⟨Or.inl rfl, es_rI ⟨rfl, ?_⟩⟩) (fun q2 => es_br (fun q3 => ⟨Or.inl rfl, es_rI ⟨rfl, ?_⟩⟩) (fun q3 => ⟨Or.inr rfl, es_rI ⟨rfl, ?_⟩⟩)))))
  · have := es_hlt q
    rw [es_i0] at this
    unfold es_hi
    rw [decide_eq_false (by omega)]; rfl
  · have := es_hlt q2
    rw [es_i0] at this
    unfold es_hi
    rw [decide_eq_false (by omega)]; rfl
  · rw [es_cmp_pos, e, es_i2l, a5, nI_toInt (by omega)] at q3
    unfold es_hi
    rw [decide_eq_false (by omega)]; rfl
  · have q := es_nlt q
    have q2 := es_nlt q2
    rw [es_i0] at q q2
    rw [es_cmp_pos, e, es_i2l, a5, nI_toInt (by omega)] at q3
    unfold es_hi
    rw [decide_eq_true ⟨q, q2, by omega⟩]; rfl
/-- why n items of a sheet can't be taken; 0 -/
def es_rf (o : es_L) (lane i n : Int32) : Int32 := match o with
  | none => -1000011
  | some (ln, its) => if nI ln = lane then (if es_hi its.length i n = true then 0 else -1000013) else -1000012
theorem s_refuse (d : Nat) {p : Nat} {lane i n : Int32} {μ : mz_M} {o : es_L} (h : es_lf μ p o) : es_I (d + 2) n_Leaf_refuse [mz_R 14 p, mz_I lane, mz_I i, mz_I n] μ (fun r μ' => μ' = μ ∧ r = es_rf o lane i n) := by
  refine es_I.mk (w_Leaf_refuse_0 p lane i n μ ?_)
  cases o with
  | none => exact es_t h (es_rI ⟨rfl, rfl⟩)
  | some q =>
    obtain ⟨ln, its⟩ := q
    have h0 := h
    obtain ⟨a1, a2, a3, a4, a5, a6⟩ := h
    refine es_f (by rw [a1]; decide +kernel) (es_br (fun q => ?_) (fun q => es_rI ⟨rfl, ?_⟩))
    · rw [a3] at q
      refine ⟨_, _, es_pure (s_hasItems d h0), es_br (fun q2 => es_rI ⟨rfl, ?_⟩) (fun q2 => es_rI ⟨rfl, ?_⟩)⟩
      · rw [es_b_0] at q2
        unfold es_rf
        dsimp only
        rw [if_pos q, q2]; rfl
      · rw [es_b_0] at q2
        unfold es_rf
        dsimp only
        rw [if_pos q, if_pos (Bool.of_not_eq_false q2)]
    · rw [a3] at q
      unfold es_rf
      dsimp only
      rw [if_neg q]
theorem s_lat (d : Nat) {p k : Nat} {μ : mz_M} {ln : Nat} {its : List Int64} (h : es_lf μ p (some (ln, its))) (hk : k < 2147483648) : es_J (d + 1) n_Leaf_at [mz_R 14 p, mz_I (nI k)] μ (fun r μ' => μ' = μ ∧ r = its.getD k 0) := by
  obtain ⟨a1, a2, a3, a4, a5, a6⟩ := h
  refine es_J.mk (w_Leaf_at_0 p (nI k) μ (es_f (nI_pos (by omega)) (es_br (fun q => es_rJ ⟨rfl, ?_⟩) (fun q => ?_))))
  · rw [a5] at q
    have := (nI_leI (by omega) (by omega)).mp q
    rw [List.getD_eq_getElem?_getD, List.getElem?_eq_none (by omega)]; rfl
  · rw [a5] at q
    have : ¬ its.length ≤ k := fun z => q ((nI_leI (by omega) (by omega)).mpr z)
    refine ⟨vp_in_nI (by omega) (by omega), es_rJ ⟨rfl, ?_⟩⟩
    rw [es_clamp (by omega)]
    exact a6 k (by omega)
theorem es_pureJ {d y : Nat} {a : List mz_V} {μ : mz_M} {e : Int64} (h : es_J d y a μ (fun r μ' => μ' = μ ∧ r = e)) : es_R d y a μ (some (mz_L e)) μ := by
  obtain ⟨r, μ', h1, h2, h3⟩ := h
  rw [h2, h3] at h1
  exact h1
/-- the lowest bits, by lane -/
def es_ct (v : Int64) (ln : Nat) : Int64 := if ln = 0 then v.toInt32.toInt8.toInt32.toInt64 else if ln = 1 then v.toInt32.toInt16.toInt32.toInt64 else if ln = 2 then v.toInt32.toInt64 else v
theorem es_setD {its : List Int64} {k j : Nat} {v : Int64} (hk : k < its.length) : (its.set k v).getD j 0 = if j = k then v else its.getD j 0 := by
  rw [List.getD_eq_getElem?_getD, List.getD_eq_getElem?_getD]
  by_cases e : j = k
  · subst e
    rw [List.getElem?_set_self hk, if_pos rfl]; rfl
  · rw [List.getElem?_set_ne (Ne.symm e), if_neg e]
theorem s_lput (d : Nat) {p k : Nat} {v : Int64} {μ : mz_M} {ln : Nat} {its : List Int64} (h : es_lf μ p (some (ln, its))) (hk : k < its.length) : es_V (d + 1) n_Leaf_put [mz_R 14 p, mz_I (nI k), mz_L v] μ (fun μ' => es_fr (es_2 p) μ μ' ∧ es_lf μ' p (some (ln, its.set k (es_ct v ln)))) := by
  obtain ⟨a1, a2, a3, a4, a5, a6⟩ := h
  refine es_V.mk (w_Leaf_put_0 p (nI k) v μ (es_f (nI_pos (by omega)) (es_t (by rw [a5]; exact nI_lt hk (by omega)) ?_)))
  have fin : ∀ x, x = es_ct v ln → es_fr (es_2 p) μ (mz_wL μ (p + 1) k x) ∧ es_lf (mz_wL μ (p + 1) k x) p (some (ln, its.set k (es_ct v ln))) := by
    intro x hx
    refine ⟨es_fr.rf.wL (Or.inr rfl), a1, a2, a3, by rw [List.length_set]; exact a4, by rw [List.length_set]; exact a5, fun j hj => ?_⟩
    rw [List.length_set] at hj
    rw [mz_wL_at, es_setD hk, hx]
    by_cases e : j = k
    · rw [if_pos ⟨rfl, e⟩, if_pos e]
    · rw [if_neg (fun z => e z.2), if_neg e]
      exact a6 j hj
  have lq : ∀ c : Nat, c < 5 → (μ.1 p 2 = nI c ↔ ln = c) := fun c hc => by rw [a3]; exact nI_eq (by omega) (by omega)
  have hin : vp_in (nI k) 40 := vp_in_nI (by omega) (by omega)
  rw [es_clamp (by omega)]
  refine es_br (fun q => ⟨hin, es_rV (fin _ ?_)⟩) (fun q => es_br (fun q2 => ⟨hin, es_rV (fin _ ?_)⟩) (fun q2 => es_br (fun q3 => ⟨hin, es_rV (fin _ ?_)⟩) (fun q3 => ⟨hin, es_rV (fin _ ?_)⟩)))
  · unfold es_ct
    rw [if_pos ((lq 0 (by omega)).mp q)]
  · unfold es_ct
    rw [if_neg (fun z => q ((lq 0 (by omega)).mpr z)), if_pos ((lq 1 (by omega)).mp q2)]
  · unfold es_ct
    rw [if_neg (fun z => q ((lq 0 (by omega)).mpr z)), if_neg (fun z => q2 ((lq 1 (by omega)).mpr z)), if_pos ((lq 2 (by omega)).mp q3)]
  · unfold es_ct
    rw [if_neg (fun z => q ((lq 0 (by omega)).mpr z)), if_neg (fun z => q2 ((lq 1 (by omega)).mpr z)), if_neg (fun z => q3 ((lq 2 (by omega)).mpr z))]
theorem s_hold (d : Nat) {p ln n : Nat} (hl : ln < 4) (hn : n ≤ 40) (μ : mz_M) : es_V (d + 2) n_Leaf_hold [mz_R 14 p, mz_I (nI ln), mz_I (nI n)] μ (fun μ' => es_fr (es_2 p) μ μ' ∧ es_lf μ' p (some (ln, List.replicate n 0))) := by
  refine es_V.mk (w_Leaf_hold_0 p (nI ln) (nI n) μ ⟨Or.inr rfl, ?_⟩)
  refine ⟨_, _, es_pure (s_min_n d (a := n) (b := 40) (by omega) (by omega) _), ?_⟩
  refine ⟨_, _, es_pure (s_max_n d (a := 0) (b := min n 40) (by omega) (by omega) _), ?_⟩
  rw [show max 0 (min n 40) = n by omega]
  have key : ∀ (g k : Nat) (μ' : mz_M), 40 - k ≤ g → k ≤ 40 → es_fr (es_2 p) μ μ' → μ'.1 p 1 = 1 → μ'.1 p 2 = nI ln → μ'.1 p 3 = nI n → (∀ j, j < k → μ'.2 (p + 1) j = 0) → v_Leaf_hold (es_R (d + 1)) (es_qV (fun μ' => es_fr (es_2 p) μ μ' ∧ es_lf μ' p (some (ln, List.replicate n 0)))) (29, [(0, mz_R 14 p), (3, mz_I (nI k))], [], μ') := by
    have stop : ∀ (k : Nat) (μ' : mz_M), k = 40 → es_fr (es_2 p) μ μ' → μ'.1 p 1 = 1 → μ'.1 p 2 = nI ln → μ'.1 p 3 = nI n → (∀ j, j < k → μ'.2 (p + 1) j = 0) → v_Leaf_hold (es_R (d + 1)) (es_qV (fun μ' => es_fr (es_2 p) μ μ' ∧ es_lf μ' p (some (ln, List.replicate n 0)))) (29, [(0, mz_R 14 p), (3, mz_I (nI k))], [], μ') := by
      intro k μ' hk hf b1 b2 b3 b4
      refine w_Leaf_hold_29 p (nI k) μ' (es_t (nI_le (by omega) (by omega)) (es_rV ⟨hf, b1, hl, b2, by rw [List.length_replicate]; exact hn, by rw [List.length_replicate]; exact b3, fun j hj => ?_⟩))
      rw [List.length_replicate] at hj
      rw [b4 j (by omega), List.getD_eq_getElem?_getD, List.getElem?_replicate, if_pos hj]; rfl
    intro g
    induction g with
    | zero => exact fun k μ' hg hk => stop k μ' (by omega)
    | succ g ih =>
      intro k μ' hg hk hf b1 b2 b3 b4
      by_cases e : k = 40
      · exact stop k μ' e hf b1 b2 b3 b4
      · refine w_Leaf_hold_29 p (nI k) μ' (es_f (nI_ge (by omega) (by omega)) ⟨vp_in_nI (by omega) (by omega), ?_⟩)
        rw [es_clamp (by omega), nI_1]
        refine ih (k + 1) _ (by omega) (by omega) (hf.wL (Or.inr rfl)) b1 b2 b3 (fun j hj => ?_)
        rw [mz_wL_at]
        by_cases e2 : j = k
        · rw [if_pos ⟨rfl, e2⟩]
        · rw [if_neg (fun z => e2 z.2)]; exact b4 j (by omega)
  refine key 40 0 _ (by omega) (by omega) (((es_fr.rf.wI (Or.inl rfl)).wI (Or.inl rfl)).wI (Or.inl rfl)) ?_ ?_ ?_ (fun j hj => by omega)
  · rw [mz_wI_at, if_neg (by omega), mz_wI_at, if_neg (by omega), mz_wI_at, if_pos ⟨rfl, rfl⟩]
  · rw [mz_wI_at, if_neg (by omega), mz_wI_at, if_pos ⟨rfl, rfl⟩]
  · rw [mz_wI_at, if_pos ⟨rfl, rfl⟩]
theorem es_cmp_0 (x y : Int64) : lg_cmp x y = 0 ↔ x.toInt = y.toInt := by
  have h1 := es_cmp_pos x y
  have h2 := es_cmp_nn x y
  constructor
  · intro h
    rw [h] at h1 h2
    have a := h2.mp (by decide +kernel)
    have b : ¬ y.toInt < x.toInt := fun z => absurd (h1.mpr z) (by decide +kernel)
    omega
  · intro h
    have e : x = y := (fa_eq64 x y).mpr h
    subst e
    simp [lg_cmp]
/-- whether n items from i on are a list's first -/
def es_bg (its : List Int64) (i : Nat) (l : List Int) : Nat → Bool
  | 0 => true
  | n + 1 => es_bg its i l n && decide ((its.getD (i + n) 0).toInt = l.getD n 0)
theorem es_bg_up {its : List Int64} {i : Nat} {l : List Int} : ∀ {n k : Nat}, k ≤ n → es_bg its i l k = false → es_bg its i l n = false
  | 0, k, h, hk => by
    have : k = 0 := by omega
    subst this; exact hk
  | n + 1, k, h, hk => by
    by_cases e : k = n + 1
    · subst e; exact hk
    · unfold es_bg
      rw [es_bg_up (by omega) hk]; rfl
theorem s_begins (d : Nat) {p p3 i n : Nat} {μ : mz_M} {ln : Nat} {its : List Int64} {l : List Int} (h : es_lf μ p (some (ln, its))) (h3 : es_row μ p3 l) (hi : i < 2147483000) (hn : n ≤ 100) : es_I (d + 2) n_Leaf_begins [mz_R 14 p, mz_I (nI i), mz_I (nI n), mz_R 3 p3] μ (fun r μ' => μ' = μ ∧ r = es_b (es_bg its i l n && decide (n ≤ l.length))) := by
  have c1 := h3.1.1
  refine es_I.mk (w_Leaf_begins_0 p _ _ p3 μ ?_)
  have key : ∀ (g k : Nat), n - k ≤ g → k ≤ n → es_bg its i l k = true → v_Leaf_begins (es_R (d + 1)) (es_qI (fun r μ' => μ' = μ ∧ r = es_b (es_bg its i l n && decide (n ≤ l.length)))) (3, [(0, mz_R 14 p), (1, mz_I (nI i)), (2, mz_I (nI n)), (3, mz_R 3 p3), (4, mz_I (nI k))], [], μ) := by
    have stop : ∀ k, k = n → es_bg its i l k = true → v_Leaf_begins (es_R (d + 1)) (es_qI (fun r μ' => μ' = μ ∧ r = es_b (es_bg its i l n && decide (n ≤ l.length)))) (3, [(0, mz_R 14 p), (1, mz_I (nI i)), (2, mz_I (nI n)), (3, mz_R 3 p3), (4, mz_I (nI k))], [], μ) := by
      intro k hk hb
      subst hk
      refine w_Leaf_begins_3 p _ _ p3 _ μ (es_t (nI_le (by omega) (by omega)) (es_br (fun q => ⟨Or.inl rfl, es_rI ⟨rfl, ?_⟩⟩) (fun q => ⟨Or.inr rfl, es_rI ⟨rfl, ?_⟩⟩)))
      · rw [h3.2.1] at q
        have := (nI_ltI (by omega) (by omega)).mp q
        rw [hb, decide_eq_false (by omega)]; rfl
      · rw [h3.2.1] at q
        have : ¬ l.length < k := fun z => q ((nI_ltI (by omega) (by omega)).mpr z)
        rw [hb, decide_eq_true (by omega)]; rfl
    intro g
    induction g with
    | zero => exact fun k hg hk hb => stop k (by omega) hb
    | succ g ih =>
      intro k hg hk hb
      by_cases e : k = n
      · exact stop k e hb
      · refine w_Leaf_begins_3 p _ _ p3 _ μ (es_f (nI_ge (by omega) (by omega)) ?_)
        rw [nI_add]
        refine ⟨_, _, es_pureJ (s_lat d (k := i + k) h (by omega)), ?_⟩
        obtain ⟨r, hA, hr⟩ := es_pur (s_at_n d (k := k) h3 (by omega))
        refine ⟨_, _, hA, es_br (fun q => ?_) (fun q => ⟨Or.inl rfl, es_rI ⟨rfl, ?_⟩⟩)⟩
        · rw [es_cmp_0, es_i2l, hr] at q
          rw [nI_1]
          refine ih (k + 1) (by omega) (by omega) ?_
          unfold es_bg
          rw [hb, decide_eq_true q]; rfl
        · rw [es_cmp_0, es_i2l, hr] at q
          have : es_bg its i l (k + 1) = false := by
            unfold es_bg
            rw [hb, decide_eq_false q]; rfl
          rw [es_bg_up (by omega) this]; rfl
  exact key n 0 (by omega) (by omega) rfl
