/-! Math, and the class's rows: reading, writing, beginning, taking. -/
theorem es_pure {d y : Nat} {a : List mz_V} {μ : mz_M} {e : Int32} (h : es_I d y a μ (fun r μ' => μ' = μ ∧ r = e)) : es_R d y a μ (some (mz_I e)) μ := by
  obtain ⟨r, μ', h1, h2, h3⟩ := h
  rw [h2, h3] at h1
  exact h1
theorem es_pur {d y : Nat} {a : List mz_V} {μ : mz_M} {P : Int32 → Prop} (h : es_I d y a μ (fun r μ' => μ' = μ ∧ P r)) : ∃ r, es_R d y a μ (some (mz_I r)) μ ∧ P r := by
  obtain ⟨r, μ', h1, h2, h3⟩ := h
  rw [h2] at h1
  exact ⟨r, h1, h3⟩
theorem es_purJ {d y : Nat} {a : List mz_V} {μ : mz_M} {P : Int64 → Prop} (h : es_J d y a μ (fun r μ' => μ' = μ ∧ P r)) : ∃ r, es_R d y a μ (some (mz_L r)) μ ∧ P r := by
  obtain ⟨r, μ', h1, h2, h3⟩ := h
  rw [h2] at h1
  exact ⟨r, h1, h3⟩
theorem es_hlt {a b : Int32} (h : a < b) : a.toInt < b.toInt := (fa_lt a b).mp h
theorem es_hle {a b : Int32} (h : a ≤ b) : a.toInt ≤ b.toInt := (fa_le a b).mp h
theorem es_nlt {a b : Int32} (h : ¬ a < b) : b.toInt ≤ a.toInt := Int.not_lt.mp (fun z => h ((fa_lt a b).mpr z))
theorem es_nle {a b : Int32} (h : ¬ a ≤ b) : b.toInt < a.toInt := Int.not_le.mp (fun z => h ((fa_le a b).mpr z))
theorem es_neq {a b : Int32} (h : ¬ a = b) : a.toInt ≠ b.toInt := fun z => h (Int32.toInt_inj.mp z)
theorem es_i0 : (0 : Int32).toInt = 0 := by decide +kernel
theorem es_i1 : (1 : Int32).toInt = 1 := by decide +kernel
theorem es_i4 : (4 : Int32).toInt = 4 := by decide +kernel
theorem s_min (d : Nat) (x y : Int32) (μ : mz_M) : es_I (d + 1) n_Math_min [mz_I x, mz_I y] μ (fun r μ' => μ' = μ ∧ r = if y < x then y else x) := by
  refine es_I.mk (w_Math_min_0 x y μ (es_br (fun h => es_rI ⟨rfl, ?_⟩) (fun h => es_rI ⟨rfl, ?_⟩)))
  · rw [if_pos h]
  · rw [if_neg h]
theorem s_max (d : Nat) (x y : Int32) (μ : mz_M) : es_I (d + 1) n_Math_max [mz_I x, mz_I y] μ (fun r μ' => μ' = μ ∧ r = if x < y then y else x) := by
  refine es_I.mk (w_Math_max_0 x y μ (es_br (fun h => es_rI ⟨rfl, ?_⟩) (fun h => es_rI ⟨rfl, ?_⟩)))
  · rw [if_pos h]
  · rw [if_neg h]
theorem s_abs (d : Nat) (x : Int32) (μ : mz_M) : es_I (d + 1) n_Math_abs [mz_I x] μ (fun r μ' => μ' = μ ∧ r = if 0 ≤ x then x else -x) := by
  refine es_I.mk (w_Math_abs_0 x μ (es_br (fun h => es_rI ⟨rfl, ?_⟩) (fun h => es_rI ⟨rfl, ?_⟩)))
  · rw [if_pos h]
  · rw [if_neg h]
theorem s_min_n (d : Nat) {a b : Nat} (ha : a < 2147483648) (hb : b < 2147483648) (μ : mz_M) : es_I (d + 1) n_Math_min [mz_I (nI a), mz_I (nI b)] μ (fun r μ' => μ' = μ ∧ r = nI (min a b)) := by
  refine (s_min d (nI a) (nI b) μ).mono (fun r μ' h => ⟨h.1, ?_⟩)
  rw [h.2]
  by_cases q : b < a
  · rw [if_pos (nI_lt q (by omega)), Nat.min_eq_right (by omega)]
  · rw [if_neg (nI_nlt (by omega) (by omega)), Nat.min_eq_left (by omega)]
theorem s_max_n (d : Nat) {a b : Nat} (ha : a < 2147483648) (hb : b < 2147483648) (μ : mz_M) : es_I (d + 1) n_Math_max [mz_I (nI a), mz_I (nI b)] μ (fun r μ' => μ' = μ ∧ r = nI (max a b)) := by
  refine (s_max d (nI a) (nI b) μ).mono (fun r μ' h => ⟨h.1, ?_⟩)
  rw [h.2]
  by_cases q : a < b
  · rw [if_pos (nI_lt q (by omega)), Nat.max_eq_right (by omega)]
  · rw [if_neg (nI_nlt (by omega) (by omega)), Nat.max_eq_left (by omega)]
def es_b (c : Bool) : Int32 := if c then 1 else 0
theorem es_b_0 {c : Bool} : es_b c = 0 ↔ c = false := by cases c <;> simp [es_b]
theorem s_isFour (d : Nat) (x : Int32) (μ : mz_M) : es_I (d + 1) n_ES_isOneOfFour [mz_I x] μ (fun r μ' => μ' = μ ∧ r = es_b (decide (0 ≤ x.toInt ∧ x.toInt < 4))) := by
  refine es_I.mk (w_ES_isOneOfFour_0 x μ (es_br (fun h => ⟨Or.inl rfl, es_rI ⟨rfl, ?_⟩⟩) (fun h => es_br (fun h2 => ⟨Or.inl rfl, es_rI ⟨rfl, ?_⟩⟩) (fun h2 => ⟨Or.inr rfl, es_rI ⟨rfl, ?_⟩⟩))))
  · have := es_hlt h
    rw [es_i0] at this
    rw [decide_eq_false (by omega)]; rfl
  · have := es_hle h2
    rw [es_i4] at this
    rw [decide_eq_false (by omega)]; rfl
  · have h := es_nlt h
    have h2 := es_nle h2
    rw [es_i0] at h
    rw [es_i4] at h2
    rw [decide_eq_true ⟨h, h2⟩]; rfl
theorem es_cmp_pos (x y : Int64) : (0 : Int32) < lg_cmp x y ↔ y.toInt < x.toInt := by
  unfold lg_cmp
  rw [← fa_lt64]
  by_cases h : y < x
  · simp only [h, if_true]
    constructor
    · intro _; trivial
    · intro _; decide +kernel
  · by_cases h2 : x = y
    · subst h2
      simp only [h, if_false, if_true]
      constructor
      · intro z; exact absurd z (by decide +kernel)
      · intro z; exact absurd z id
    · simp only [h, h2, if_false]
      constructor
      · intro z; exact absurd z (by decide +kernel)
      · intro z; exact absurd z id
theorem es_cmp_nn (x y : Int64) : (0 : Int32) ≤ lg_cmp x y ↔ y.toInt ≤ x.toInt := by
  unfold lg_cmp
  by_cases h : y < x
  · simp only [h, if_true]
    have := (fa_lt64 y x).mp h
    constructor
    · intro _; omega
    · intro _; decide +kernel
  · by_cases h2 : x = y
    · subst h2
      simp only [h, if_false, if_true]
      constructor
      · intro z; omega
      · intro z; decide +kernel
    · simp only [h, h2, if_false]
      have h3 : ¬ y.toInt ≤ x.toInt := by
        intro z
        have h4 : ¬ y.toInt < x.toInt := fun q => h ((fa_lt64 y x).mpr q)
        exact h2 ((fa_eq64 x y).mpr (by omega))
      constructor
      · intro z; exact absurd z (by decide +kernel)
      · intro z; exact absurd z h3
theorem s_isWide (d : Nat) (v : Int64) (μ : mz_M) : es_I (d + 1) n_ES_isWide [mz_L v] μ (fun r μ' => μ' = μ ∧ r = es_b (decide (v.toInt < -100000000 ∨ 100000000 < v.toInt))) := by
  have e1 : (100000000 : Int64).toInt = 100000000 := by decide +kernel
  have e2 : (-100000000 : Int64).toInt = -100000000 := by decide +kernel
  refine es_I.mk (w_ES_isWide_0 v μ (es_br (fun h => ⟨Or.inr rfl, es_rI ⟨rfl, ?_⟩⟩) (fun h => es_br (fun h2 => ⟨Or.inl rfl, es_rI ⟨rfl, ?_⟩⟩) (fun h2 => ⟨Or.inr rfl, es_rI ⟨rfl, ?_⟩⟩))))
  · rw [es_cmp_pos, e1] at h
    rw [decide_eq_true (Or.inr h)]; rfl
  · rw [es_cmp_pos, e1] at h
    rw [es_cmp_nn, e2] at h2
    rw [decide_eq_false (by omega)]; rfl
  · rw [es_cmp_nn, e2] at h2
    rw [decide_eq_true (Or.inl (by omega))]; rfl
/-- series: lists of whole numbers, at most 40, none too great -/
def es_ok (l : List Int) : Prop := l.length ≤ 40 ∧ ∀ k, k < l.length → -100000000 ≤ l.getD k 0 ∧ l.getD k 0 ≤ 100000000
def es_row (μ : mz_M) (p : Nat) (l : List Int) : Prop := es_ok l ∧ μ.1 p 1 = nI l.length ∧ ∀ k, k < l.length → (μ.1 (p + 1) k).toInt = l.getD k 0
def es_sep (p q : Nat) : Prop := p ≠ q ∧ p + 1 ≠ q ∧ p ≠ q + 1
def es_2 (p : Nat) : Nat → Prop := fun q => q = p ∨ q = p + 1
theorem es_row.kept {S : Nat → Prop} {μ μ' : mz_M} {p : Nat} {l : List Int} (h : es_row μ p l) (hf : es_fr S μ μ') (h1 : ¬ S p) (h2 : ¬ S (p + 1)) : es_row μ' p l := by
  obtain ⟨a, b, c⟩ := h
  exact ⟨a, by rw [(hf p h1).1]; exact b, fun k hk => by rw [(hf (p + 1) h2).1]; exact c k hk⟩
theorem es_sep.n1 {p q : Nat} (h : es_sep p q) : ¬ es_2 p q := by unfold es_2; have := h; unfold es_sep at this; omega
theorem es_sep.n2 {p q : Nat} (h : es_sep p q) : ¬ es_2 p (q + 1) := by unfold es_2; have := h; unfold es_sep at this; omega
theorem s_at (d : Nat) {p : Nat} {x : Int32} {μ : mz_M} {l : List Int} (h : es_row μ p l) : es_I (d + 1) n_Row_at [mz_R 3 p, mz_I x] μ (fun r μ' => μ' = μ ∧ r.toInt = if 0 ≤ x.toInt then l.getD x.toInt.toNat 0 else 0) := by
  obtain ⟨⟨h1, -⟩, h2, h3⟩ := h
  refine es_I.mk (w_Row_at_0 p x μ (es_br (fun q => es_rI ⟨rfl, ?_⟩) (fun q => es_br (fun q2 => es_rI ⟨rfl, ?_⟩) (fun q2 => ?_))))
  · have := es_hlt q
    rw [es_i0] at this
    rw [if_neg (by omega)]; rfl
  · have q := es_nlt q
    rw [es_i0] at q
    have q2 := es_hle q2
    rw [h2, nI_toInt (by omega)] at q2
    rw [if_pos q, List.getD_eq_getElem?_getD, List.getElem?_eq_none (by omega)]; rfl
  · have q := es_nlt q
    rw [es_i0] at q
    have q2 := es_nle q2
    rw [h2, nI_toInt (by omega)] at q2
    refine ⟨es_in q (by omega), es_rI ⟨rfl, ?_⟩⟩
    rw [if_pos q]
    exact h3 _ (show x.toInt.toNat < l.length by omega)
theorem s_at_n (d : Nat) {p k : Nat} {μ : mz_M} {l : List Int} (h : es_row μ p l) (hk : k < 2147483648) : es_I (d + 1) n_Row_at [mz_R 3 p, mz_I (nI k)] μ (fun r μ' => μ' = μ ∧ r.toInt = l.getD k 0) := by
  refine (s_at d h).mono (fun r μ' q => ⟨q.1, ?_⟩)
  rw [q.2, nI_toInt (by omega), if_pos (by omega)]
  rfl
/-- a row being filled: its size, what it holds -/
def es_raw (μ : mz_M) (p n : Nat) (f : Nat → Int) : Prop := n ≤ 40 ∧ μ.1 p 1 = nI n ∧ ∀ k, k < n → (μ.1 (p + 1) k).toInt = f k
theorem es_raw.row {μ : mz_M} {p n : Nat} {f : Nat → Int} (h : es_raw μ p n f) {l : List Int} (hl : l.length = n) (hf : ∀ k, k < n → f k = l.getD k 0) (hb : ∀ k, k < n → -100000000 ≤ f k ∧ f k ≤ 100000000) : es_row μ p l := by
  obtain ⟨h1, h2, h3⟩ := h
  subst hl
  exact ⟨⟨h1, fun k hk => by rw [← hf k hk]; exact hb k hk⟩, h2, fun k hk => (h3 k hk).trans (hf k hk)⟩
theorem es_row.raw {μ : mz_M} {p : Nat} {l : List Int} (h : es_row μ p l) : es_raw μ p l.length (fun k => l.getD k 0) := ⟨h.1.1, h.2.1, h.2.2⟩
theorem es_raw.cong {μ : mz_M} {p n : Nat} {f g : Nat → Int} (h : es_raw μ p n f) (hf : ∀ k, k < n → f k = g k) : es_raw μ p n g := ⟨h.1, h.2.1, fun k hk => (h.2.2 k hk).trans (hf k hk)⟩
theorem es_raw.kept {S : Nat → Prop} {μ μ' : mz_M} {p n : Nat} {f : Nat → Int} (h : es_raw μ p n f) (hf : es_fr S μ μ') (h1 : ¬ S p) (h2 : ¬ S (p + 1)) : es_raw μ' p n f := by
  obtain ⟨a, b, c⟩ := h
  exact ⟨a, by rw [(hf p h1).1]; exact b, fun k hk => by rw [(hf (p + 1) h2).1]; exact c k hk⟩
theorem es_l2i {v : Int64} (h1 : -2147483648 ≤ v.toInt) (h2 : v.toInt < 2147483648) : v.toInt32.toInt = v.toInt := by
  rw [Int64.toInt_toInt32, fb_bmod h1 h2]
theorem s_put (d : Nat) {p n : Nat} {x : Int32} {v : Int64} {μ : mz_M} {f : Nat → Int} (h : es_raw μ p n f) (hv : -2147483648 ≤ v.toInt ∧ v.toInt < 2147483648) : es_V (d + 1) n_Row_put [mz_R 3 p, mz_I x, mz_L v] μ (fun μ' => es_fr (es_2 p) μ μ' ∧ es_raw μ' p n (fun k => if (k : Int) = x.toInt then v.toInt else f k)) := by
  obtain ⟨h1, h2, h3⟩ := h
  refine es_V.mk (w_Row_put_0 p x v μ (es_br (fun q => es_rV ?_) (fun q => es_br (fun q2 => es_rV ?_) (fun q2 => ?_))))
  · have := es_hlt q
    rw [es_i0] at this
    exact ⟨es_fr.rf, h1, h2, fun k hk => by dsimp only; rw [if_neg (by omega)]; exact h3 k hk⟩
  · have q2 := es_hle q2
    rw [h2, nI_toInt (by omega)] at q2
    exact ⟨es_fr.rf, h1, h2, fun k hk => by dsimp only; rw [if_neg (by omega)]; exact h3 k hk⟩
  · have q := es_nlt q
    rw [es_i0] at q
    have q2 := es_nle q2
    rw [h2, nI_toInt (by omega)] at q2
    refine ⟨es_in q (by omega), es_rV ⟨es_fr.rf.wI (Or.inr rfl), h1, ?_, fun k hk => ?_⟩⟩
    · rw [mz_wI_at, if_neg (by omega)]; exact h2
    · rw [mz_wI_at]
      dsimp only
      by_cases e : (k : Int) = x.toInt
      · rw [if_pos e, if_pos ⟨rfl, show k = x.toInt.toNat by omega⟩]
        exact es_l2i hv.1 hv.2
      · rw [if_neg e, if_neg (fun z => e (by have := z.2; have h9 : k = x.toInt.toNat := this; omega))]
        exact h3 k hk
theorem s_put_n (d : Nat) {p n j : Nat} {v : Int64} {μ : mz_M} {f : Nat → Int} (h : es_raw μ p n f) (hj : j < 2147483648) (hv : -2147483648 ≤ v.toInt ∧ v.toInt < 2147483648) : es_V (d + 1) n_Row_put [mz_R 3 p, mz_I (nI j), mz_L v] μ (fun μ' => es_fr (es_2 p) μ μ' ∧ es_raw μ' p n (fun k => if k = j then v.toInt else f k)) := by
  refine (s_put d h hv).mono (fun μ' q => ⟨q.1, q.2.cong (fun k hk => ?_)⟩)
  rw [nI_toInt (by omega)]
  by_cases e : k = j
  · rw [if_pos e, if_pos (by omega)]
  · rw [if_neg e, if_neg (by omega)]
theorem s_begin (d : Nat) {p n : Nat} (hn : n ≤ 40) (μ : mz_M) : es_V (d + 2) n_Row_begin [mz_R 3 p, mz_I (nI n)] μ (fun μ' => es_fr (es_2 p) μ μ' ∧ es_raw μ' p n (fun _ => 0)) := by
  refine es_V.mk (w_Row_begin_0 p (nI n) μ ?_)
  refine ⟨_, _, es_pure (s_min_n d (a := n) (b := 40) (by omega) (by omega) μ), ?_⟩
  refine ⟨_, _, es_pure (s_max_n d (a := 0) (b := min n 40) (by omega) (by omega) μ), ?_⟩
  rw [show max 0 (min n 40) = n by omega]
  have key : ∀ (g i : Nat) (μ' : mz_M), n - i ≤ g → i ≤ n → es_fr (es_2 p) μ μ' → μ'.1 p 1 = nI n → (∀ k, k < i → (μ'.1 (p + 1) k).toInt = 0) → v_Row_begin (es_R (d + 1)) (es_qV (fun μ' => es_fr (es_2 p) μ μ' ∧ es_raw μ' p n (fun _ => 0))) (19, [(0, mz_R 3 p), (2, mz_I (nI i))], [], μ') := by
    intro g
    induction g with
    | zero =>
      intro i μ' hg hi hf hs hz
      refine w_Row_begin_19 p (nI i) μ' (es_t ?_ (es_rV ⟨hf, hn, hs, fun k hk => hz k (by omega)⟩))
      rw [hs]
      exact nI_le (by omega) (by omega)
    | succ g ih =>
      intro i μ' hg hi hf hs hz
      by_cases hin : i = n
      · refine w_Row_begin_19 p (nI i) μ' (es_t ?_ (es_rV ⟨hf, hn, hs, fun k hk => hz k (by omega)⟩))
        rw [hs]
        exact nI_le (by omega) (by omega)
      · refine w_Row_begin_19 p (nI i) μ' (es_f ?_ ⟨vp_in_nI (by omega) (by omega), ?_⟩)
        · rw [hs]
          exact nI_ge (by omega) (by omega)
        · rw [nI_1, es_clamp (by omega)]
          refine ih (i + 1) _ (by omega) (by omega) (hf.wI (Or.inr rfl)) (by rw [mz_wI_at, if_neg (by omega)]; exact hs) (fun k hk => ?_)
          rw [mz_wI_at]
          by_cases e : k = i
          · rw [if_pos ⟨rfl, e⟩]; rfl
          · rw [if_neg (fun z => e z.2)]; exact hz k (by omega)
  exact key n 0 _ (by omega) (by omega) (es_fr.rf.wI (Or.inl rfl)) (by rw [mz_wI_at, if_pos ⟨rfl, rfl⟩]) (fun k hk => by omega)
theorem s_take (d : Nat) {p q : Nat} {μ : mz_M} {l : List Int} (h : es_row μ q l) (hs : es_sep p q) : es_V (d + 1) n_Row_take [mz_R 3 p, mz_R 3 q] μ (fun μ' => es_fr (es_2 p) μ μ' ∧ es_row μ' p l) := by
  obtain ⟨h1, h2, h3⟩ := h
  have h40 := h1.1
  unfold es_sep at hs
  refine es_V.mk (w_Row_take_0 p q μ ⟨by decide +kernel, es_rV ⟨(es_fr.rf.wI (Or.inl rfl)).cI (Or.inr rfl), h1, ?_, fun k hk => ?_⟩⟩)
  · rw [mz_cI_at, if_neg (by omega), mz_wI_at, if_pos ⟨rfl, rfl⟩]
    exact h2
  · have hlt : k < Int32.toNatClampNeg 0 + (nI 40).toNatClampNeg := by
      rw [es_clamp (by omega)]
      show k < 0 + 40
      omega
    rw [mz_cI_at, if_pos ⟨rfl, Nat.zero_le _, hlt⟩, mz_wI_at, if_neg (by omega)]
    show (μ.1 (q + 1) (0 + (k - 0))).toInt = _
    rw [Nat.zero_add, Nat.sub_zero]
    exact h3 k hk
