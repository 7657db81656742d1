/-! The class's tape. -/
def tx_tp (μ : mz_M) (T : List Nat) (p o : Nat) (U : List (Nat × Nat)) : Prop := es_tp μ T ∧ μ.1 146 2 = nI p ∧ μ.1 146 3 = nI o ∧ μ.1 146 6 = nI U.length ∧ ∀ k, k < U.length → μ.1 148 k = nI (U.getD k (0, 0)).1 ∧ μ.1 149 k = nI (U.getD k (0, 0)).2
def tx_S : Nat → Prop := fun z => z = 146 ∨ z = 148 ∨ z = 149
theorem tx_tp.pl {μ : mz_M} {T : List Nat} {p o : Nat} {U : List (Nat × Nat)} (h : tx_tp μ T p o U) (q : Nat) : tx_tp (mz_wI μ 146 2 (nI q)) T q o U := by
  obtain ⟨⟨a1, a2, a3⟩, b, c, e, f⟩ := h
  refine ⟨⟨a1, ?_, fun k hk => ?_⟩, ?_, ?_, ?_, fun k hk => ?_⟩
  · rw [mz_wI_at, if_neg (by omega)]; exact a2
  · rw [mz_wI_at, if_neg (by omega)]; exact a3 k hk
  · rw [mz_wI_at, if_pos ⟨rfl, rfl⟩]
  · rw [mz_wI_at, if_neg (by omega)]; exact c
  · rw [mz_wI_at, if_neg (by omega)]; exact e
  · rw [mz_wI_at, if_neg (by omega), mz_wI_at, if_neg (by omega)]; exact f k hk
theorem tx_tp.op {μ : mz_M} {T : List Nat} {p o : Nat} {U : List (Nat × Nat)} (h : tx_tp μ T p o U) (q : Nat) : tx_tp (mz_wI μ 146 3 (nI q)) T p q U := by
  obtain ⟨⟨a1, a2, a3⟩, b, c, e, f⟩ := h
  refine ⟨⟨a1, ?_, fun k hk => ?_⟩, ?_, ?_, ?_, fun k hk => ?_⟩
  · rw [mz_wI_at, if_neg (by omega)]; exact a2
  · rw [mz_wI_at, if_neg (by omega)]; exact a3 k hk
  · rw [mz_wI_at, if_neg (by omega)]; exact b
  · rw [mz_wI_at, if_pos ⟨rfl, rfl⟩]
  · rw [mz_wI_at, if_neg (by omega)]; exact e
  · rw [mz_wI_at, if_neg (by omega), mz_wI_at, if_neg (by omega)]; exact f k hk
theorem tx_fw {μ : mz_M} {k : Nat} {x : Int32} : es_fr tx_S μ (mz_wI μ 146 k x) := es_fr.rf.wI (Or.inl rfl)
theorem t_here (d : Nat) {μ : mz_M} {T : List Nat} {p o : Nat} {U : List (Nat × Nat)} (h : tx_tp μ T p o U) (hp : p ≤ 200) : es_I (d + 1) n_Tape_here [mz_R 7 146] μ (fun r μ' => μ' = μ ∧ r = nI (T.getD p 0)) := by
  obtain ⟨⟨a1, a2, a3⟩, b, c, e, f⟩ := h
  refine es_I.mk (w_Tape_here_0 146 μ (es_f (by rw [b]; exact nI_pos (by omega)) (es_br (fun q => es_rI ⟨rfl, ?_⟩) (fun q => ?_))))
  · rw [b, a2] at q
    have q := (nI_leI (by omega) (by omega)).mp q
    rw [tx_out q]; rfl
  · rw [b, a2] at q
    have q : ¬ T.length ≤ p := fun z => q (nI_le z (by omega))
    refine es_f (by rw [b]; exact nI_ge (by omega) (by omega)) ⟨by rw [b]; exact vp_in_nI (by omega) (by omega), es_rI ⟨rfl, ?_⟩⟩
    rw [b, es_clamp (by omega)]
    exact (a3 p (by omega)).1
theorem t_skip (d : Nat) {μ : mz_M} {T : List Nat} {p o : Nat} {U : List (Nat × Nat)} (h : tx_tp μ T p o U) (hp : p ≤ 100) : es_V (d + 2) n_Tape_skipBlanks [mz_R 7 146] μ (fun μ' => es_fr tx_S μ μ' ∧ tx_tp μ' T (tx_sk T p) o U) := by
  refine es_V.mk (w_Tape_skipBlanks_0 146 μ ?_)
  unfold tx_sk
  have key : ∀ (g k q : Nat) (μ' : mz_M), k + g = 60 → q ≤ 100 + k → es_fr tx_S μ μ' → tx_tp μ' T q o U → tx_sf T 60 p = tx_sf T g q → v_Tape_skipBlanks (es_R (d + 1)) (es_qV (fun μ' => es_fr tx_S μ μ' ∧ tx_tp μ' T (tx_sf T 60 p) o U)) (2, [(0, mz_R 7 146), (1, mz_I (nI k))], [], μ') := by
    intro g
    induction g with
    | zero =>
      intro k q μ' hk hq hf ht he
      refine w_Tape_skipBlanks_2 146 _ μ' (es_t (nI_le (a := 60) (by omega) (by omega)) (es_rV ⟨hf, ?_⟩))
      rw [he]
      exact ht
    | succ g ih =>
      intro k q μ' hk hq hf ht he
      refine w_Tape_skipBlanks_2 146 _ μ' (es_f (nI_ge (b := 60) (by omega) (by omega)) ?_)
      refine ⟨_, _, es_pure (t_here d ht (by omega)), ?_⟩
      have hlt : T.getD q 0 < 2147483648 := by
        by_cases e : q < T.length
        · have := ht.1.2.2 q e; omega
        · rw [tx_out (by omega)]; omega
      refine es_br (fun c => ?_) (fun c => es_rV ⟨hf, ?_⟩)
      · have c := (nI_eq hlt (b := 32) (by omega)).mp c
        rw [ht.2.1, nI_1, nI_1]
        refine ih (k + 1) (q + 1) _ (by omega) (by omega) (hf.tr tx_fw) (ht.pl (q + 1)) ?_
        rw [he]
        show (if T.getD q 0 = 32 then tx_sf T g (q + 1) else q) = _
        rw [if_pos c]
      · have c : ¬ T.getD q 0 = 32 := fun z => c (by rw [z]; rfl)
        rw [he]
        show tx_tp μ' T (if T.getD q 0 = 32 then tx_sf T g (q + 1) else q) o U
        rw [if_neg c]
        exact ht
  exact key 60 0 p μ (by omega) (by omega) es_fr.rf h rfl
theorem tx_small {μ : mz_M} {T : List Nat} (h : es_tp μ T) (q : Nat) : T.getD q 0 ≤ 126 := by
  by_cases e : q < T.length
  · have := h.2.2 q e; omega
  · rw [tx_out (by omega)]; omega
theorem t_digit (d : Nat) {μ : mz_M} {T : List Nat} {p o : Nat} {U : List (Nat × Nat)} (h : tx_tp μ T p o U) (hp : p ≤ 200) : es_I (d + 2) n_Tape_digitIsHere [mz_R 7 146] μ (fun r μ' => μ' = μ ∧ r = es_b (tx_dg (T.getD p 0))) := by
  have hs := tx_small h.1 p
  refine es_I.mk (w_Tape_digitIsHere_0 146 μ ⟨_, _, es_pure (t_here d h hp), es_br (fun q => ⟨Or.inl rfl, es_rI ⟨rfl, ?_⟩⟩) (fun q => ⟨_, _, es_pure (t_here d h hp), es_br (fun q2 => ⟨Or.inl rfl, es_rI ⟨rfl, ?_⟩⟩) (fun q2 => ⟨Or.inr rfl, es_rI ⟨rfl, ?_⟩⟩)⟩)⟩)
  · have q := (nI_ltI (b := 48) (by omega) (by omega)).mp q
    unfold tx_dg
    rw [decide_eq_false (by omega)]; rfl
  · have q2 := (nI_ltI (a := 57) (by omega) (by omega)).mp q2
    unfold tx_dg
    rw [decide_eq_false (by omega)]; rfl
  · have q : ¬ T.getD p 0 < 48 := fun z => q (nI_lt (b := 48) z (by omega))
    have q2 : ¬ 57 < T.getD p 0 := fun z => q2 (nI_lt z (by omega))
    unfold tx_dg
    rw [decide_eq_true (by omega)]; rfl
theorem t_number (d : Nat) {μ : mz_M} {T : List Nat} {p o : Nat} {U : List (Nat × Nat)} (h : tx_tp μ T p o U) (hp : p ≤ 100) (hd : tx_dg (T.getD p 0) = true) : es_I (d + 3) n_Tape_readNumber [mz_R 7 146] μ (fun r μ' => es_fr tx_S μ μ' ∧ r = nI (tx_nv T p) ∧ tx_tp μ' T (tx_np T p) o U) := by
  have g1 := tx_dg_i hd
  refine es_I.mk (w_Tape_readNumber_0 146 μ (w_Tape_readNumber_4 146 0 0 μ (es_f (by decide +kernel) ?_)))
  refine ⟨_, _, es_pure (t_digit d h (by omega)), es_f (by rw [hd]; decide +kernel) ⟨_, _, es_pure (t_here (d + 1) h (by omega)), ?_⟩⟩
  rw [h.2.1, nI_1]
  have e1 : ((10 * 0 : Int32) + nI (T.getD p 0)) - 48 = nI (T.getD p 0 - 48) := by
    rw [show (10 * 0 : Int32) = nI 0 by decide +kernel, nI_add, Nat.zero_add, show (48 : Int32) = nI 48 from rfl, pk_sub g1.1]
  rw [e1, show (0 + 1 : Int32) = nI 1 by decide +kernel]
  have h2 := h.pl (p + 1)
  refine w_Tape_readNumber_4 146 _ _ _ (es_f (by decide +kernel) ?_)
  refine ⟨_, _, es_pure (t_digit d h2 (by omega)), ?_⟩
  unfold tx_nv tx_np
  by_cases e : tx_dg (T.getD (p + 1) 0) = true
  · have g2 := tx_dg_i e
    refine es_f (by rw [e]; decide +kernel) ⟨_, _, es_pure (t_here (d + 1) h2 (by omega)), ?_⟩
    rw [h2.2.1, nI_1]
    have e2 : ((10 * nI (T.getD p 0 - 48)) + nI (T.getD (p + 1) 0)) - 48 = nI (10 * (T.getD p 0 - 48) + (T.getD (p + 1) 0 - 48)) := by
      rw [show (10 : Int32) = nI 10 from rfl, pk_mul, nI_add, show (48 : Int32) = nI 48 from rfl, pk_sub (by omega)]
      congr 1
      omega
    rw [e2, nI_1]
    refine w_Tape_readNumber_4 146 _ _ _ (es_t (by decide +kernel) (es_rI ⟨tx_fw.tr tx_fw, ?_, ?_⟩))
    · rw [if_pos e]
    · rw [if_pos e]
      exact h2.pl (p + 1 + 1)
  · refine es_t (by rw [Bool.of_not_eq_true e]; rfl) (es_rI ⟨tx_fw, ?_, ?_⟩)
    · rw [if_neg e]
    · rw [if_neg e]
      exact h2
theorem tx_apD {U : List (Nat × Nat)} {t : Nat × Nat} {k : Nat} (h : k < U.length + 1) : (U ++ [t]).getD k (0, 0) = if k = U.length then t else U.getD k (0, 0) := by
  by_cases e : k = U.length
  · subst e
    rw [if_pos rfl, List.getD_eq_getElem?_getD, List.getElem?_append_right (by omega), Nat.sub_self]; rfl
  · rw [if_neg e, List.getD_eq_getElem?_getD, List.getElem?_append_left (by omega), ← List.getD_eq_getElem?_getD]
theorem t_note (d : Nat) {μ : mz_M} {T : List Nat} {p o a b : Nat} {U : List (Nat × Nat)} (h : tx_tp μ T p o U) (hU : U.length < 60) : es_V (d + 1) n_Tape_note [mz_R 7 146, mz_I (nI a), mz_I (nI b)] μ (fun μ' => es_fr tx_S μ μ' ∧ tx_tp μ' T p o (U ++ [(a, b)])) := by
  obtain ⟨⟨a1, a2, a3⟩, b0, c, e, f⟩ := h
  have q1 : (mz_wI μ 148 (U.length) (nI a)).1 146 6 = nI U.length := by rw [mz_wI_at, if_neg (by omega)]; exact e
  have q2 : (mz_wI (mz_wI μ 148 U.length (nI a)) 149 U.length (nI b)).1 146 6 = nI U.length := by rw [mz_wI_at, if_neg (by omega)]; exact q1
  refine es_V.mk (w_Tape_note_0 146 _ _ μ (es_f (by rw [e]; exact nI_pos (by omega)) (es_f (by rw [e]; exact nI_ge (by omega) (by omega)) ?_)))
  rw [e, es_clamp (by omega), q1, es_clamp (by omega), q2]
  refine ⟨vp_in_nI (by omega) (by omega), vp_in_nI (by omega) (by omega), es_rV ⟨((es_fr.rf.wI (Or.inr (Or.inl rfl))).wI (Or.inr (Or.inr rfl))).wI (Or.inl rfl), ⟨a1, ?_, fun k hk => ?_⟩, ?_, ?_, ?_, fun k hk => ?_⟩⟩
  · rw [mz_wI_at, if_neg (by omega), mz_wI_at, if_neg (by omega), mz_wI_at, if_neg (by omega)]; exact a2
  · rw [mz_wI_at, if_neg (by omega), mz_wI_at, if_neg (by omega), mz_wI_at, if_neg (by omega)]; exact a3 k hk
  · rw [mz_wI_at, if_neg (by omega), mz_wI_at, if_neg (by omega), mz_wI_at, if_neg (by omega)]; exact b0
  · rw [mz_wI_at, if_neg (by omega), mz_wI_at, if_neg (by omega), mz_wI_at, if_neg (by omega)]; exact c
  · rw [mz_wI_at, if_pos ⟨rfl, rfl⟩, nI_1, List.length_append]; rfl
  · rw [List.length_append] at hk
    have hk : k < U.length + 1 := hk
    have g1 : (mz_wI (mz_wI (mz_wI μ 148 U.length (nI a)) 149 U.length (nI b)) 146 6 (nI U.length + 1)).1 148 k = if k = U.length then nI a else μ.1 148 k := by
      rw [mz_wI_at, if_neg (by omega), mz_wI_at, if_neg (by omega), mz_wI_at]
      by_cases e2 : k = U.length
      · rw [if_pos e2, if_pos ⟨rfl, e2⟩]
      · rw [if_neg e2, if_neg (fun z => e2 z.2)]
    have g2 : (mz_wI (mz_wI (mz_wI μ 148 U.length (nI a)) 149 U.length (nI b)) 146 6 (nI U.length + 1)).1 149 k = if k = U.length then nI b else μ.1 149 k := by
      rw [mz_wI_at, if_neg (by omega), mz_wI_at]
      by_cases e2 : k = U.length
      · rw [if_pos e2, if_pos ⟨rfl, e2⟩]
      · rw [if_neg e2, if_neg (fun z => e2 z.2), mz_wI_at, if_neg (by omega)]
    refine ⟨g1.trans ?_, g2.trans ?_⟩
    · rw [tx_apD hk]
      by_cases e2 : k = U.length
      · rw [if_pos e2, if_pos e2]
      · rw [if_neg e2, if_neg e2]
        exact (f k (by omega)).1
    · rw [tx_apD hk]
      by_cases e2 : k = U.length
      · rw [if_pos e2, if_pos e2]
      · rw [if_neg e2, if_neg e2]
        exact (f k (by omega)).2
theorem t_pass (d : Nat) {μ : mz_M} {T : List Nat} {p o a : Nat} {x : Int32} {U : List (Nat × Nat)} (h : tx_tp μ T p o U) (hU : U.length < 60) : es_I (d + 2) n_Tape_pass [mz_R 7 146, mz_I (nI a), mz_I x] μ (fun r μ' => es_fr tx_S μ μ' ∧ r = x ∧ tx_tp μ' T (p + 1) o (U ++ [(a, 0)])) := by
  refine es_I.mk (w_Tape_pass_0 146 _ _ μ ?_)
  rw [h.2.1, nI_1]
  obtain ⟨μ1, hC, hf, ht⟩ := t_note d (a := a) (b := 0) (h.pl (p + 1)) hU
  exact ⟨_, hC, es_rI ⟨tx_fw.tr hf, rfl, ht⟩⟩
theorem t_kindOf (d : Nat) {c : Nat} (hc : c < 1000) (μ : mz_M) : es_I (d + 1) n_Tape_kindOf [mz_I (nI c)] μ (fun r μ' => μ' = μ ∧ r = nI (tx_kd c)) := by
  have q : ∀ b : Nat, b < 1000 → (nI c = nI b ↔ c = b) := fun b hb => nI_eq (by omega) (by omega)
  unfold tx_kd
  refine es_I.mk (w_Tape_kindOf_0 _ μ (es_br (fun h => es_rI ⟨rfl, ?_⟩) (fun h => es_br (fun h2 => es_rI ⟨rfl, ?_⟩) (fun h2 => es_br (fun h3 => es_rI ⟨rfl, ?_⟩) (fun h3 => es_rI ⟨rfl, ?_⟩)))))
  · rw [if_pos ((q _ (by omega)).mp h)]; rfl
  · rw [if_neg (fun z => h ((q _ (by omega)).mpr z)), if_pos ((q _ (by omega)).mp h2)]; rfl
  · rw [if_neg (fun z => h ((q _ (by omega)).mpr z)), if_neg (fun z => h2 ((q _ (by omega)).mpr z)), if_pos ((q _ (by omega)).mp h3)]; rfl
  · rw [if_neg (fun z => h ((q _ (by omega)).mpr z)), if_neg (fun z => h2 ((q _ (by omega)).mpr z)), if_neg (fun z => h3 ((q _ (by omega)).mpr z))]; rfl
theorem tx_kd_i (c : Nat) : 1 ≤ tx_kd c ∧ tx_kd c ≤ 4 := by
  unfold tx_kd
  split
  · omega
  · split
    · omega
    · split <;> omega
theorem tx_kn {k v : Nat} (hk : 1 ≤ k) (hk4 : k ≤ 4) (hv : v ≤ 99) : es_kn (nI k) (nI v) = tx_kok k v := by
  unfold es_kn tx_kok
  rw [nI_toInt (by omega), nI_toInt (by omega)]
  by_cases e : (k ≤ 3 ∧ 1 ≤ v ∧ v ≤ 9) ∨ (k = 4 ∧ v ≤ 39)
  · rw [decide_eq_true e, decide_eq_true (by omega)]
  · rw [decide_eq_false e, decide_eq_false (by omega)]
/-- what a step of reading gives -/
def tx_res (T : List Nat) (U : List (Nat × Nat)) (N : tx_N) (μ : mz_M) (r : Int32) (μ' : mz_M) : Prop := es_fr tx_S μ μ' ∧ match N with
  | .inl q => r = 0 ∧ ∃ o' U', tx_tp μ' T q o' U'
  | .inr w => r = nI w.1.1 ∧ tx_tp μ' T w.1.2.2 w.1.2.1 (U ++ [w.2])
theorem t_open (d : Nat) {μ : mz_M} {T : List Nat} {p o : Nat} {U : List (Nat × Nat)} (h : tx_tp μ T p o U) (hU : U.length < 60) (ho : o ≤ 6) : es_I (d + 3) n_Tape_readOpen [mz_R 7 146] μ (tx_res T U (if o < 6 then .inr ((1, o + 1, p + 1), (40, 0)) else .inl p) μ) := by
  refine es_I.mk (w_Tape_readOpen_0 146 μ ?_)
  rw [h.2.2.1]
  refine es_br (fun q => ?_) (fun q => es_rI ?_)
  · have q := (nI_ltI (b := 6) (by omega) (by omega)).mp q
    rw [nI_1, if_pos q]
    obtain ⟨r, μ1, hC, hf, rfl, ht⟩ := t_pass d (a := 40) (x := 1) (h.op (o + 1)) hU
    exact ⟨_, _, hC, es_rI ⟨tx_fw.tr hf, rfl, ht⟩⟩
  · have q : ¬ o < 6 := fun z => q (nI_lt (b := 6) z (by omega))
    rw [if_neg q]
    exact ⟨es_fr.rf, rfl, o, U, h⟩
theorem t_family (d : Nat) {μ : mz_M} {T : List Nat} {p o : Nat} {U : List (Nat × Nat)} (h : tx_tp μ T p o U) (hU : U.length < 60) (hp : p < T.length) : es_I (d + 4) n_Tape_readFamily [mz_R 7 146, mz_I (nI (T.getD p 0))] μ (tx_res T U (tx_fm1 T o p (tx_sk T (p + 1))) μ) := by
  have h60 := h.1.1
  have hc := tx_small h.1 p
  have hsm := tx_small h.1
  refine es_I.mk (w_Tape_readFamily_0 146 _ μ ?_)
  rw [h.2.1, nI_1]
  obtain ⟨μ1, hC1, hf1, ht1⟩ := t_skip (d + 1) (h.pl (p + 1)) (by omega)
  have hf1 := tx_fw.tr hf1
  have hp1 := tx_sk_len (T := T) (p := p + 1) (by omega)
  generalize tx_sk T (p + 1) = p1 at ht1 hp1
  refine ⟨_, hC1, _, _, es_pure (t_here (d + 2) ht1 (by omega)), ?_⟩
  unfold tx_fm1
  refine es_br (fun q => ?_) (fun q => es_rI ?_)
  · have q := (nI_eq (by have := hsm p1; omega) (b := 40) (by omega)).mp q
    have hp1' := tx_lt q (by decide)
    rw [if_pos q, ht1.2.1, nI_1]
    obtain ⟨μ2, hC2, hf2, ht2⟩ := t_skip (d + 1) (ht1.pl (p1 + 1)) (by omega)
    have hf2 := hf1.tr (tx_fw.tr hf2)
    have hp2 := tx_sk_len (T := T) (p := p1 + 1) (by omega)
    generalize tx_sk T (p1 + 1) = p2 at ht2 hp2
    refine ⟨_, hC2, _, _, es_pure (t_digit (d + 1) ht2 (by omega)), ?_⟩
    unfold tx_fm2
    refine es_br (fun q2 => es_rI ?_) (fun q2 => ?_)
    · rw [es_b_0] at q2
      rw [if_neg (by rw [q2]; decide)]
      exact ⟨hf2, rfl, o, U, ht2⟩
    · rw [es_b_0] at q2
      have q2 := Bool.of_not_eq_false q2
      rw [if_pos q2]
      obtain ⟨r, μ3, hC3, hf3, rfl, ht3⟩ := t_number d ht2 (by omega) q2
      have hn := tx_np_i q2
      have hf3 := hf2.tr hf3
      refine ⟨_, _, hC3, _, _, es_pure (t_kindOf (d + 2) (by omega) μ3), _, _, es_pure (s_isKind (d + 2) _ _ μ3), ?_⟩
      have hk := tx_kd_i (T.getD p 0)
      rw [tx_kn hk.1 hk.2 hn.2.2]
      refine es_br (fun q3 => es_rI ?_) (fun q3 => ?_)
      · rw [es_b_0] at q3
        rw [if_neg (by rw [q3]; decide), ht2.2.1]
        exact ⟨hf3.tr tx_fw, rfl, o, U, ht3.pl p2⟩
      · rw [es_b_0] at q3
        rw [if_pos (Bool.of_not_eq_false q3)]
        obtain ⟨μ4, hC4, hf4, ht4⟩ := t_skip (d + 1) ht3 (by omega)
        have hf4 := hf3.tr hf4
        have hp4 := tx_sk_len (T := T) (p := tx_np T p2) (by omega)
        generalize tx_sk T (tx_np T p2) = p4 at ht4 hp4
        refine ⟨_, hC4, _, _, es_pure (t_here (d + 2) ht4 (by omega)), ?_⟩
        unfold tx_fm3
        refine es_br (fun q4 => ?_) (fun q4 => es_rI ?_)
        · have q4 := (nI_eq (by have := hsm p4; omega) (b := 41) (by omega)).mp q4
          rw [if_pos q4, ht4.2.1, nI_1]
          obtain ⟨μ5, hC5, hf5, ht5⟩ := t_note (d + 2) (a := T.getD p 0) (b := tx_nv T p2) (ht4.pl (p4 + 1)) hU
          exact ⟨_, hC5, es_rI ⟨hf4.tr (tx_fw.tr hf5), rfl, ht5⟩⟩
        · rw [if_neg (show ¬ T.getD p4 0 = 41 from fun z => q4 (by rw [z]; rfl))]
          exact ⟨hf4, rfl, o, U, ht4⟩
  · rw [if_neg (show ¬ T.getD p1 0 = 40 from fun z => q (by rw [z]; rfl))]
    exact ⟨hf1, rfl, o, U, ht1⟩
theorem t_atom (d : Nat) {μ : mz_M} {T : List Nat} {p o : Nat} {U : List (Nat × Nat)} (h : tx_tp μ T p o U) (hU : U.length ≤ p) (hp : p ≤ T.length) (ho : o ≤ 6) : es_I (d + 5) n_Tape_readAtom [mz_R 7 146] μ (tx_res T U (tx_due T o p) μ) := by
  have h60 := h.1.1
  have hsm := tx_small h.1 p
  have qe : ∀ b : Nat, b < 1000 → (nI (T.getD p 0) = nI b ↔ T.getD p 0 = b) := fun b hb => nI_eq (by omega) (by omega)
  refine es_I.mk (w_Tape_readAtom_0 146 μ ⟨_, _, es_pure (t_here (d + 3) h (by omega)), ?_⟩)
  unfold tx_due
  refine es_br (fun q => ?_) (fun q => ?_)
  · have q := (qe 40 (by omega)).mp q
    have := tx_lt q (by decide)
    rw [if_pos q]
    obtain ⟨r, μ1, hC, hr⟩ := t_open (d + 1) h (by omega) ho
    exact ⟨_, _, hC, es_rI hr⟩
  have q : ¬ T.getD p 0 = 40 := fun z => q ((qe 40 (by omega)).mpr z)
  rw [if_neg q]
  have fam : tx_fam (T.getD p 0) = true → ∃ (r6 : Int32) (μ5 : mz_M), es_R (d + 4) n_Tape_readFamily [mz_R 7 146, mz_I (nI (T.getD p 0))] μ (some (mz_I r6)) μ5 ∧ es_qI (tx_res T U (if tx_fam (T.getD p 0) = true then tx_fm1 T o p (tx_sk T (p + 1)) else if tx_dg (T.getD p 0) = true then .inr ((2, o, tx_np T p), (48, tx_nv T p)) else .inl p) μ) (some (mz_I r6)) μ5 := by
    intro hf
    have := of_decide_eq_true hf
    have l1 := tx_lt rfl (show T.getD p 0 ≠ 0 by omega)
    rw [if_pos hf]
    obtain ⟨r, μ1, hC, hr⟩ := t_family d h (by omega) l1
    exact ⟨_, _, hC, es_rI hr⟩
  refine es_br (fun q1 => fam (decide_eq_true (by have := (qe 101 (by omega)).mp q1; omega))) (fun q1 => es_br (fun q2 => fam (decide_eq_true (by have := (qe 116 (by omega)).mp q2; omega))) (fun q2 => es_br (fun q3 => fam (decide_eq_true (by have := (qe 115 (by omega)).mp q3; omega))) (fun q3 => es_br (fun q4 => fam (decide_eq_true (by have := (qe 113 (by omega)).mp q4; omega))) (fun q4 => ?_))))
  have n1 : ¬ T.getD p 0 = 101 := fun z => q1 ((qe 101 (by omega)).mpr z)
  have n2 : ¬ T.getD p 0 = 116 := fun z => q2 ((qe 116 (by omega)).mpr z)
  have n3 : ¬ T.getD p 0 = 115 := fun z => q3 ((qe 115 (by omega)).mpr z)
  have n4 : ¬ T.getD p 0 = 113 := fun z => q4 ((qe 113 (by omega)).mpr z)
  rw [if_neg (show ¬ tx_fam (T.getD p 0) = true from fun z => by have := of_decide_eq_true z; omega)]
  refine ⟨_, _, es_pure (t_digit (d + 2) h (by omega)), es_br (fun q5 => es_rI ?_) (fun q5 => ?_)⟩
  · rw [es_b_0] at q5
    rw [if_neg (by rw [q5]; decide)]
    exact ⟨es_fr.rf, rfl, o, U, h⟩
  · rw [es_b_0] at q5
    have q5 := Bool.of_not_eq_false q5
    have := tx_dg_i q5
    have l1 := tx_lt rfl (show T.getD p 0 ≠ 0 by omega)
    rw [if_pos q5]
    obtain ⟨r, μ1, hC1, hf1, rfl, ht1⟩ := t_number (d + 1) h (by omega) q5
    obtain ⟨μ2, hC2, hf2, ht2⟩ := t_note (d + 3) (a := 48) (b := tx_nv T p) ht1 (by omega)
    exact ⟨_, _, hC1, _, hC2, es_rI ⟨hf1.tr hf2, rfl, ht2⟩⟩
theorem t_figure (d : Nat) {μ : mz_M} {T : List Nat} {p o : Nat} {U : List (Nat × Nat)} (h : tx_tp μ T p o U) (hU : U.length < 60) (hp : p < T.length) : es_I (d + 3) n_Tape_readFigure [mz_R 7 146] μ (tx_res T U (tx_fig T o (tx_sk T (p + 1))) μ) := by
  have h60 := h.1.1
  have hsm := tx_small h.1
  refine es_I.mk (w_Tape_readFigure_0 146 μ ?_)
  rw [h.2.1, nI_1]
  obtain ⟨μ1, hC1, hf1, ht1⟩ := t_skip d (h.pl (p + 1)) (by omega)
  have hf1 := tx_fw.tr hf1
  have hp1 := tx_sk_len (T := T) (p := p + 1) (by omega)
  generalize tx_sk T (p + 1) = p1 at ht1 hp1
  have hs1 := hsm p1
  refine ⟨_, hC1, _, _, es_pure (t_here (d + 1) ht1 (by omega)), ?_⟩
  unfold tx_fig
  refine es_br (fun q => es_rI ?_) (fun q => es_br (fun q2 => ?_) (fun q2 => es_rI ?_))
  · have q := (nI_ltI (b := 48) (by omega) (by omega)).mp q
    rw [if_neg (by omega)]
    exact ⟨hf1, rfl, o, U, ht1⟩
  · have q : ¬ T.getD p1 0 < 48 := fun z => q (nI_lt (b := 48) z (by omega))
    have q2 := (nI_leI (b := 56) (by omega) (by omega)).mp q2
    rw [if_pos (by omega), ht1.2.1, nI_1, show (48 : Int32) = nI 48 from rfl, pk_sub (by omega)]
    obtain ⟨μ2, hC2, hf2, ht2⟩ := t_note (d + 1) (a := 94) (b := T.getD p1 0 - 48) (ht1.pl (p1 + 1)) hU
    exact ⟨_, hC2, es_rI ⟨hf1.tr (tx_fw.tr hf2), rfl, ht2⟩⟩
  · have q2 : ¬ T.getD p1 0 ≤ 56 := fun z => q2 (nI_le (b := 56) z (by omega))
    rw [if_neg (by omega)]
    exact ⟨hf1, rfl, o, U, ht1⟩
theorem t_behind (d : Nat) {μ : mz_M} {T : List Nat} {p o st : Nat} {U : List (Nat × Nat)} (h : tx_tp μ T p o U) (hU : U.length ≤ p) (hp : p ≤ T.length) (ho : o ≤ 6) (hst : st = 2 ∨ st = 3) : es_I (d + 4) n_Tape_readBehindAtom [mz_R 7 146, mz_I (nI st)] μ (tx_res T U (tx_beh T st o p) μ) := by
  have h60 := h.1.1
  have hsm := tx_small h.1 p
  have qe : ∀ b : Nat, b < 1000 → (nI (T.getD p 0) = nI b ↔ T.getD p 0 = b) := fun b hb => nI_eq (by omega) (by omega)
  have pass : tx_opl (T.getD p 0) = true → ∃ (r6 : Int32) (μ5 : mz_M), es_R (d + 3) n_Tape_pass [mz_R 7 146, mz_I (nI (T.getD p 0)), mz_I 1] μ (some (mz_I r6)) μ5 ∧ es_qI (tx_res T U (tx_beh T st o p) μ) (some (mz_I r6)) μ5 := by
    intro hf
    have := of_decide_eq_true hf
    have l1 := tx_lt rfl (show T.getD p 0 ≠ 0 by omega)
    unfold tx_beh
    rw [if_neg (by omega), if_pos hf]
    obtain ⟨r, μ1, hC, hf1, rfl, ht⟩ := t_pass (d + 1) (a := T.getD p 0) (x := 1) h (by omega)
    exact ⟨_, _, hC, es_rI ⟨hf1, rfl, ht⟩⟩
  have tail : (¬ (T.getD p 0 = 94 ∧ st = 2)) → (if (nI (T.getD p 0) : Int32) = (43 : Int32) then
          (∃ (r16 : Int32) (μ15 : mz_M), es_R (d + 3) n_Tape_pass [mz_R 7 146, mz_I (nI (T.getD p 0)), mz_I 1] μ (some (mz_I r16)) μ15 ∧
            (es_qI (tx_res T U (tx_beh T st o p) μ) (some (mz_I r16)) μ15))
        else
          (if (nI (T.getD p 0) : Int32) = (45 : Int32) then
            (∃ (r18 : Int32) (μ17 : mz_M), es_R (d + 3) n_Tape_pass [mz_R 7 146, mz_I (nI (T.getD p 0)), mz_I 1] μ (some (mz_I r18)) μ17 ∧
              (es_qI (tx_res T U (tx_beh T st o p) μ) (some (mz_I r18)) μ17))
          else
            (if (nI (T.getD p 0) : Int32) = (42 : Int32) then
              (∃ (r20 : Int32) (μ19 : mz_M), es_R (d + 3) n_Tape_pass [mz_R 7 146, mz_I (nI (T.getD p 0)), mz_I 1] μ (some (mz_I r20)) μ19 ∧
                (es_qI (tx_res T U (tx_beh T st o p) μ) (some (mz_I r20)) μ19))
            else
              (if (nI (T.getD p 0) : Int32) = (47 : Int32) then
                (∃ (r22 : Int32) (μ21 : mz_M), es_R (d + 3) n_Tape_pass [mz_R 7 146, mz_I (nI (T.getD p 0)), mz_I 1] μ (some (mz_I r22)) μ21 ∧
                  (es_qI (tx_res T U (tx_beh T st o p) μ) (some (mz_I r22)) μ21))
              else
                (if (nI (T.getD p 0) : Int32) = (41 : Int32) then
                  (if (μ.1 146 3 : Int32) ≤ (0 : Int32) then
                    (es_qI (tx_res T U (tx_beh T st o p) μ) (some (mz_I 0)) μ)
                  else
                    (∃ (r24 : Int32) (μ23 : mz_M), es_R (d + 3) n_Tape_pass [mz_R 7 146, mz_I (nI (T.getD p 0)), mz_I 2] (mz_wI μ 146 3 ((μ.1 146 3) - 1)) (some (mz_I r24)) μ23 ∧
                      (es_qI (tx_res T U (tx_beh T st o p) μ) (some (mz_I r24)) μ23)))
                else
                  (es_qI (tx_res T U (tx_beh T st o p) μ) (some (mz_I 0)) μ)))))) := by
    intro n94
    refine es_br (fun q => pass (decide_eq_true (by have := (qe 43 (by omega)).mp q; omega))) (fun q1 => es_br (fun q => pass (decide_eq_true (by have := (qe 45 (by omega)).mp q; omega))) (fun q2 => es_br (fun q => pass (decide_eq_true (by have := (qe 42 (by omega)).mp q; omega))) (fun q3 => es_br (fun q => pass (decide_eq_true (by have := (qe 47 (by omega)).mp q; omega))) (fun q4 => ?_))))
    have n1 : ¬ T.getD p 0 = 43 := fun z => q1 ((qe 43 (by omega)).mpr z)
    have n2 : ¬ T.getD p 0 = 45 := fun z => q2 ((qe 45 (by omega)).mpr z)
    have n3 : ¬ T.getD p 0 = 42 := fun z => q3 ((qe 42 (by omega)).mpr z)
    have n4 : ¬ T.getD p 0 = 47 := fun z => q4 ((qe 47 (by omega)).mpr z)
    unfold tx_beh
    rw [if_neg n94, if_neg (show ¬ tx_opl (T.getD p 0) = true from fun z => by have := of_decide_eq_true z; omega)]
    refine es_br (fun q5 => ?_) (fun q5 => es_rI ?_)
    · have q5 := (qe 41 (by omega)).mp q5
      have l1 := tx_lt q5 (by decide)
      rw [h.2.2.1]
      refine es_br (fun q6 => es_rI ?_) (fun q6 => ?_)
      · have q6 := (nI_leI (b := 0) (by omega) (by omega)).mp q6
        rw [if_neg (by omega)]
        exact ⟨es_fr.rf, rfl, o, U, h⟩
      · have q6 : ¬ o ≤ 0 := fun z => q6 (nI_le (b := 0) z (by omega))
        rw [if_pos (by omega), q5, show (1 : Int32) = nI 1 from rfl, pk_sub (by omega)]
        obtain ⟨r, μ1, hC, hf1, rfl, ht⟩ := t_pass (d + 1) (a := 41) (x := 2) (h.op (o - 1)) (by omega)
        exact ⟨_, _, hC, es_rI ⟨tx_fw.tr hf1, rfl, ht⟩⟩
    · have n5 : ¬ T.getD p 0 = 41 := fun z => q5 ((qe 41 (by omega)).mpr z)
      rw [if_neg (by omega)]
      exact ⟨es_fr.rf, rfl, o, U, h⟩
  refine es_I.mk (w_Tape_readBehindAtom_0 146 _ μ ⟨_, _, es_pure (t_here (d + 2) h (by omega)), es_br (fun q => es_br (fun q2 => ?_) (fun q2 => tail ?_)) (fun q => tail ?_)⟩)
  · have q := (qe 94 (by omega)).mp q
    have q2 := (nI_eq (b := 2) (by omega) (by omega)).mp q2
    have l1 := tx_lt q (by decide)
    obtain ⟨r, μ1, hC, hr⟩ := t_figure d h (by omega) l1
    refine ⟨_, _, hC, es_rI ?_⟩
    unfold tx_beh
    rw [if_pos ⟨q, q2⟩]
    exact hr
  · exact fun z => q2 (by rw [z.2]; rfl)
  · exact fun z => q ((qe 94 (by omega)).mpr z.1)
/-- what a tape's reading gives -/
def tx_prs (T : List Nat) : Nat ⊕ List (Nat × Nat) := tx_run T (T.length + 1) 1 0 0
def tx_got (T : List Nat) (R : Nat ⊕ List (Nat × Nat)) (μ : mz_M) (r : Int32) (μ' : mz_M) : Prop := es_fr tx_S μ μ' ∧ match R with
  | .inl q => r = -1000020 - nI q ∧ q ≤ 60
  | .inr ts => r = 0 ∧ ∃ p o, tx_tp μ' T p o ts
def tx_app (U : List (Nat × Nat)) (r : Nat ⊕ List (Nat × Nat)) : Nat ⊕ List (Nat × Nat) := match r with
  | .inl q => .inl q
  | .inr ts => .inr (U ++ ts)
theorem tx_app_cons {U : List (Nat × Nat)} {t : Nat × Nat} {r : Nat ⊕ List (Nat × Nat)} : tx_app U (tx_cons t r) = tx_app (U ++ [t]) r := by
  cases r with
  | inl q => rfl
  | inr ts =>
    show Sum.inr (U ++ t :: ts) = Sum.inr (U ++ [t] ++ ts)
    rw [List.append_assoc]; rfl
