/-! The reference's sheets. -/
def mo_xs (s : Nat) : Nat → Nat → Prop := fun q k => (q = 13 ∨ q = 14) ∧ k = s
def mo_ys : Nat → Prop := fun q => q = 15 ∨ q = 16
theorem es_M.leaf {μ μ' : mz_M} {A : es_A} {s : Nat} {o : es_L} (h : es_M μ A) (hf : mo_f (mo_xs s) mo_ys μ μ') (h3 : ∀ k, ¬ (40 * s ≤ k ∧ k < 40 * s + 40) → μ'.2 15 k = μ.2 15 k) (ho : mo_lf μ' s o) : es_M μ' (es_lu A s o) := by
  obtain ⟨a1, a2, a3, a4, a5, a6⟩ := h
  have e : ∀ q k, q ≠ 13 → q ≠ 14 → μ'.1 q k = μ.1 q k := fun q k h1 h2 => hf.1 q k (fun c => c.1.elim h1 h2)
  refine ⟨a1.cong (fun k _ => e 1 k (by decide) (by decide)), ?_, a3.kept hf (fun c => by unfold mo_xs at c; omega) (fun k c => by unfold mo_xs at c; omega) (fun k c => by unfold mo_xs at c; omega), a4.kept hf (fun c => by unfold mo_xs at c; omega) (fun k c => by unfold mo_xs at c; omega), ⟨(e 0 12 (by decide) (by decide)).trans a5.1, (e 0 13 (by decide) (by decide)).trans a5.2⟩, fun k hk => ?_⟩
  · show mo_ah (μ'.1 5) (μ'.1 0 8) A.2.1
    rw [e 0 8 (by decide) (by decide)]
    exact a2.cong (fun k _ => e 5 k (by decide) (by decide))
  · show mo_lf μ' k (if k = s then o else A.2.2.2.2.2 k)
    by_cases c : k = s
    · rw [if_pos c, c]; exact ho
    · rw [if_neg c]
      have b := a6 k hk
      have e13 : μ'.1 13 k = μ.1 13 k := hf.1 13 k (fun z => c z.2)
      have e14 : μ'.1 14 k = μ.1 14 k := hf.1 14 k (fun z => c z.2)
      cases hq : A.2.2.2.2.2 k with
      | none =>
        rw [hq] at b
        show (μ'.1 13 k).toInt < 0
        rw [e13]; exact b
      | some q =>
        rw [hq] at b
        obtain ⟨c1, c2, c3, c4, c5⟩ := b
        exact ⟨c1, by rw [e13]; exact c2, c3, by rw [e14]; exact c4, fun j hj => by rw [h3 _ (by omega)]; exact c5 j hj⟩
theorem es_M.lf {μ : mz_M} {A : es_A} (h : es_M μ A) {x : Int32} (h0 : 0 ≤ x.toInt) (h4 : x.toInt < 4) : ∃ s : Nat, s < 4 ∧ x = nI s ∧ x.toInt = s ∧ mo_lf μ s (es_ll A x) := ⟨x.toInt.toNat, by omega, es_nIof h0, by omega, h.2.2.2.2.2 _ (by omega)⟩
theorem es_v4 {s : Nat} (h : s < 4) : vp_in (nI s) 4 := vp_in_nI h (by omega)
theorem es_v160 {s : Nat} (h : s < 160) : vp_in (nI s) 160 := vp_in_nI h (by omega)
theorem mo_lf.neg {μ : mz_M} {s : Nat} (h : mo_lf μ s none) : ¬ (0 : Int32) ≤ μ.1 13 s := fun z => by
  have := es_hle z
  rw [es_i0] at this
  have h : (μ.1 13 s).toInt < 0 := h
  omega
theorem mo_lf.pos {μ : mz_M} {s : Nat} {q : Nat × List Int64} (h : mo_lf μ s (some q)) : (0 : Int32) ≤ μ.1 13 s := (fa_le _ _).mpr (by
  have h1 := h.1
  rw [h.2.1, es_i0, nI_toInt (by omega)]
  omega)
theorem r_why (d : Nat) {s : Nat} (hs : s < 4) {lane i n : Int32} (hn : 0 ≤ n.toInt) {μ : mz_M} {o : es_L} (h : mo_lf μ s o) : es_I (d + 1) n_Mo_why [mz_R 16 0, mz_I (nI s), mz_I lane, mz_I i, mz_I n] μ (fun r μ' => μ' = μ ∧ r = es_rf o lane i n) := by
  refine es_I.mk (w_Mo_why_0 0 _ lane i n μ ⟨es_v4 hs, ?_⟩)
  rw [es_clamp (by omega)]
  cases o with
  | none => exact es_f h.neg (es_rI ⟨rfl, rfl⟩)
  | some q =>
    obtain ⟨ln, its⟩ := q
    refine es_t h.pos ⟨es_v4 hs, ?_⟩
    obtain ⟨a1, a2, a3, a4, a5⟩ := h
    rw [a2, a4]
    unfold es_rf
    dsimp only at a1 a3 ⊢
    refine es_br (fun q => ?_) (fun q => es_rI ⟨rfl, ?_⟩)
    · rw [if_pos q]
      have r1 := fb_rng i
      refine es_br (fun q2 => es_rI ⟨rfl, ?_⟩) (fun q2 => ⟨es_v4 hs, ?_⟩)
      · have := es_hlt q2
        rw [es_i0] at this
        rw [if_neg (fun z => by have := of_decide_eq_true z; omega)]
      · have q2 := es_nlt q2
        rw [es_i0] at q2
        have e : (nI its.length - i).toInt = its.length - i.toInt := by
          rw [fb_subI] <;> rw [nI_toInt (by omega)] <;> omega
        refine es_br (fun q3 => es_rI ⟨rfl, ?_⟩) (fun q3 => es_rI ⟨rfl, ?_⟩)
        · have := es_hle q3
          rw [e] at this
          rw [if_pos (show es_hi its.length i n = true from decide_eq_true (by omega))]
        · have := es_nle q3
          rw [e] at this
          rw [if_neg (fun z => by have := of_decide_eq_true z; omega)]
    · rw [if_neg q]
theorem r_cut (d : Nat) (v : Int64) {ln : Nat} (hl : ln < 4) (μ : mz_M) : es_J (d + 1) n_Mo_cut [mz_L v, mz_I (nI ln)] μ (fun r μ' => μ' = μ ∧ r = es_ct v ln) := by
  have lq : ∀ c : Nat, c < 5 → (nI ln = nI c ↔ ln = c) := fun c hc => nI_eq (by omega) (by omega)
  unfold es_ct
  refine es_J.mk (w_Mo_cut_0 v _ μ (es_br (fun q => es_rJ ⟨rfl, ?_⟩) (fun q => es_br (fun q2 => es_rJ ⟨rfl, ?_⟩) (fun q2 => es_br (fun q3 => es_rJ ⟨rfl, ?_⟩) (fun q3 => es_rJ ⟨rfl, ?_⟩)))))
  · rw [if_pos ((lq 0 (by omega)).mp q)]
  · rw [if_neg (fun z => q ((lq 0 (by omega)).mpr z)), if_pos ((lq 1 (by omega)).mp q2)]
  · rw [if_neg (fun z => q ((lq 0 (by omega)).mpr z)), if_neg (fun z => q2 ((lq 1 (by omega)).mpr z)), if_pos ((lq 2 (by omega)).mp q3)]
  · rw [if_neg (fun z => q ((lq 0 (by omega)).mpr z)), if_neg (fun z => q2 ((lq 1 (by omega)).mpr z)), if_neg (fun z => q3 ((lq 2 (by omega)).mpr z))]
theorem q_sheet (d : Nat) {μ : mz_M} {A : es_A} (h : es_M μ A) (s ln n : Int32) : es_I (d + 3) n_Mo_sheet [mz_R 16 0, mz_I s, mz_I ln, mz_I n] μ (mo_ans (es_sheet A s ln n)) := by
  have bad : ¬ (es_4ok s = true ∧ es_4ok ln = true ∧ n.toInt ≤ 40) → es_qI (mo_ans (es_sheet A s ln n)) (some (mz_I (-1000001))) μ := by
    intro z
    unfold es_sheet
    rw [if_neg z]
    exact es_rI ⟨rfl, h⟩
  refine es_I.mk (w_Mo_sheet_0 0 s ln n μ ⟨_, _, es_pure (r_isSheet d s μ), es_br (fun q => bad (fun z => es_4f q z.1)) (fun q => ⟨_, _, es_pure (r_in3 (d + 1) ln μ), es_br (fun q => bad (fun z => es_4f q z.2.1)) (fun q2 => es_br (fun q3 => ?_) (fun q3 => bad (fun z => q3 ((es_len 40 (by omega)).mpr z.2.2)))) ⟩) ⟩)
  have b1 := es_4t q
  have b2 := es_4t q2
  have b3 := (es_len 40 (by omega)).mp q3
  unfold es_sheet
  rw [if_pos (show es_4ok s = true ∧ es_4ok ln = true ∧ n.toInt ≤ 40 from ⟨es_4T b1, es_4T b2, b3⟩)]
  refine es_br (fun q4 => ?_) (fun q4 => es_rI ?_)
  · have b4 := (es_gen 0 (by omega)).mp q4
    rw [if_pos (show 0 ≤ n.toInt from b4)]
    obtain ⟨sn, hs, rfl, es, -⟩ := h.lf b1.1 b1.2
    obtain ⟨l4, hl, rfl, el⟩ := es_4n b2.1 b2.2
    obtain ⟨nn, hn, rfl⟩ : ∃ nn : Nat, nn ≤ 40 ∧ n = nI nn := ⟨n.toInt.toNat, by omega, es_nIof b4⟩
    rw [es, el, nI_toInt (by omega), es_clamp (by omega)]
    simp only [Int.toNat_natCast]
    refine ⟨es_v4 hs, es_v4 hs, ?_⟩
    have key : ∀ (g k : Nat) (μ' : mz_M), k + g = 40 → mo_f (mo_xs sn) mo_ys μ μ' → μ'.1 13 sn = nI l4 → μ'.1 14 sn = nI nn → (∀ j, ¬ (40 * sn ≤ j ∧ j < 40 * sn + 40) → μ'.2 15 j = μ.2 15 j) → (∀ j, j < k → μ'.2 15 (40 * sn + j) = 0) → v_Mo_sheet (es_R (d + 2)) (es_qI (mo_ans (nI nn, es_lu A sn (some (l4, List.replicate nn 0))))) (53, [(0, mz_R 16 0), (1, mz_I (nI sn)), (3, mz_I (nI nn)), (4, mz_I (nI k))], [], μ') := by
      intro g
      induction g with
      | zero =>
        intro k μ' hk hf h13 h14 h15 hz
        refine w_Mo_sheet_53 0 _ _ _ μ' (es_t (nI_le (a := 40) (by omega) (by omega)) (es_rI ⟨rfl, h.leaf hf h15 ?_⟩))
        refine ⟨hl, h13, by show (List.replicate nn (0 : Int64)).length ≤ 40; rw [List.length_replicate]; exact hn, by show μ'.1 14 sn = nI (List.replicate nn (0 : Int64)).length; rw [List.length_replicate]; exact h14, fun j hj => ?_⟩
        have hj : j < (List.replicate nn (0 : Int64)).length := hj
        rw [List.length_replicate] at hj
        rw [hz j (by omega)]
        show 0 = (List.replicate nn (0 : Int64)).getD j 0
        rw [List.getD_eq_getElem?_getD, List.getElem?_replicate, if_pos hj]; rfl
      | succ g ih =>
        intro k μ' hk hf h13 h14 h15 hz
        refine w_Mo_sheet_53 0 _ _ _ μ' (es_f (nI_ge (b := 40) (by omega) (by omega)) ?_)
        rw [show (40 : Int32) = nI 40 from rfl, pk_mul, nI_add, es_clamp (by omega), nI_1]
        refine ⟨es_v160 (by omega), ih (k + 1) _ (by omega) (hf.wL (Or.inl rfl)) h13 h14 (fun j hj => ?_) (fun j hj => ?_)⟩
        · rw [mz_wL_at, if_neg (by omega)]; exact h15 j hj
        · rw [mz_wL_at]
          by_cases e : j = k
          · rw [if_pos ⟨rfl, by omega⟩]
          · rw [if_neg (by omega)]; exact hz j (by omega)
    refine key 40 0 _ (by omega) ((mo_f.rf.wI (X := mo_xs sn) ⟨Or.inl rfl, rfl⟩).wI ⟨Or.inr rfl, rfl⟩) ?_ ?_ (fun j _ => rfl) (fun j hj => by omega)
    · rw [mz_wI_at, if_neg (by omega), mz_wI_at, if_pos ⟨rfl, rfl⟩]
    · rw [mz_wI_at, if_pos ⟨rfl, rfl⟩]
  · have b4 := es_ngen 0 (by omega) q4
    rw [if_neg (show ¬ 0 ≤ n.toInt by omega)]
    exact ⟨rfl, h⟩
theorem q_drop (d : Nat) {μ : mz_M} {A : es_A} (h : es_M μ A) (s : Int32) : es_I (d + 3) n_Mo_drop [mz_R 16 0, mz_I s] μ (mo_ans (es_drop A s)) := by
  refine es_I.mk (w_Mo_drop_0 0 s μ ⟨_, _, es_pure (r_isSheet d s μ), es_br (fun q => es_rI ?_) (fun q => ?_)⟩)
  · unfold es_drop
    rw [if_neg (es_4f q)]
    exact ⟨rfl, h⟩
  have b1 := es_4t q
  unfold es_drop
  rw [if_pos (es_4T b1)]
  obtain ⟨sn, hs, rfl, es, hl⟩ := h.lf b1.1 b1.2
  rw [es_clamp (by omega), es]
  refine ⟨es_v4 hs, ?_⟩
  cases ho : es_ll A (nI sn) with
  | none =>
    rw [ho] at hl
    exact es_f hl.neg (es_rI ⟨rfl, h⟩)
  | some o =>
    rw [ho] at hl
    refine es_t hl.pos ⟨es_v4 hs, es_v4 hs, es_rI ⟨?_, ?_⟩⟩
    · rw [mz_wI_at, if_neg (by omega)]
      exact hl.2.2.2.1
    · refine h.leaf (s := sn) (mo_f.rf.wI ⟨Or.inl rfl, rfl⟩) (fun _ _ => rfl) ?_
      show ((mz_wI μ 13 sn (-1)).1 13 sn).toInt < 0
      rw [mz_wI_at, if_pos ⟨rfl, rfl⟩]
      decide +kernel
theorem es_rf_n {o : es_L} {lane i n : Int32} : (0 : Int32) ≤ es_rf o lane i n ↔ es_rf o lane i n = 0 := by
  have k1 : ¬ (0 : Int32) ≤ -1000011 := by decide +kernel
  have k2 : ¬ (0 : Int32) ≤ -1000012 := by decide +kernel
  have k3 : ¬ (0 : Int32) ≤ -1000013 := by decide +kernel
  constructor
  · intro h
    match o, h with
    | none, h => exact absurd h k1
    | some (ln, its), h =>
      unfold es_rf at h ⊢
      dsimp only at h ⊢
      by_cases e : nI ln = lane
      · rw [if_pos e] at h ⊢
        by_cases e2 : es_hi its.length i n = true
        · rw [if_pos e2]
        · rw [if_neg e2] at h; exact absurd h k3
      · rw [if_neg e] at h; exact absurd h k2
  · intro h
    rw [h]
    decide +kernel
theorem mo_lf.put {μ μ' : mz_M} {s ln : Nat} {its : List Int64} {i : Nat} {v : Int64} (h : mo_lf μ s (some (ln, its))) (hi : i < its.length) (h13 : μ'.1 13 s = μ.1 13 s) (h14 : μ'.1 14 s = μ.1 14 s) (h15 : ∀ k, μ'.2 15 k = if k = 40 * s + i then v else μ.2 15 k) : mo_lf μ' s (some (ln, its.set i v)) := by
  obtain ⟨a1, a2, a3, a4, a5⟩ := h
  refine ⟨a1, by rw [h13]; exact a2, by show (its.set i v).length ≤ 40; rw [List.length_set]; exact a3, by rw [h14]; show _ = nI (its.set i v).length; rw [List.length_set]; exact a4, fun k hk => ?_⟩
  have hk : k < (its.set i v).length := hk
  rw [List.length_set] at hk
  rw [h15]
  show _ = (its.set i v).getD k 0
  rw [es_setD hi]
  by_cases e : k = i
  · rw [if_pos e, if_pos (by omega)]
  · rw [if_neg e, if_neg (by omega)]
    exact a5 k hk
theorem mz_wL_15 {μ : mz_M} {p j : Nat} {v : Int64} (k : Nat) (hj : j = p) : (mz_wL μ 15 j v).2 15 k = if k = p then v else μ.2 15 k := by
  subst hj
  rw [mz_wL_at]
  by_cases e : k = j
  · rw [if_pos ⟨rfl, e⟩, if_pos e]
  · rw [if_neg (fun z => e z.2), if_neg e]
theorem q_item (d : Nat) {μ : mz_M} {A : es_A} (h : es_M μ A) (s ln i : Int32) (v : Int64) : es_I (d + 3) n_Mo_item [mz_R 16 0, mz_I s, mz_I ln, mz_I i, mz_L v] μ (mo_ans (es_item A s ln i v)) := by
  have bad : ¬ (es_4ok s = true ∧ es_4ok ln = true) → es_qI (mo_ans (es_item A s ln i v)) (some (mz_I (-1000001))) μ := by
    intro z
    unfold es_item
    rw [if_neg z]
    exact es_rI ⟨rfl, h⟩
  refine es_I.mk (w_Mo_item_0 0 s ln i v μ ⟨_, _, es_pure (r_isSheet d s μ), es_br (fun q => bad (fun z => es_4f q z.1)) (fun q => ⟨_, _, es_pure (r_in3 (d + 1) ln μ), es_br (fun q => bad (fun z => es_4f q z.2)) (fun q2 => ?_)⟩)⟩)
  have b1 := es_4t q
  have b2 := es_4t q2
  unfold es_item
  rw [if_pos ⟨es_4T b1, es_4T b2⟩]
  obtain ⟨sn, hs, rfl, es, hl⟩ := h.lf b1.1 b1.2
  obtain ⟨l4, hl4, rfl, el⟩ := es_4n b2.1 b2.2
  rw [es]
  refine ⟨_, _, es_pure (r_why (d + 1) hs (n := 1) (by decide +kernel) hl), es_br (fun q3 => ?_) (fun q3 => es_rI ?_)⟩
  · have q3 := es_rf_n.mp q3
    rw [if_pos q3]
    obtain ⟨l5, its, ho, e1, e2, e3, e4⟩ := es_rf_0 q3
    rw [ho] at hl
    rw [es_i1] at e4
    have h40 : its.length ≤ 40 := hl.2.2.1
    have e1 := (nI_eq (by have : l5 < 4 := hl.1; omega) (by omega)).mp e1
    subst e1
    obtain ⟨iN, hi, rfl⟩ : ∃ iN : Nat, iN < its.length ∧ i = nI iN := ⟨i.toInt.toNat, by omega, es_nIof e2⟩
    refine ⟨_, _, es_pureJ (r_cut (d + 1) v hl4 μ), ?_⟩
    rw [ho, nI_toInt (by omega), show (40 : Int32) = nI 40 from rfl, pk_mul, nI_add, es_clamp (by omega)]
    simp only [Int.toNat_natCast]
    refine ⟨es_v160 (by omega), es_rI ⟨rfl, ?_⟩⟩
    refine h.leaf (s := sn) (mo_f.rf.wL (Or.inl rfl)) (fun k hk => by rw [mz_wL_at, if_neg (by omega)]) ?_
    exact hl.put hi rfl rfl (fun k => mz_wL_15 k rfl)
  · have q3 : ¬ es_rf (es_ll A (nI sn)) (nI l4) i 1 = 0 := fun z => q3 (es_rf_n.mpr z)
    rw [if_neg q3]
    exact ⟨rfl, h⟩
theorem q_film (d : Nat) {μ : mz_M} {A : es_A} (h : es_M μ A) (s sh ln i : Int32) : es_I (d + 3) n_Mo_film [mz_R 16 0, mz_I s, mz_I sh, mz_I ln, mz_I i] μ (mo_ans (es_film A s sh ln i)) := by
  have bad : ¬ (es_4ok s = true ∧ es_4ok sh = true ∧ es_4ok ln = true) → es_qI (mo_ans (es_film A s sh ln i)) (some (mz_I (-1000001))) μ := by
    intro z
    unfold es_film
    rw [if_neg z]
    exact es_rI ⟨rfl, h⟩
  refine es_I.mk (w_Mo_film_0 0 s sh ln i μ ⟨_, _, es_pure (r_isSeries d s μ), es_br (fun q => bad (fun z => es_4f q z.1)) (fun q => ⟨_, _, es_pure (r_isSheet d sh μ), es_br (fun q => bad (fun z => es_4f q z.2.1)) (fun q2 => ⟨_, _, es_pure (r_in3 (d + 1) ln μ), es_br (fun q => bad (fun z => es_4f q z.2.2)) (fun q3 => ?_)⟩)⟩)⟩)
  have b1 := es_4t q
  have b2 := es_4t q2
  have b3 := es_4t q3
  unfold es_film
  rw [if_pos ⟨es_4T b1, es_4T b2, es_4T b3⟩]
  obtain ⟨sn, hs, rfl, e1, esl, hn40⟩ := h.len b1.1 b1.2
  obtain ⟨tn, ht, rfl, et, hl⟩ := h.lf b2.1 b2.2
  obtain ⟨l4, hl4, rfl, el⟩ := es_4n b3.1 b3.2
  rw [esl, et]
  refine ⟨_, _, es_pure (r_many (d + 1) h.1 hs), es_br (fun q5 => es_rI ?_) (fun q5 => ?_)⟩
  · rw [if_pos ((es_len0 hn40).mp q5)]
    exact ⟨rfl, h⟩
  · rw [if_neg (show ¬ A.1.1 sn = [] from fun z => q5 ((es_len0 hn40).mpr z))]
    refine ⟨_, _, es_pure (r_why (d + 1) ht (n := nI (A.1.1 sn).length) (by rw [nI_toInt (by omega)]; omega) hl), es_br (fun q6 => ?_) (fun q6 => es_rI ?_)⟩
    · have q6 := es_rf_n.mp q6
      rw [if_pos q6]
      obtain ⟨l5, its, ho, f1, f2, f3, f4⟩ := es_rf_0 q6
      rw [ho] at hl
      rw [nI_toInt (by omega)] at f4
      have h40 : its.length ≤ 40 := hl.2.2.1
      have f1 := (nI_eq (by have : l5 < 4 := hl.1; omega) (by omega)).mp f1
      subst f1
      obtain ⟨iN, hi, rfl⟩ : ∃ iN : Nat, iN + (A.1.1 sn).length ≤ its.length ∧ i = nI iN := ⟨i.toInt.toNat, by omega, es_nIof f2⟩
      rw [ho, nI_toInt (by omega)]
      simp only [Int.toNat_natCast]
      show v_Mo_film (es_R (d + 2)) (es_qI (mo_ans (nI (A.1.1 sn).length, es_lu A tn (some (l5, es_fl its l5 iN (A.1.1 sn) (A.1.1 sn).length))))) _
      generalize hL : (A.1.1 sn).length = L at *
      have key : ∀ (g k : Nat) (μ' : mz_M), k + g = L → mo_f (mo_xs tn) mo_ys μ μ' → (∀ j, ¬ (40 * tn ≤ j ∧ j < 40 * tn + 40) → μ'.2 15 j = μ.2 15 j) → mo_lf μ' tn (some (l5, es_fl its l5 iN (A.1.1 sn) k)) → v_Mo_film (es_R (d + 2)) (es_qI (mo_ans (nI L, es_lu A tn (some (l5, es_fl its l5 iN (A.1.1 sn) L))))) (67, [(0, mz_R 16 0), (1, mz_I (nI sn)), (2, mz_I (nI tn)), (3, mz_I (nI l5)), (4, mz_I (nI iN)), (5, mz_I (nI L)), (7, mz_I (nI k))], [], μ') := by
        intro g
        induction g with
        | zero =>
          intro k μ' hk hf h15 hlf
          have hk : k = L := by omega
          subst hk
          exact w_Mo_film_67 0 _ _ _ _ _ _ μ' (es_t (nI_le (by omega) (by omega)) (es_rI ⟨rfl, h.leaf hf h15 hlf⟩))
        | succ g ih =>
          intro k μ' hk hf h15 hlf
          refine w_Mo_film_67 0 _ _ _ _ _ _ μ' (es_f (nI_ge (by omega) (by omega)) ?_)
          have hsn : mo_sn (μ'.1 1) A.1 := h.1.cong (fun j _ => hf.1 1 j (fun c => by unfold mo_xs at c; omega))
          obtain ⟨r, hA, hra⟩ := es_pur (r_termOf (d + 1) (k := k) hsn hs (by omega))
          refine ⟨_, _, hA, _, _, es_pureJ (r_cut (d + 1) r.toInt64 hl4 μ'), ?_⟩
          rw [show (40 : Int32) = nI 40 from rfl, pk_mul, nI_add, nI_add, es_clamp (by omega), nI_1, es_ofI64 hra]
          refine ⟨es_v160 (by omega), ih (k + 1) _ (by omega) (hf.wL (Or.inl rfl)) (fun j hj => by rw [mz_wL_at, if_neg (by omega)]; exact h15 j hj) ?_⟩
          exact hlf.put (i := iN + k) (by rw [es_fl_len]; omega) rfl rfl (fun j => mz_wL_15 j (by omega))
      exact key _ 0 μ (Nat.zero_add _) mo_f.rf (fun _ _ => rfl) hl
    · have q6 : ¬ es_rf (es_ll A (nI tn)) (nI l4) i (nI (A.1.1 sn).length) = 0 := fun z => q6 (es_rf_n.mpr z)
      rw [if_neg q6]
      exact ⟨rfl, h⟩
theorem q_copy (d : Nat) {μ : mz_M} {A : es_A} (h : es_M μ A) (a i b j n : Int32) : es_I (d + 3) n_Mo_copy [mz_R 16 0, mz_I a, mz_I i, mz_I b, mz_I j, mz_I n] μ (mo_ans (es_copy A a i b j n)) := by
  have bad : ¬ (es_4ok a = true ∧ es_4ok b = true) → es_qI (mo_ans (es_copy A a i b j n)) (some (mz_I (-1000001))) μ := by
    intro z
    unfold es_copy
    rw [if_neg z]
    exact es_rI ⟨rfl, h⟩
  refine es_I.mk (w_Mo_copy_0 0 a i b j n μ ⟨_, _, es_pure (r_isSheet d a μ), es_br (fun q => bad (fun z => es_4f q z.1)) (fun q => ⟨_, _, es_pure (r_isSheet d b μ), es_br (fun q => bad (fun z => es_4f q z.2)) (fun q2 => ?_)⟩)⟩)
  have b1 := es_4t q
  have b2 := es_4t q2
  unfold es_copy
  rw [if_pos (show es_4ok a = true ∧ es_4ok b = true from ⟨es_4T b1, es_4T b2⟩)]
  obtain ⟨sn, hs, rfl, es, hl1⟩ := h.lf b1.1 b1.2
  obtain ⟨tn, ht, rfl, et, hl2⟩ := h.lf b2.1 b2.2
  rw [es_clamp (show sn < 2147483648 by omega), es_clamp (show tn < 2147483648 by omega), et]
  refine ⟨es_v4 hs, ?_⟩
  cases ho1 : es_ll A (nI sn) with
  | none =>
    rw [ho1] at hl1
    exact es_t ((fa_lt _ _).mpr (by rw [es_i0]; exact hl1)) (es_rI ⟨rfl, h⟩)
  | some o1 =>
    rw [ho1] at hl1
    obtain ⟨ln1, its1⟩ := o1
    refine es_f (fun z => by have := es_hlt z; have := es_hle hl1.pos; omega) ⟨es_v4 ht, ?_⟩
    cases ho2 : es_ll A (nI tn) with
    | none =>
      rw [ho2] at hl2
      exact es_f hl2.neg (es_rI ⟨rfl, h⟩)
    | some o2 =>
      rw [ho2] at hl2
      obtain ⟨ln2, its2⟩ := o2
      refine es_t hl2.pos ⟨es_v4 hs, es_v4 ht, ?_⟩
      have hl2' := hl2
      obtain ⟨a1, a2, a3, a4, a5⟩ := hl1
      obtain ⟨c1, c2, c3, c4, c5⟩ := hl2
      dsimp only at a1 a2 a3 a4 a5 c1 c2 c3 c4 c5
      rw [a2, c2, a4, c4]
      unfold es_cpo
      dsimp only
      refine es_br (fun q3 => ?_) (fun q3 => es_rI ?_)
      · have q3 := (nI_eq (by omega) (by omega)).mp q3
        rw [if_pos q3]
        have r1 := fb_rng i
        have r2 := fb_rng j
        have r3 := fb_rng n
        have ei : (i.toInt64 + n.toInt64).toInt = i.toInt + n.toInt := es_add64 (es_i2l i) (es_i2l n) (by omega) (by omega)
        have ej : (j.toInt64 + n.toInt64).toInt = j.toInt + n.toInt := es_add64 (es_i2l j) (es_i2l n) (by omega) (by omega)
        have bad2 : ¬ (es_hi its1.length i n = true ∧ es_hi its2.length j n = true) → es_qI (mo_ans (match (if es_hi its1.length i n = true ∧ es_hi its2.length j n = true then (.inr (some (ln2, es_cp its1 its2 i.toInt.toNat j.toInt.toNat n.toInt.toNat)) : Int32 ⊕ es_L) else .inl (-1000013)) with
          | .inl c => (c, A)
          | .inr o => (n, es_lu A ((tn : Nat) : Int).toNat o))) (some (mz_I (-1000013))) μ := by
          intro z
          rw [if_neg z]
          exact es_rI ⟨rfl, h⟩
        have un : ∀ (len : Nat) (x : Int32), es_hi len x n = true → 0 ≤ x.toInt ∧ 0 ≤ n.toInt ∧ x.toInt + n.toInt ≤ len := fun len x z => of_decide_eq_true z
        refine es_br (fun q4 => bad2 (fun z => ?_)) (fun q4 => es_br (fun q5 => bad2 (fun z => ?_)) (fun q5 => es_br (fun q6 => bad2 (fun z => ?_)) (fun q6 => ⟨es_v4 hs, es_br (fun q7 => bad2 (fun z => ?_)) (fun q7 => ⟨es_v4 ht, es_br (fun q8 => ?_) (fun q8 => bad2 (fun z => ?_))⟩)⟩)))
        · have := es_hlt q4
          rw [es_i0] at this
          have := un _ _ z.1
          omega
        · have := es_hlt q5
          rw [es_i0] at this
          have := un _ _ z.1
          omega
        · have := es_hlt q6
          rw [es_i0] at this
          have := un _ _ z.2
          omega
        · rw [es_cmp_pos, ei, es_i2l, nI_toInt (by omega)] at q7
          have := un _ _ z.1
          omega
        · have q4 := es_nlt q4
          have q5 := es_nlt q5
          have q6 := es_nlt q6
          rw [es_i0] at q4 q5 q6
          rw [es_cmp_pos, ei, es_i2l, nI_toInt (by omega)] at q7
          rw [es_cmp_np, ej, es_i2l, nI_toInt (by omega)] at q8
          rw [if_pos (show es_hi its1.length i n = true ∧ es_hi its2.length j n = true from ⟨decide_eq_true (by omega), decide_eq_true (by omega)⟩)]
          obtain ⟨iN, hi, rfl⟩ : ∃ iN : Nat, (iN : Int) = i.toInt ∧ i = nI iN := ⟨i.toInt.toNat, by omega, es_nIof q5⟩
          obtain ⟨jN, hj, rfl⟩ : ∃ jN : Nat, (jN : Int) = j.toInt ∧ j = nI jN := ⟨j.toInt.toNat, by omega, es_nIof q6⟩
          obtain ⟨nn, hn, rfl⟩ : ∃ nn : Nat, (nn : Int) = n.toInt ∧ n = nI nn := ⟨n.toInt.toNat, by omega, es_nIof q4⟩
          rw [← hi, ← hj, ← hn]
          simp only [Int.toNat_natCast]
          have hin : iN + nn ≤ its1.length := by omega
          have hjn : jN + nn ≤ its2.length := by omega
          clear hi hj hn r1 r2 r3 ei ej q4 q5 q6 q7 q8 un bad2
          have k2 : ∀ (g k : Nat) (μ' : mz_M), k + g = nn → mo_f (fun _ _ => False) mo_ys μ μ' → (∀ t, t < nn → μ'.2 16 t = its1.getD (iN + t) 0) → (∀ t, μ'.2 15 t = if 40 * tn + jN ≤ t ∧ t < 40 * tn + jN + k then its1.getD (iN + (t - (40 * tn + jN))) 0 else μ.2 15 t) → v_Mo_copy (es_R (d + 2)) (es_qI (mo_ans (nI nn, es_lu A tn (some (ln2, es_cp its1 its2 iN jN nn))))) (150, [(0, mz_R 16 0), (3, mz_I (nI tn)), (4, mz_I (nI jN)), (5, mz_I (nI nn)), (6, mz_I (nI k))], [], μ') := by
            intro g
            induction g with
            | zero =>
              intro k μ' hk hf h16 h15
              have hk : k = nn := by omega
              subst hk
              refine w_Mo_copy_150 0 _ _ _ _ μ' (es_t (nI_le (by omega) (by omega)) (es_rI ⟨rfl, h.leaf (hf.mono (fun _ _ z => z.elim) (fun _ z => z)) (fun t ht2 => by rw [h15, if_neg (by omega)]) ?_⟩))
              refine ⟨c1, by rw [hf.1 13 tn id]; exact c2, by show (es_cp its1 its2 iN jN k).length ≤ 40; rw [es_cp_len]; exact c3, by rw [hf.1 14 tn id]; show _ = nI (es_cp its1 its2 iN jN k).length; rw [es_cp_len]; exact c4, fun t ht2 => ?_⟩
              have ht2 : t < (es_cp its1 its2 iN jN k).length := ht2
              rw [es_cp_len] at ht2
              show _ = (es_cp its1 its2 iN jN k).getD t 0
              rw [h15, es_cp_at ht2]
              by_cases e : jN ≤ t ∧ t < jN + k
              · rw [if_pos e, if_pos (by omega), show 40 * tn + t - (40 * tn + jN) = t - jN by omega]
              · rw [if_neg e, if_neg (by omega)]; exact c5 t ht2
            | succ g ih =>
              intro k μ' hk hf h16 h15
              refine w_Mo_copy_150 0 _ _ _ _ μ' (es_f (nI_ge (by omega) (by omega)) ?_)
              rw [show (40 : Int32) = nI 40 from rfl, pk_mul, nI_add, nI_add, es_clamp (show 40 * tn + jN + k < 2147483648 by omega), es_clamp (show k < 2147483648 by omega), nI_1]
              refine ⟨vp_in_nI (by omega) (by omega), es_v160 (by omega), ih (k + 1) _ (by omega) (hf.wL (Or.inl rfl)) (fun t ht2 => by rw [mz_wL_at, if_neg (by omega)]; exact h16 t ht2) (fun t => ?_)⟩
              rw [mz_wL_at, h15]
              by_cases e : t = 40 * tn + jN + k
              · rw [if_pos ⟨rfl, e⟩, if_pos (by omega), h16 k (by omega), show t - (40 * tn + jN) = k by omega]
              · rw [if_neg (fun z => e z.2)]
                by_cases e2 : 40 * tn + jN ≤ t ∧ t < 40 * tn + jN + k
                · rw [if_pos e2, if_pos (by omega)]
                · rw [if_neg e2, if_neg (by omega)]
          have k1 : ∀ (g k : Nat) (μ' : mz_M), k + g = nn → mo_f (fun _ _ => False) mo_ys μ μ' → (∀ t, μ'.2 15 t = μ.2 15 t) → (∀ t, t < k → μ'.2 16 t = its1.getD (iN + t) 0) → v_Mo_copy (es_R (d + 2)) (es_qI (mo_ans (nI nn, es_lu A tn (some (ln2, es_cp its1 its2 iN jN nn))))) (113, [(0, mz_R 16 0), (1, mz_I (nI sn)), (2, mz_I (nI iN)), (3, mz_I (nI tn)), (4, mz_I (nI jN)), (5, mz_I (nI nn)), (6, mz_I (nI k))], [], μ') := by
            intro g
            induction g with
            | zero =>
              intro k μ' hk hf h15 h16
              have hk : k = nn := by omega
              subst hk
              exact w_Mo_copy_113 0 _ _ _ _ _ _ μ' (es_t (nI_le (by omega) (by omega)) (k2 _ 0 μ' (Nat.zero_add _) hf h16 (fun t => by rw [if_neg (by omega)]; exact h15 t)))
            | succ g ih =>
              intro k μ' hk hf h15 h16
              refine w_Mo_copy_113 0 _ _ _ _ _ _ μ' (es_f (nI_ge (by omega) (by omega)) ?_)
              rw [show (40 : Int32) = nI 40 from rfl, pk_mul, nI_add, nI_add, es_clamp (show 40 * sn + iN + k < 2147483648 by omega), es_clamp (show k < 2147483648 by omega), nI_1]
              refine ⟨es_v160 (by omega), vp_in_nI (by omega) (by omega), ih (k + 1) _ (by omega) (hf.wL (Or.inr rfl)) (fun t => by rw [mz_wL_at, if_neg (by omega)]; exact h15 t) (fun t ht2 => ?_)⟩
              rw [mz_wL_at]
              by_cases e : t = k
              · rw [if_pos ⟨rfl, e⟩, h15, e, show 40 * sn + iN + k = 40 * sn + (iN + k) by omega]
                exact a5 _ (by omega)
              · rw [if_neg (fun z => e z.2)]; exact h16 t (by omega)
          exact k1 _ 0 μ (Nat.zero_add _) mo_f.rf (fun _ => rfl) (fun t ht2 => by omega)
        · rw [es_cmp_np, ej, es_i2l, nI_toInt (by omega)] at q8
          have := un _ _ z.2
          omega
      · have q3 : ¬ ln1 = ln2 := fun z => q3 (by rw [z])
        rw [if_neg q3]
        exact ⟨rfl, h⟩
