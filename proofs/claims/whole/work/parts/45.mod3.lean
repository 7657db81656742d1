/-! The reference: what is looked for. -/
theorem es_m1 (n : Nat) : nI n - 1 = nI n + (-1) := by
  rw [Int32.sub_eq_add_neg]
theorem q_first (d : Nat) {μ : mz_M} {A : es_A} (h : es_M μ A) (a b : Int32) : es_I (d + 3) n_Mo_first [mz_R 16 0, mz_I a, mz_I b] μ (mo_ans (es_first A a b, A)) := by
  have bad : ¬ (es_4ok a = true ∧ es_4ok b = true) → es_qI (mo_ans (es_first A a b, A)) (some (mz_I (-1000001))) μ := by
    intro z
    unfold es_first
    rw [if_neg z]
    exact es_rI ⟨rfl, h⟩
  refine es_I.mk (w_Mo_first_0 0 a b μ ⟨_, _, es_pure (r_isSeries d a μ), es_br (fun q => bad (fun z => es_4f q z.1)) (fun q => ⟨_, _, es_pure (r_isSeries d b μ), es_br (fun q => bad (fun z => es_4f q z.2)) (fun q2 => ?_)⟩)⟩)
  have b1 := es_4t q
  have b2 := es_4t q2
  unfold es_first
  rw [if_pos ⟨es_4T b1, es_4T b2⟩]
  obtain ⟨an, ha, rfl, e1, e2, ha40⟩ := h.len b1.1 b1.2
  obtain ⟨bn, hb, rfl, e3, e4, hb40⟩ := h.len b2.1 b2.2
  rw [e2, e4]
  refine ⟨_, _, es_pure (r_many (d + 1) h.1 ha), es_br (fun c => es_rI ⟨?_, h⟩) (fun c => ⟨_, _, es_pure (r_many (d + 1) h.1 hb), es_br (fun c2 => es_rI ⟨?_, h⟩) (fun c2 => ?_)⟩)⟩
  · rw [if_pos (Or.inl ((es_len0 ha40).mp c))]
  · rw [if_pos (Or.inr ((es_len0 hb40).mp c2))]
  · rw [if_neg (fun z => z.elim (fun z => c ((es_len0 ha40).mpr z)) (fun z => c2 ((es_len0 hb40).mpr z)))]
    unfold es_fu
    generalize hn : min (A.1.1 an).length (A.1.1 bn).length = n
    generalize hP : (fun k => decide ((A.1.1 an).getD k 0 ≠ (A.1.1 bn).getD k 0)) = P
    have key : ∀ (m g : Nat), m + g = n → v_Mo_first (es_R (d + 2)) (es_qI (mo_ans (es_lvI (es_fs P n 0), A))) (72, [(0, mz_R 16 0), (1, mz_I (nI an)), (2, mz_I (nI bn)), (4, mz_I (es_lvI (es_fs P g m))), (5, mz_I (nI m + (-1)))], [], μ) := by
      intro m
      induction m with
      | zero =>
        intro g hg
        refine w_Mo_first_72 0 _ _ _ _ μ (es_t (by decide +kernel) (es_rI ⟨?_, h⟩))
        rw [show g = n by omega]
      | succ m ih =>
        intro g hg
        rw [pk_m1]
        refine w_Mo_first_72 0 _ _ _ _ μ (es_f (nI_pos (by omega)) ?_)
        · obtain ⟨x, hX, hx⟩ := es_pur (r_termOf (d + 1) h.1 ha (k := m) (by omega))
          obtain ⟨y, hY, hy⟩ := es_pur (r_termOf (d + 1) h.1 hb (k := m) (by omega))
          have nx := ih (g + 1) (by omega)
          rw [show es_fs P (g + 1) m = if P m = true then some m else es_fs P g (m + 1) from rfl] at nx
          refine ⟨_, _, hX, _, _, hY, es_br (fun q => ?_) (fun q => ?_)⟩
          · rw [if_neg] at nx
            · exact nx
            · rw [← hP, decide_eq_true_eq, ← hx, ← hy, q]
              exact fun z => z rfl
          · rw [if_pos] at nx
            · exact nx
            · rw [← hP, decide_eq_true_eq, ← hx, ← hy]
              exact es_neq q
    refine ⟨_, _, es_pure (r_many (d + 1) h.1 ha), _, _, es_pure (r_many (d + 1) h.1 hb), es_br (fun c3 => ⟨_, _, es_pure (r_many (d + 1) h.1 hb), ?_⟩) (fun c3 => ⟨_, _, es_pure (r_many (d + 1) h.1 ha), ?_⟩)⟩
    · have c3 := (nI_leI (by omega) (by omega)).mp c3
      rw [es_m1, show (A.1.1 bn).length = n by omega]
      exact key n 0 (by omega)
    · have c3 : ¬ (A.1.1 bn).length ≤ (A.1.1 an).length := fun z => c3 (nI_le z (by omega))
      rw [es_m1, show (A.1.1 an).length = n by omega]
      exact key n 0 (by omega)
theorem r_failsAt (d : Nat) {S : es_Sn} {μ : mz_M} {s m r b : Nat} (h : mo_sn (μ.1 1) S) (hs : s < 4) (hm : 1 ≤ m) (hm2 : m ≤ 8) (hr : r < m) (hb : 1 ≤ b) (hb2 : b ≤ 9) : es_I (d + 2) n_Mo_failsAt [mz_R 16 0, mz_I (nI s), mz_I (nI m), mz_I (nI r), mz_I (nI b)] μ (fun x μ' => μ' = μ ∧ x = es_lvI (es_mf (S.1 s) m r b)) := by
  have h40 := (h.2.2.2.2 s hs).1.1
  have hbi : (nI b).toInt = b := nI_toInt (by omega)
  refine es_I.mk (w_Mo_failsAt_0 0 _ _ _ _ μ ⟨_, _, es_pure (r_many d h hs), ?_⟩)
  unfold es_mf
  have key : ∀ (k g : Nat), k + g = (S.1 s).length → v_Mo_failsAt (es_R (d + 1)) (es_qI (fun x μ' => μ' = μ ∧ x = es_lvI (es_fs (es_mp (S.1 s) m r b) (S.1 s).length 0))) (13, [(0, mz_R 16 0), (1, mz_I (nI s)), (2, mz_I (nI m)), (3, mz_I (nI r)), (4, mz_I (nI b)), (5, mz_I (es_lvI (es_fs (es_mp (S.1 s) m r b) g k))), (6, mz_I (nI k + (-1)))], [], μ) := by
    intro k
    induction k with
    | zero =>
      intro g hg
      refine w_Mo_failsAt_13 0 _ _ _ _ _ _ μ (es_t (by decide +kernel) (es_rI ⟨rfl, ?_⟩))
      rw [show g = (S.1 s).length by omega]
    | succ k ih =>
      intro g hg
      have nx := ih (g + 1) (by omega)
      rw [show es_fs (es_mp (S.1 s) m r b) (g + 1) k = if es_mp (S.1 s) m r b k = true then some k else es_fs (es_mp (S.1 s) m r b) g (k + 1) from rfl] at nx
      rw [pk_m1]
      refine w_Mo_failsAt_13 0 _ _ _ _ _ _ μ (es_f (nI_pos (by omega)) ⟨nI_ne0 (by omega) (by omega), ?_⟩)
      · rw [pk_rem (by omega) (by omega) (by omega)]
        have hkm : k % m < m := Nat.mod_lt _ (by omega)
        refine es_br (fun q => ?_) (fun q => ?_)
        · have q := (nI_eq (by omega) (by omega)).mp q
          obtain ⟨x, hX, hx⟩ := es_pur (r_termOf d h hs (k := k) (by omega))
          refine ⟨_, _, hX, nI_ne0 (by omega) (by omega), es_br (fun q2 => ?_) (fun q2 => ?_)⟩
          · rw [es_rem (by omega), hx, hbi] at q2
            rw [if_neg (show ¬ es_mp (S.1 s) m r b k = true from fun z => (of_decide_eq_true z).2 q2)] at nx
            exact nx
          · rw [es_rem (by omega), hx, hbi] at q2
            rw [if_pos (show es_mp (S.1 s) m r b k = true from decide_eq_true ⟨q, q2⟩)] at nx
            exact nx
        · rw [if_neg (show ¬ es_mp (S.1 s) m r b k = true from fun z => q (by rw [(of_decide_eq_true z).1]))] at nx
          exact nx
  rw [es_m1]
  exact key _ 0 (by omega)
theorem es_stT {m r : Int32} (q : ¬ es_b (es_stp m r) = 0) : es_stp m r = true := Bool.of_not_eq_false (fun z => q (es_b_0.mpr z))
theorem es_stF {m r : Int32} (q : es_b (es_stp m r) = 0) : ¬ es_stp m r = true := by
  rw [es_b_0] at q
  rw [q]; decide
theorem q_fits (d : Nat) {μ : mz_M} {A : es_A} (h : es_M μ A) (s m r b w : Int32) : es_I (d + 3) n_Mo_fits [mz_R 16 0, mz_I s, mz_I m, mz_I r, mz_I b, mz_I w] μ (mo_ans (es_fits A s m r b w, A)) := by
  have bad : ¬ (es_4ok s = true ∧ es_stp m r = true ∧ (2 ≤ b.toInt ∧ b.toInt ≤ 9) ∧ (0 ≤ w.toInt ∧ w.toInt ≤ 1)) → es_qI (mo_ans (es_fits A s m r b w, A)) (some (mz_I (-1000001))) μ := by
    intro z
    unfold es_fits
    rw [if_neg z]
    exact es_rI ⟨rfl, h⟩
  refine es_I.mk (w_Mo_fits_0 0 s m r b w μ ⟨_, _, es_pure (r_isSeries d s μ), es_br (fun q => bad (fun z => es_4f q z.1)) (fun q => ⟨_, _, es_pure (r_isStep d m r μ), es_br (fun q => bad (fun z => es_stF q z.2.1)) (fun q2 => ⟨_, _, es_pure (r_inn (d + 1) b 2 9 (by omega) (by omega) μ), es_br (fun q => bad (fun z => es_bf q z.2.2.1)) (fun q3 => ⟨_, _, es_pure (r_inn (d + 1) w 0 1 (by omega) (by omega) μ), es_br (fun q => bad (fun z => es_bf q z.2.2.2)) (fun q4 => ?_)⟩)⟩)⟩)⟩)
  have b1 := es_4t q
  have k1 := es_stT q2
  have b3 := es_bt q3
  have b4 := es_bt q4
  unfold es_fits
  rw [if_pos ⟨es_4T b1, k1, b3, b4⟩]
  obtain ⟨sn, hs, rfl, e1, e2, h40⟩ := h.len b1.1 b1.2
  obtain ⟨mn, rn, rfl, rfl, m1, m2, m3, em, er⟩ := es_stp_n k1
  obtain ⟨bn, hb1, hb2, rfl, eb⟩ : ∃ bn : Nat, 2 ≤ bn ∧ bn ≤ 9 ∧ b = nI bn ∧ b.toInt = bn := ⟨b.toInt.toNat, by omega, by omega, es_nIof (by omega), by omega⟩
  rw [e2, em, er, eb]
  simp only [Int.toNat_natCast]
  refine ⟨_, _, es_pure (r_many (d + 1) h.1 hs), es_br (fun c => es_rI ⟨?_, h⟩) (fun c => ⟨_, _, es_pure (r_failsAt d h.1 hs m1 m2 m3 (b := bn) (by omega) hb2), ?_⟩)⟩
  · rw [if_pos ((es_len0 h40).mp c)]
  · rw [if_neg (fun z => c ((es_len0 h40).mpr z))]
    have hlt : ∀ k, es_mf (A.1.1 sn) mn rn bn = some k → k < 2000000 := fun k hk => es_mf_lt h40 hk
    refine es_br (fun c5 => es_rI ⟨?_, h⟩) (fun c5 => es_br (fun c6 => es_rI ⟨?_, h⟩) (fun c6 => es_rI ⟨?_, h⟩))
    · have c5 := (es_eqn 1 (by omega)).mp c5
      rw [if_pos (by omega)]
    · have c5 := es_neqn 1 (by omega) c5
      rw [es_lvI_n hlt] at c6
      rw [if_neg (by omega), if_pos c6]
    · have c5 := es_neqn 1 (by omega) c5
      rw [es_lvI_n hlt] at c6
      rw [if_neg (by omega), if_neg c6]
theorem q_found (d : Nat) {μ : mz_M} {A : es_A} (h : es_M μ A) (s m r : Int32) : es_I (d + 3) n_Mo_found [mz_R 16 0, mz_I s, mz_I m, mz_I r] μ (mo_ans (es_found A s m r, A)) := by
  have bad : ¬ (es_4ok s = true ∧ es_stp m r = true) → es_qI (mo_ans (es_found A s m r, A)) (some (mz_I (-1000001))) μ := by
    intro z
    unfold es_found
    rw [if_neg z]
    exact es_rI ⟨rfl, h⟩
  refine es_I.mk (w_Mo_found_0 0 s m r μ ⟨_, _, es_pure (r_isSeries d s μ), es_br (fun q => bad (fun z => es_4f q z.1)) (fun q => ⟨_, _, es_pure (r_isStep d m r μ), es_br (fun q => bad (fun z => es_stF q z.2)) (fun q2 => ?_)⟩)⟩)
  have b1 := es_4t q
  have k1 := es_stT q2
  unfold es_found
  rw [if_pos ⟨es_4T b1, k1⟩]
  obtain ⟨sn, hs, rfl, e1, e2, h40⟩ := h.len b1.1 b1.2
  obtain ⟨mn, rn, rfl, rfl, m1, m2, m3, em, er⟩ := es_stp_n k1
  rw [e2, em, er]
  simp only [Int.toNat_natCast]
  refine ⟨_, _, es_pure (r_many (d + 1) h.1 hs), es_br (fun c => es_rI ⟨?_, h⟩) (fun c => ?_)⟩
  · rw [if_pos ((es_len0 h40).mp c)]
  rw [if_neg (fun z => c ((es_len0 h40).mpr z))]
  generalize hl : A.1.1 sn = l at h40
  have main : ∀ (g a : Nat), a + g = 9 → mn ≤ a → es_fo l mn rn (9 - mn) mn = es_fo l mn rn g a → v_Mo_found (es_R (d + 2)) (es_qI (mo_ans (es_lvI (es_fo l mn rn (9 - mn) mn), A))) (32, [(0, mz_R 16 0), (1, mz_I (nI sn)), (2, mz_I (nI mn)), (3, mz_I (nI rn)), (4, mz_I (nI a))], [], μ) := by
    intro g
    induction g with
    | zero =>
      intro a ha hma he
      refine w_Mo_found_32 0 _ _ _ _ μ (es_t (nI_le (a := 9) (by omega) (by omega)) (es_rI ⟨?_, h⟩))
      rw [he]; rfl
    | succ g ih =>
      intro a ha hma he
      have inner : ∀ (g2 b : Nat), b + g2 = a → es_fi l a (a - (if a = mn then rn else 0)) (if a = mn then rn else 0) = es_fi l a g2 b → v_Mo_found (es_R (d + 2)) (es_qI (mo_ans (es_lvI (es_fo l mn rn (9 - mn) mn), A))) (52, [(0, mz_R 16 0), (1, mz_I (nI sn)), (2, mz_I (nI mn)), (3, mz_I (nI rn)), (4, mz_I (nI a)), (5, mz_I (nI b))], [], μ) := by
        intro g2
        induction g2 with
        | zero =>
          intro b hb hi
          refine w_Mo_found_52 0 _ _ _ _ _ μ (es_t (nI_le (by omega) (by omega)) ?_)
          rw [nI_1]
          refine ih (a + 1) (by omega) (by omega) ?_
          rw [he, es_fo_n (by rw [hi]; rfl)]
        | succ g2 ih2 =>
          intro b hb hi
          have hmany := r_many (d + 1) h.1 hs
          rw [hl] at hmany
          refine w_Mo_found_52 0 _ _ _ _ _ μ (es_f (nI_ge (by omega) (by omega)) ⟨_, _, es_pure hmany, ?_⟩)
          rw [show (2 : Int32) = nI 2 from rfl, pk_mul, nI_add]
          refine es_br (fun q => ?_) (fun q => ?_)
          · have q := (nI_leI (by omega) (by omega)).mp q
            rw [nI_1]
            refine ih (a + 1) (by omega) (by omega) ?_
            rw [he, es_fo_n (by rw [hi]; exact es_fi_end q)]
          · have q : ¬ l.length ≤ b + 2 * a := fun z => q (nI_le z (by omega))
            have inn : ∀ (g3 y : Nat), y + g3 = 10 → 2 ≤ y → es_lst l a b = es_fs (fun y => decide (es_mf l a b y = none)) g3 y → v_Mo_found (es_R (d + 2)) (es_qI (mo_ans (es_lvI (es_fo l mn rn (9 - mn) mn), A))) (77, [(0, mz_R 16 0), (1, mz_I (nI sn)), (2, mz_I (nI mn)), (3, mz_I (nI rn)), (4, mz_I (nI a)), (5, mz_I (nI b)), (6, mz_I (nI y))], [], μ) := by
              intro g3
              induction g3 with
              | zero =>
                intro y hy hy2 hq
                refine w_Mo_found_77 0 _ _ _ _ _ _ μ (es_t (nI_le (a := 10) (by omega) (by omega)) ?_)
                rw [nI_1]
                refine ih2 (b + 1) (by omega) ?_
                rw [hi, es_fi_n (by rw [if_pos (by omega), hq]; rfl)]
              | succ g3 ih3 =>
                intro y hy hy2 hq
                have hfa := r_failsAt d h.1 hs (m := a) (r := b) (b := y) (by omega) (by omega) (by omega) (by omega) (by omega)
                rw [hl] at hfa
                have hqn := es_lvI_n (o := es_mf l a b y) (fun k hk => es_mf_lt h40 hk)
                refine w_Mo_found_77 0 _ _ _ _ _ _ μ (es_f (nI_ge (b := 10) (by omega) (by omega)) ⟨_, _, es_pure hfa, es_br (fun q2 => es_rI ⟨?_, h⟩) (fun q2 => ?_)⟩)
                · have hy : es_lst l a b = some y := by
                    rw [hq]
                    show (if decide (es_mf l a b y = none) = true then some y else _) = _
                    rw [if_pos (decide_eq_true (hqn.mp q2))]
                  rw [he, es_fo_s (y := 1000 * a + 100 * b + y) (by rw [hi]; exact es_fi_s (by rw [if_pos (by omega)]; exact hy))]
                  exact es_sum3
                · rw [nI_1]
                  refine ih3 (y + 1) (by omega) (by omega) ?_
                  rw [hq]
                  show (if decide (es_mf l a b y = none) = true then some y else es_fs _ g3 (y + 1)) = _
                  rw [if_neg (fun z => q2 (hqn.mpr (of_decide_eq_true z)))]
            exact inn 8 2 (by omega) (by omega) rfl
      refine w_Mo_found_32 0 _ _ _ _ μ (es_f (nI_ge (b := 9) (by omega) (by omega)) (es_br (fun q => ?_) (fun q => ?_)))
      · have q := (nI_eq (by omega) (by omega)).mp q
        refine inner (a - rn) rn (by omega) ?_
        rw [if_pos q]
      · have q : ¬ a = mn := fun z => q (by rw [z])
        refine inner a 0 (by omega) ?_
        rw [if_neg q]; rfl
  exact main (9 - mn) mn (by omega) (by omega) rfl
theorem q_guess (d : Nat) {μ : mz_M} {A : es_A} (h : es_M μ A) (s n c w : Int32) : es_I (d + 3) n_Mo_guess [mz_R 16 0, mz_I s, mz_I n, mz_I c, mz_I w] μ (mo_ans (es_guess A s n c w, A)) := by
  have bad : ¬ (es_4ok s = true ∧ (0 ≤ n.toInt ∧ n.toInt ≤ 6) ∧ (0 ≤ c.toInt ∧ c.toInt ≤ 10) ∧ (0 ≤ w.toInt ∧ w.toInt ≤ 1)) → es_qI (mo_ans (es_guess A s n c w, A)) (some (mz_I (-1000001))) μ := by
    intro z
    unfold es_guess
    rw [if_neg z]
    exact es_rI ⟨rfl, h⟩
  refine es_I.mk (w_Mo_guess_0 0 s n c w μ ⟨_, _, es_pure (r_isSeries d s μ), es_br (fun q => bad (fun z => es_4f q z.1)) (fun q => ⟨_, _, es_pure (r_inn (d + 1) n 0 6 (by omega) (by omega) μ), es_br (fun q => bad (fun z => es_bf q z.2.1)) (fun q2 => ⟨_, _, es_pure (r_inn (d + 1) c 0 10 (by omega) (by omega) μ), es_br (fun q => bad (fun z => es_bf q z.2.2.1)) (fun q3 => ⟨_, _, es_pure (r_inn (d + 1) w 0 1 (by omega) (by omega) μ), es_br (fun q => bad (fun z => es_bf q z.2.2.2)) (fun q4 => ?_)⟩)⟩)⟩)⟩)
  have b1 := es_4t q
  have b2 := es_bt q2
  have b3 := es_bt q3
  have b4 := es_bt q4
  unfold es_guess
  rw [if_pos ⟨es_4T b1, b2, b3, b4⟩]
  obtain ⟨sn, hs, rfl, e1, e2, h40⟩ := h.len b1.1 b1.2
  obtain ⟨nn, hn, rfl, en⟩ : ∃ nn : Nat, nn ≤ 6 ∧ n = nI nn ∧ n.toInt = nn := ⟨n.toInt.toNat, by omega, es_nIof (by omega), by omega⟩
  obtain ⟨cn, hc, rfl, ec⟩ : ∃ cn : Nat, cn ≤ 10 ∧ c = nI cn ∧ c.toInt = cn := ⟨c.toInt.toNat, by omega, es_nIof (by omega), by omega⟩
  rw [e2, en, ec]
  simp only [Int.toNat_natCast]
  refine ⟨_, _, es_pure (r_many (d + 1) h.1 hs), es_br (fun c1 => es_rI ⟨?_, h⟩) (fun c1 => ⟨_, _, es_pure (r_many (d + 1) h.1 hs), es_br (fun c2 => ?_) (fun c2 => es_rI ⟨?_, h⟩)⟩)⟩
  · rw [if_pos ((es_len0 h40).mp c1)]
  · have c2 := (nI_leI (by omega) (by omega)).mp c2
    rw [if_neg (fun z => c1 ((es_len0 h40).mpr z)), if_neg (by omega)]
    have h6 : 10 ^ nn ≤ 1000000 := Nat.le_trans (Nat.pow_le_pow_right (by omega) hn) (by decide)
    generalize hl : A.1.1 sn = l at h40 c2
    have hov := es_ov_bd l hc nn
    have hpow : 0 < 10 ^ nn := Nat.pow_pos (by omega)
    have hG : 0 < Nat.gcd (es_ov l cn nn) (10 ^ nn) := Nat.gcd_pos_of_pos_right _ hpow
    have gc : ∀ (g a b : Nat), b < g → a ≤ 1000000 → b ≤ 1000000 → Nat.gcd a b = Nat.gcd (es_ov l cn nn) (10 ^ nn) → v_Mo_guess (es_R (d + 2)) (es_qI (mo_ans (nI (es_gv l nn cn (decide (w.toInt = 0))), A))) (129, [(4, mz_I w), (5, mz_I (nI (es_ov l cn nn))), (6, mz_I (nI (10 ^ nn))), (7, mz_I (nI a)), (8, mz_I (nI b))], [], μ) := by
      intro g
      induction g with
      | zero => intro a b hb; omega
      | succ g ih =>
        intro a b hb ha hb2 he
        by_cases eb : b = 0
        · subst eb
          rw [Nat.gcd_zero_right] at he
          refine w_Mo_guess_129 _ _ _ _ _ μ (es_t rfl (es_br (fun q => ⟨nI_ne0 (by omega) (by omega), es_rI ⟨?_, h⟩⟩) (fun q => ⟨nI_ne0 (by omega) (by omega), es_rI ⟨?_, h⟩⟩)))
          · have q := (es_eqn 0 (by omega)).mp q
            rw [pk_div (by omega) (by omega) (by omega), decide_eq_true (show w.toInt = 0 by omega), he]
            rfl
          · have q := es_neqn 0 (by omega) q
            rw [pk_div (by omega) (by omega) (by omega), decide_eq_false (show ¬ w.toInt = 0 by omega), he]
            rfl
        · have hmod := Nat.mod_lt a (show 0 < b by omega)
          refine w_Mo_guess_129 _ _ _ _ _ μ (es_f (nI_ne0 (by omega) (by omega)) ⟨nI_ne0 (by omega) (by omega), ?_⟩)
          rw [pk_rem (by omega) (by omega) (by omega)]
          refine ih b (a % b) (by omega) hb2 (by omega) ?_
          rw [← he, Nat.gcd_comm b, ← Nat.gcd_rec, Nat.gcd_comm]
    have key : ∀ (g k : Nat), k + g = nn → v_Mo_guess (es_R (d + 2)) (es_qI (mo_ans (nI (es_gv l nn cn (decide (w.toInt = 0))), A))) (77, [(0, mz_R 16 0), (1, mz_I (nI sn)), (2, mz_I (nI nn)), (3, mz_I (nI cn)), (4, mz_I w), (5, mz_I (nI (es_ov l cn k))), (6, mz_I (nI (10 ^ k))), (7, mz_I (nI k))], [], μ) := by
      intro g
      induction g with
      | zero =>
        intro k hk
        have hk : k = nn := by omega
        subst hk
        refine w_Mo_guess_77 0 _ _ _ _ _ _ _ μ (es_t (nI_le (by omega) (by omega)) ?_)
        exact gc (10 ^ k + 1) _ _ (by omega) (by omega) (by omega) rfl
      | succ g ih =>
        intro k hk
        have htm := r_termOf (d + 1) h.1 hs (k := k) (by rw [hl]; omega)
        rw [hl] at htm
        obtain ⟨x, hX, hx⟩ := es_pur htm
        have nx := ih (k + 1) (by omega)
        rw [Nat.pow_succ, es_ov] at nx
        refine w_Mo_guess_77 0 _ _ _ _ _ _ _ μ (es_f (nI_ge (by omega) (by omega)) ⟨_, _, hX, by decide +kernel, es_br (fun q => ?_) (fun q => ?_)⟩)
        · rw [es_rem (by decide +kernel), hx] at q
          rw [if_pos (show l.getD k 0 % 2 = 0 from q)] at nx
          rw [show (10 : Int32) = nI 10 from rfl, pk_sub hc, pk_mul, pk_mul, nI_1]
          exact nx
        · rw [es_rem (by decide +kernel), hx] at q
          rw [if_neg (show ¬ l.getD k 0 % 2 = 0 from q)] at nx
          rw [show (10 : Int32) = nI 10 from rfl, pk_mul, pk_mul, nI_1]
          exact nx
    exact key nn 0 (by omega)
  · have c2 : ¬ nn ≤ (A.1.1 sn).length := fun z => c2 (nI_le z (by omega))
    rw [if_neg (fun z => c1 ((es_len0 h40).mpr z)), if_pos (by omega)]
