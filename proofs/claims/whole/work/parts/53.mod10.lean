/-! The reference: quotients and what was wrought. -/
theorem es_qp_ok {act : Nat} {eu l : List Int} (ho : es_ok l) (he : eu.length = l.length) : ∀ {t : Nat} {l2 : List Int}, es_qp act eu l t = .inr l2 → es_ok l2 ∧ l2.length = l.length
  | 0, l2, h => by
    have h : (.inr l : es_RL) = .inr l2 := h
    cases h
    exact ⟨ho, rfl⟩
  | t + 1, l2, h => by
    cases hq : es_qp act eu l t with
    | inl c =>
      rw [es_qp_up (Nat.le_succ t) hq] at h
      cases h
    | inr l3 =>
      rw [es_qp_s hq] at h
      have h3 := es_qp_ok ho he hq
      have h4 := es_jr_ok h3.1.1 h
      refine ⟨h4.1, ?_⟩
      rw [h4.2, h3.2, he]
      exact Nat.min_self _
theorem es_qn_ok {its : List Int64} {i n : Nat} (hn : n ≤ 40) : ∀ {k : Nat} {l : List Int}, es_qn its i n k = .inr l → es_ok l ∧ l.length = n
  | 0, l, h => by
    have h : (.inr (es_kd 0 0 n) : es_RL) = .inr l := h
    cases h
    exact es_kd_ok hn
  | k + 1, l, h => by
    cases hq : es_qn its i n k with
    | inl c =>
      rw [es_qn_up (Nat.le_succ k) hq] at h
      cases h
    | inr l3 =>
      rw [es_qn_s hq] at h
      have h3 := es_qn_ok hn hq
      have h4 := es_qp_ok h3.1 (by rw [(es_kd_ok hn).2, h3.2]) h
      exact ⟨h4.1, h4.2.trans h3.2⟩
theorem q_quotient (d : Nat) {μ : mz_M} {A : es_A} (h : es_M μ A) (s sh ln i n : Int32) : es_I (d + 4) n_Mo_quotient [mz_R 16 0, mz_I s, mz_I sh, mz_I ln, mz_I i, mz_I n] μ (mo_ans (es_quotient A s sh ln i n)) := by
  have bad : ¬ (es_4ok s = true ∧ es_4ok sh = true ∧ es_4ok ln = true ∧ (1 ≤ n.toInt ∧ n.toInt ≤ 6)) → es_qI (mo_ans (es_quotient A s sh ln i n)) (some (mz_I (-1000001))) μ := by
    intro z
    unfold es_quotient
    rw [if_neg z]
    exact es_rI ⟨rfl, h⟩
  refine es_I.mk (w_Mo_quotient_0 0 s sh ln i n μ ⟨_, _, es_pure (r_isSeries (d + 1) s μ), es_br (fun q => bad (fun z => es_4f q z.1)) (fun q => ⟨_, _, es_pure (r_isSheet (d + 1) sh μ), es_br (fun q => bad (fun z => es_4f q z.2.1)) (fun q2 => ⟨_, _, es_pure (r_in3 (d + 2) ln μ), es_br (fun q => bad (fun z => es_4f q z.2.2.1)) (fun q3 => ⟨_, _, es_pure (r_inn (d + 2) n 1 6 (by omega) (by omega) μ), es_br (fun q => bad (fun z => es_bf q z.2.2.2)) (fun q4 => ?_)⟩)⟩)⟩)⟩)
  have b1 := es_4t q
  have b2 := es_4t q2
  have b3 := es_4t q3
  have b4 := es_bt q4
  unfold es_quotient
  rw [if_pos (show es_4ok s = true ∧ es_4ok sh = true ∧ es_4ok ln = true ∧ (1 ≤ n.toInt ∧ n.toInt ≤ 6) from ⟨es_4T b1, es_4T b2, es_4T b3, b4⟩)]
  obtain ⟨sn, hs, rfl, es, -, -⟩ := h.len b1.1 b1.2
  obtain ⟨tn, ht, rfl, et, hl⟩ := h.lf b2.1 b2.2
  obtain ⟨nn, hn, rfl⟩ : ∃ nn : Nat, nn ≤ 6 ∧ n = nI nn := ⟨n.toInt.toNat, by omega, es_nIof (by omega)⟩
  rw [es, nI_toInt (by omega)]
  simp only [Int.toNat_natCast]
  refine ⟨_, _, es_pure (r_whyPairs (d + 1) ht hl hn), es_br (fun q5 => ?_) (fun q5 => es_rI ?_)⟩
  · have q5 := es_rp_n.mp q5
    rw [if_pos q5]
    obtain ⟨l4, its, iN, ho, e1, rfl, e2, e3, e4⟩ := es_rp_0 hn q5
    rw [ho] at hl
    have h40 : its.length ≤ 40 := hl.2.2.1
    have h15 : ∀ k, k < its.length → μ.2 15 (40 * tn + k) = its.getD k 0 := hl.2.2.2.2
    have hsp := h.1.2.2.1
    have hnow : μ.1 1 0 = nI A.1.2.1 := h.1.1
    rw [ho, e3, es_0c, hnow]
    simp only [Int.toNat_natCast]
    generalize hT : A.1.2.1 = T at *
    show _ ∧ _
    refine ⟨es_v166 (n := 0) (by omega), ?_⟩
    obtain ⟨μ1, hC1, hf1, hm1⟩ := r_makes (d + 1) (kind := 0) (d := 0) (Or.inl ⟨rfl, rfl⟩) (n := T) (by omega) (by omega) μ
    obtain ⟨μ2, hC2, hf2, hm2⟩ := r_goesOn (d + 2) hm1
    refine ⟨_, hC1, _, hC2, ?_⟩
    show v_Mo_quotient (es_R (d + 3)) (es_qI (mo_ans (es_out A sn (es_qn its iN T nn)))) _
    have hcp : ∀ (l : List Int) (μ0 : mz_M), es_ok l → es_qn its iN T nn = .inr l → mo_ls μ0 2 2 l → mo_f mo_x3 mo_y3 μ μ0 → ∀ (g k : Nat) (μ' : mz_M), k + g = l.length → mo_f mo_x3 mo_y3 μ μ' → mo_ls μ' 2 2 l → μ'.1 0 6 = nI l.length → (∀ j, j < k → (μ'.2 4 j).toInt = l.getD j 0) → v_Mo_quotient (es_R (d + 3)) (es_qI (mo_ans (es_out A sn (es_qn its iN T nn)))) (209, [(0, mz_R 16 0), (1, mz_I (nI sn)), (7, mz_I (nI k))], [], μ') := by
      intro l μ0 hok he hl0 hf0 g
      have hl40 := hok.1
      induction g with
      | zero =>
        intro k μ' hk hf hl2 h6 hc
        refine w_Mo_quotient_209 0 _ _ μ' (es_t (by rw [hl2.2.1]; exact nI_le (by omega) (by omega)) ?_)
        obtain ⟨r, μ3, hD, hE⟩ := r_keeps (d + 1) (h.scr (hf.mono mo_x3_X mo_y3_Y)) ⟨hl40, h6, fun j hj => hc j (by omega)⟩ hok hs
        refine ⟨_, _, hD, es_rI ?_⟩
        rw [he]
        exact hE
      | succ g ih =>
        intro k μ' hk hf hl2 h6 hc
        refine w_Mo_quotient_209 0 _ _ μ' (es_f (by rw [hl2.2.1]; exact nI_ge (by omega) (by omega)) ⟨vp_in_nI (by omega) (by omega), vp_in_nI (by omega) (by omega), ?_⟩)
        rw [es_clamp (by omega), nI_1]
        refine ih (k + 1) _ (by omega) (hf.wL (Or.inr (Or.inr rfl))) ⟨hl40, hl2.2.1, fun j hj => by rw [mz_wL_at, if_neg (by omega)]; exact hl2.2.2 j hj⟩ h6 (fun j hj => ?_)
        rw [mz_wL_at]
        by_cases e : j = k
        · rw [if_pos ⟨rfl, e⟩, e]
          exact hl2.2.2 k (by omega)
        · rw [if_neg (fun z => e z.2)]
          exact hc j (by omega)
    have key : ∀ (g k : Nat) (μ' : mz_M) (l : List Int), k + g = nn → mo_f mo_x3 mo_y3 μ μ' → mo_ls μ' 2 2 l → es_qn its iN T k = .inr l → v_Mo_quotient (es_R (d + 3)) (es_qI (mo_ans (es_out A sn (es_qn its iN T nn)))) (81, [(0, mz_R 16 0), (1, mz_I (nI sn)), (2, mz_I (nI tn)), (4, mz_I (nI iN)), (5, mz_I (nI nn)), (7, mz_I (nI k))], [], μ') := by
      intro g
      induction g with
      | zero =>
        intro k μ' l hk hf hl2 he
        have hk : k = nn := by omega
        subst hk
        have ok := es_qn_ok (by omega) he
        refine w_Mo_quotient_81 0 _ _ _ _ _ μ' (es_t (nI_le (by omega) (by omega)) ?_)
        refine hcp l μ' ok.1 he hl2 hf l.length 0 _ (Nat.zero_add _) (hf.wI ⟨rfl, Or.inr (Or.inr rfl)⟩) ⟨hl2.1, ?_, hl2.2.2⟩ ?_ (fun j hj => absurd hj (Nat.not_lt_zero j))
        · rw [mz_wI_at, if_neg (by omega)]; exact hl2.2.1
        · rw [mz_wI_at, if_pos ⟨rfl, rfl⟩]; exact hl2.2.1
      | succ g ih =>
        intro k μ' l hk hf hl2 he
        have ok := es_qn_ok (by omega) he
        refine w_Mo_quotient_81 0 _ _ _ _ _ μ' (es_f (nI_ge (by omega) (by omega)) ?_)
        have x1 : μ'.2 15 (40 * tn + iN + 2 * k) = its.getD (iN + 2 * k) 0 := by
          rw [hf.2 15 (by unfold mo_y3; omega)]
          exact (congrArg (μ.2 15) (by omega)).trans (h15 (iN + 2 * k) (by omega))
        have x2 : μ'.2 15 (40 * tn + iN + 2 * k + 1) = its.getD (iN + 2 * k + 1) 0 := by
          rw [hf.2 15 (by unfold mo_y3; omega)]
          exact (congrArg (μ.2 15) (by omega)).trans (h15 (iN + 2 * k + 1) (by omega))
        have x3 : μ'.1 1 0 = nI T := by rw [hf.1 1 0 (by unfold mo_x3; omega)]; exact hnow
        rw [show (2 : Int32) = nI 2 from rfl, show (40 : Int32) = nI 40 from rfl, pk_mul, pk_mul, nI_add, nI_add, nI_1 (40 * tn + iN + 2 * k), es_clamp (show 40 * tn + iN + 2 * k < 2147483648 by omega), es_clamp (show 40 * tn + iN + 2 * k + 1 < 2147483648 by omega), x1, x2, es_0c, x3]
        have bd := es_okp_bd e4 (show k < nn by omega)
        have ee : ((its.getD (iN + 2 * k + 1) 0).toInt32).toInt = es_ee its iN k := es_small rfl (by show -1000 ≤ es_ee its iN k; omega) (by show es_ee its iN k ≤ 1000; omega)
        have ed : ((its.getD (iN + 2 * k) 0).toInt32).toInt = es_dd its iN k := es_small rfl (by show -1000 ≤ es_dd its iN k; omega) (by show es_dd its iN k ≤ 1000; omega)
        have ed2 : (its.getD (iN + 2 * k) 0).toInt32 = nI (es_dd its iN k).toNat := by
          have := es_nIof (x := (its.getD (iN + 2 * k) 0).toInt32) (by rw [ed]; omega)
          rw [ed] at this
          exact this
        rw [ed2]
        refine ⟨es_v160 (by omega), es_v160 (by omega), es_v166 (n := 0) (by omega), ?_⟩
        obtain ⟨μ3, hC3, hf3, hm3⟩ := r_makes (d + 1) (kind := 3) (d := (es_dd its iN k).toNat) (Or.inr (Or.inl ⟨by omega, by omega, by omega, by omega⟩)) (n := T) (by omega) (by omega) μ'
        obtain ⟨μ4, hC4, hf4, hm4⟩ := r_copiesToTwo (d + 2) hm3
        refine ⟨_, hC3, _, hC4, ?_⟩
        have hs2 := es_qn_s he
        have hok2 := es_kd_ok (kind := 3) (d := (es_dd its iN k).toNat) (n := T) (by omega)
        generalize hx : (its.getD (iN + 2 * k + 1) 0).toInt32 = x at ee
        generalize hev : es_ee its iN k = ev at ee hs2 bd
        generalize heu : es_kd 3 (es_dd its iN k).toNat T = eu at hm4 hs2 hok2
        have hne : eu ≠ [] := fun z => by rw [z] at hok2; have := hok2.2; simp only [List.length_nil] at this; omega
        have inner : ∀ (g2 j : Nat) (μ5 : mz_M) (l2 : List Int), j + g2 = ev.natAbs → mo_f mo_x3 mo_y3 μ μ5 → mo_ls μ5 2 2 l2 → mo_ls μ5 3 4 eu → es_qp (es_qa ev) eu l j = .inr l2 → v_Mo_quotient (es_R (d + 3)) (es_qI (mo_ans (es_out A sn (es_qn its iN T nn)))) (140, [(0, mz_R 16 0), (1, mz_I (nI sn)), (2, mz_I (nI tn)), (4, mz_I (nI iN)), (5, mz_I (nI nn)), (7, mz_I (nI k)), (9, mz_I x), (10, mz_I (nI j))], [], μ5) := by
          intro g2
          have epos : (0 : Int32) ≤ x → x = nI ev.natAbs ∧ 0 ≤ ev := by
            intro q
            have q2 := es_hle q
            rw [es_i0] at q2
            refine ⟨?_, by omega⟩
            rw [es_nIof q2, ee]
            congr 1
            omega
          have eneg : ¬ (0 : Int32) ≤ x → -x = nI ev.natAbs ∧ ev < 0 := by
            intro q
            have q2 := es_nle q
            rw [es_i0] at q2
            refine ⟨?_, by omega⟩
            rw [fa_eq, Int32.toInt_neg, ee, fb_bmod (by omega) (by omega), nI_toInt (by omega)]
            omega
          induction g2 with
          | zero =>
            intro j μ5 l2 hj hf5 ha hb hq
            have nx : v_Mo_quotient (es_R (d + 3)) (es_qI (mo_ans (es_out A sn (es_qn its iN T nn)))) (81, [(0, mz_R 16 0), (1, mz_I (nI sn)), (2, mz_I (nI tn)), (4, mz_I (nI iN)), (5, mz_I (nI nn)), (7, mz_I (nI k + 1))], [], μ5) := by
              rw [nI_1]
              refine ih (k + 1) μ5 l2 (by omega) hf5 ha ?_
              rw [hs2, show ev.natAbs = j by omega]
              exact hq
            refine w_Mo_quotient_140 0 _ _ _ _ _ _ _ μ5 (es_br (fun q => es_t ?_ nx) (fun q => es_t ?_ nx))
            · rw [(epos q).1]; exact nI_le (by omega) (by omega)
            · rw [(eneg q).1]; exact nI_le (by omega) (by omega)
          | succ g2 ih2 =>
            intro j μ5 l2 hj hf5 ha hb hq
            have okl2 := es_qp_ok ok.1 (by rw [hok2.2, ok.2]) hq
            have go : ∀ a, a = es_qa ev → (∃ (r4 : Int32) (μ6 : mz_M), es_R (d + 3) n_Mo_joins [mz_R 16 0, mz_I (nI a)] μ5 (some (mz_I r4)) μ6 ∧
              (if (0 : Int32) ≤ (r4 : Int32) then
                (∃ μ7, es_R (d + 3) n_Mo_goesOn [mz_R 16 0] μ6 none μ7 ∧
                  (v_Mo_quotient (es_R (d + 3)) (es_qI (mo_ans (es_out A sn (es_qn its iN T nn)))) (140, [(0, mz_R 16 0), (1, mz_I (nI sn)), (2, mz_I (nI tn)), (4, mz_I (nI iN)), (5, mz_I (nI nn)), (7, mz_I (nI k)), (9, mz_I x), (10, mz_I (nI j + 1))], [], μ7)))
              else
                (es_qI (mo_ans (es_out A sn (es_qn its iN T nn))) (some (mz_I r4)) μ6))) := by
              intro a hae
              have ha4 : a < 4 := by rw [hae]; unfold es_qa; split <;> omega
              obtain ⟨r, μ6, hE, hf6, hm⟩ := r_joins d ha4 ha hb okl2.1 hok2.1 hne
              have hq2 := es_qp_s hq
              rw [← hae] at hq2
              refine ⟨_, _, hE, ?_⟩
              have hf6' : mo_f mo_x3 mo_y3 μ μ6 := hf5.tr (hf6.mono mo_x3_3 mo_y3_3)
              cases hjr : es_jr a l2 eu with
              | inl c =>
                rw [hjr] at hm hq2
                refine es_f (fun z => ?_) (es_rI ?_)
                · have := es_hle z
                  rw [es_i0, hm.1] at this
                  have := hm.2
                  omega
                · rw [es_qn_up (t := k + 1) (by omega) (by rw [hs2]; rw [hae] at hq2; exact es_qp_up (t := j + 1) (by omega) hq2)]
                  exact ⟨hm.1, h.scr (hf6'.mono mo_x3_X mo_y3_Y)⟩
              | inr l3 =>
                rw [hjr] at hm hq2
                refine es_t (by rw [hm.1]; decide +kernel) ?_
                obtain ⟨μ7, hF, hf7, hm7⟩ := r_goesOn (d + 2) hm.2
                refine ⟨_, hF, ?_⟩
                rw [nI_1]
                refine ih2 (j + 1) μ7 l3 (by omega) (hf6'.tr (hf7.mono mo_x3_1 mo_y3_1)) hm7 ?_ (by rw [← hae]; exact hq2)
                exact (hb.kept hf6 (by unfold mo_x1; omega) (by unfold mo_y1; omega)).kept hf7 (by unfold mo_x1; omega) (by unfold mo_y1; omega)
            refine w_Mo_quotient_140 0 _ _ _ _ _ _ _ μ5 (es_br (fun q => es_f ?_ (es_t q ?_)) (fun q => es_f ?_ (es_f q ?_)))
            · rw [(epos q).1]; exact nI_ge (by omega) (by omega)
            · exact go 2 (by unfold es_qa; rw [if_pos (by have := (epos q).2; omega)])
            · rw [(eneg q).1]; exact nI_ge (by omega) (by omega)
            · exact go 3 (by unfold es_qa; rw [if_neg (by have := (eneg q).2; omega)])
        have hf4' : mo_f mo_x3 mo_y3 μ μ4 := (hf.tr (hf3.mono mo_x3_3 mo_y3_3)).tr (hf4.mono mo_x3_2 mo_y3_2)
        exact inner _ 0 μ4 l (Nat.zero_add _) hf4' ((hl2.kept hf3 (by unfold mo_x1; omega) (by unfold mo_y1; omega)).kept hf4 (by unfold mo_x1; omega) (by unfold mo_y1; omega)) hm4 rfl
    exact key nn 0 μ2 _ (Nat.zero_add _) ((hf1.mono mo_x3_3 mo_y3_3).tr (hf2.mono mo_x3_1 mo_y3_1)) hm2 rfl
  · have q5 : ¬ es_rp (es_ll A (nI tn)) ln i nn = 0 := fun z => q5 (es_rp_n.mpr z)
    rw [if_neg q5]
    exact ⟨rfl, h⟩
theorem q_wrought (d : Nat) {μ : mz_M} {A : es_A} (h : es_M μ A) (a b s ln i n : Int32) : es_I (d + 4) n_Mo_wrought [mz_R 16 0, mz_I a, mz_I b, mz_I s, mz_I ln, mz_I i, mz_I n] μ (mo_ans (es_wrought A a b s ln i n, A)) := by
  have bad : ¬ (es_4ok a = true ∧ es_4ok b = true ∧ es_4ok s = true ∧ es_4ok ln = true ∧ 1 ≤ n.toInt ∧ n.toInt ≤ 12) → es_qI (mo_ans (es_wrought A a b s ln i n, A)) (some (mz_I (-1000001))) μ := by
    intro z
    unfold es_wrought
    rw [if_neg z]
    exact es_rI ⟨rfl, h⟩
  refine es_I.mk (w_Mo_wrought_0 0 a b s ln i n μ ⟨_, _, es_pure (r_isSeries (d + 1) a μ), es_br (fun q => bad (fun z => es_4f q z.1)) (fun q => ⟨_, _, es_pure (r_isSeries (d + 1) b μ), es_br (fun q => bad (fun z => es_4f q z.2.1)) (fun q2 => ⟨_, _, es_pure (r_isSheet (d + 1) s μ), es_br (fun q => bad (fun z => es_4f q z.2.2.1)) (fun q3 => ⟨_, _, es_pure (r_in3 (d + 2) ln μ), es_br (fun q => bad (fun z => es_4f q z.2.2.2.1)) (fun q4 => ⟨_, _, es_pure (r_inn (d + 2) n 1 12 (by omega) (by omega) μ), es_br (fun q => bad (fun z => es_bf q ⟨by omega, by omega⟩)) (fun q5 => ?_)⟩)⟩)⟩)⟩)⟩)
  have b1 := es_4t q
  have b2 := es_4t q2
  have b3 := es_4t q3
  have b4 := es_4t q4
  have b5 := es_bt q5
  unfold es_wrought
  rw [if_pos (show es_4ok a = true ∧ es_4ok b = true ∧ es_4ok s = true ∧ es_4ok ln = true ∧ 1 ≤ n.toInt ∧ n.toInt ≤ 12 from ⟨es_4T b1, es_4T b2, es_4T b3, es_4T b4, by omega, by omega⟩)]
  obtain ⟨an, ha, rfl, -, ea, ha40⟩ := h.len b1.1 b1.2
  obtain ⟨bn, hb, rfl, -, eb, hb40⟩ := h.len b2.1 b2.2
  obtain ⟨sn, hs, rfl, es, hl⟩ := h.lf b3.1 b3.2
  rw [ea, eb]
  refine ⟨_, _, es_pure (r_why (d + 2) hs (by omega) hl), es_br (fun q7 => ?_) (fun q7 => es_rI ⟨?_, h⟩)⟩
  · have q7 := es_rf_n.mp q7
    rw [if_pos q7]
    refine ⟨_, _, es_pure (r_many (d + 2) h.1 ha), es_br (fun q8 => es_rI ⟨?_, h⟩) (fun q8 => ⟨_, _, es_pure (r_many (d + 2) h.1 hb), es_br (fun q9 => es_rI ⟨?_, h⟩) (fun q9 => ?_)⟩)⟩
    · rw [if_pos (Or.inl ((es_len0 ha40).mp q8))]
    · rw [if_pos (Or.inr ((es_len0 hb40).mp q9))]
    · rw [if_neg (fun z => z.elim (fun z => q8 ((es_len0 ha40).mpr z)) (fun z => q9 ((es_len0 hb40).mpr z)))]
      obtain ⟨l4, its, ho, e1, e2, e3, e4⟩ := es_rf_0 q7
      rw [ho] at hl
      have h40 : its.length ≤ 40 := hl.2.2.1
      have h15 : ∀ k, k < its.length → μ.2 15 (40 * sn + k) = its.getD k 0 := hl.2.2.2.2
      obtain ⟨nn, hn, rfl⟩ : ∃ nn : Nat, nn ≤ 12 ∧ n = nI nn := ⟨n.toInt.toNat, by omega, es_nIof (by omega)⟩
      rw [nI_toInt (by omega)] at e4
      obtain ⟨iN, hi, rfl⟩ : ∃ iN : Nat, iN + nn ≤ its.length ∧ i = nI iN := ⟨i.toInt.toNat, by omega, es_nIof e2⟩
      rw [ho, nI_toInt (by omega), nI_toInt (by omega)]
      show v_Mo_wrought (es_R (d + 3)) (es_qI (mo_ans (es_wg2 (A.1.1 an) (A.1.1 bn) its iN nn 4, A))) _
      have okb : es_ok (A.1.1 bn) := (h.1.2.2.2.2 bn hb).1
      have oka : es_ok (A.1.1 an) := (h.1.2.2.2.2 an ha).1
      have hne : A.1.1 bn ≠ [] := fun z => q9 ((es_len0 hb40).mpr z)
      generalize hla : A.1.1 an = la at *
      generalize hlb : A.1.1 bn = lb at *
      have key : ∀ (g k : Nat) (μ' : mz_M), k + g = 4 → mo_f mo_x3 mo_y3 μ μ' → v_Mo_wrought (es_R (d + 3)) (es_qI (mo_ans (es_wg2 la lb its iN nn 4, A))) (96, [(0, mz_R 16 0), (1, mz_I (nI an)), (2, mz_I (nI bn)), (3, mz_I (nI sn)), (5, mz_I (nI iN)), (6, mz_I (nI nn)), (8, mz_I (es_wg2 la lb its iN nn k)), (9, mz_I (nI k))], [], μ') := by
        intro g
        induction g with
        | zero =>
          intro k μ' hk hf
          have hk : k = 4 := by omega
          subst hk
          exact w_Mo_wrought_96 0 _ _ _ _ _ _ _ μ' (es_t (nI_le (a := 4) (by omega) (by omega)) (es_rI ⟨rfl, h.scr (hf.mono mo_x3_X mo_y3_Y)⟩))
        | succ g ih =>
          intro k μ' hk hf
          refine w_Mo_wrought_96 0 _ _ _ _ _ _ _ μ' (es_f (nI_ge (b := 4) (by omega) (by omega)) ?_)
          have sn1 : ∀ μ2, mo_f mo_x3 mo_y3 μ μ2 → mo_sn (μ2.1 1) A.1 := fun μ2 hf2 => h.1.cong (fun j _ => hf2.1 1 j (by unfold mo_x3; omega))
          obtain ⟨μ1, hC1, hf1, hm1⟩ := r_takesOne (d + 1) (sn1 μ' hf) ha
          have hf1' := hf.tr (hf1.mono mo_x3_1 mo_y3_1)
          obtain ⟨μ2, hC2, hf2, hm2⟩ := r_takesTwo (d + 1) (sn1 μ1 hf1') hb
          have hf2' := hf1'.tr (hf2.mono mo_x3_2 mo_y3_2)
          rw [hla] at hm1
          rw [hlb] at hm2
          obtain ⟨r, μ3, hC3, hf3, hm⟩ := r_joins d (a := k) (by omega) (hm1.kept hf2 (by unfold mo_x1; omega) (by unfold mo_y1; omega)) hm2 oka okb hne
          have hf3' := hf2'.tr (hf3.mono mo_x3_3 mo_y3_3)
          refine ⟨_, hC1, _, hC2, _, _, hC3, ?_⟩
          have unf : es_wg2 la lb its iN nn (k + 1) = if es_wg (es_jr k la lb) its iN nn = true then es_wg2 la lb its iN nn k ||| (1 <<< (nI k &&& 31)) else es_wg2 la lb its iN nn k := rfl
          have no : es_wg (es_jr k la lb) its iN nn = false → ∀ j : Int32, v_Mo_wrought (es_R (d + 3)) (es_qI (mo_ans (es_wg2 la lb its iN nn 4, A))) (140, [(0, mz_R 16 0), (1, mz_I (nI an)), (2, mz_I (nI bn)), (3, mz_I (nI sn)), (5, mz_I (nI iN)), (6, mz_I (nI nn)), (8, mz_I (es_wg2 la lb its iN nn k)), (9, mz_I (nI k)), (10, mz_I 0), (11, mz_I j)], [], μ3) := by
            intro hw j
            have nx := ih (k + 1) μ3 (by omega) hf3'
            rw [unf, if_neg (by rw [hw]; decide)] at nx
            have nx2 : v_Mo_wrought (es_R (d + 3)) (es_qI (mo_ans (es_wg2 la lb its iN nn 4, A))) (96, [(0, mz_R 16 0), (1, mz_I (nI an)), (2, mz_I (nI bn)), (3, mz_I (nI sn)), (5, mz_I (nI iN)), (6, mz_I (nI nn)), (8, mz_I (es_wg2 la lb its iN nn k ||| 0)), (9, mz_I (nI k + 1))], [], μ3) := by
              rw [Int32.or_zero, nI_1]; exact nx
            exact w_Mo_wrought_140 0 _ _ _ _ _ _ _ _ _ μ3 (es_br (fun _ => es_t rfl nx2) (fun _ => es_t rfl (es_t rfl nx2)))
          cases hjr : es_jr k la lb with
          | inl c =>
            rw [hjr] at hm no
            exact es_f (fun z => by rw [hm.1] at z; rw [z] at hm; exact absurd hm.2 (by decide +kernel)) (no rfl 0)
          | inr l =>
            rw [hjr] at hm no unf
            have okl := es_jr_ok ha40 hjr
            have hl40 := okl.1.1
            refine es_t hm.1 ?_
            rw [hm.2.2.1]
            refine es_br (fun q => no ?_ 0) (fun q => ?_)
            · have q := (nI_ltI (by omega) (by omega)).mp q
              show (es_bg its iN l nn && decide (nn ≤ l.length)) = false
              rw [decide_eq_false (by omega), Bool.and_false]
            · have q : ¬ l.length < nn := fun z => q ((nI_ltI (by omega) (by omega)).mpr z)
              have inner : ∀ (g2 j : Nat), j + g2 = nn → es_bg its iN l j = true → v_Mo_wrought (es_R (d + 3)) (es_qI (mo_ans (es_wg2 la lb its iN nn 4, A))) (140, [(0, mz_R 16 0), (1, mz_I (nI an)), (2, mz_I (nI bn)), (3, mz_I (nI sn)), (5, mz_I (nI iN)), (6, mz_I (nI nn)), (8, mz_I (es_wg2 la lb its iN nn k)), (9, mz_I (nI k)), (10, mz_I 1), (11, mz_I (nI j))], [], μ3) := by
                intro g2
                induction g2 with
                | zero =>
                  intro j hj hbg
                  have hj : j = nn := by omega
                  subst hj
                  refine w_Mo_wrought_140 0 _ _ _ _ _ _ _ _ _ μ3 (es_t (nI_le (by omega) (by omega)) (es_f (by decide +kernel) ?_))
                  have nx := ih (k + 1) μ3 (by omega) hf3'
                  rw [unf, if_pos (show es_wg (.inr l) its iN j = true by show (es_bg its iN l j && decide (j ≤ l.length)) = true; rw [hbg, decide_eq_true (by omega)]; rfl)] at nx
                  rw [nI_1]
                  exact nx
                | succ g2 ih2 =>
                  intro j hj hbg
                  refine w_Mo_wrought_140 0 _ _ _ _ _ _ _ _ _ μ3 (es_f (nI_ge (by omega) (by omega)) (es_f (by decide +kernel) ?_))
                  have x1 : μ3.2 15 (40 * sn + iN + j) = its.getD (iN + j) 0 := by
                    rw [hf3'.2 15 (by unfold mo_y3; omega)]
                    exact (congrArg (μ.2 15) (by omega)).trans (h15 (iN + j) (by omega))
                  rw [show (40 : Int32) = nI 40 from rfl, pk_mul, nI_add, nI_add, es_clamp (show 40 * sn + iN + j < 2147483648 by omega), es_clamp (show j < 2147483648 by omega), x1, nI_1]
                  refine ⟨vp_in_nI (by omega) (by omega), es_v160 (by omega), es_br (fun q2 => ih2 (j + 1) (by omega) ?_) (fun q2 => no ?_ _)⟩
                  · rw [es_cmp_0, hm.2.2.2 j (by omega)] at q2
                    unfold es_bg
                    rw [hbg, decide_eq_true q2.symm]; rfl
                  · rw [es_cmp_0, hm.2.2.2 j (by omega)] at q2
                    have : es_bg its iN l (j + 1) = false := by
                      unfold es_bg
                      rw [hbg, decide_eq_false (fun z => q2 z.symm)]; rfl
                    show (es_bg its iN l nn && decide (nn ≤ l.length)) = false
                    rw [es_bg_up (by omega) this]; rfl
              exact inner nn 0 (Nat.zero_add _) rfl
      exact key 4 0 μ (by omega) mo_f.rf
  · have q7 : ¬ es_rf (es_ll A (nI sn)) ln i n = 0 := fun z => q7 (es_rf_n.mpr z)
    rw [if_neg q7]
