/-! The reference: make, join, change, drift. -/
theorem es_negL (a : Nat) (h : 0 < a) (h2 : a < 2147483648) : True := trivial
theorem es_m99 : (-99 : Int64).toInt = -99 := by decide +kernel
theorem es_99 : (99 : Int64).toInt = 99 := by decide +kernel
theorem es_quot10 {x : Int32} : (x / 10).toInt = x.toInt.tdiv 10 := by
  rw [Int32.toInt_div, show (10 : Int32).toInt = 10 by decide +kernel]
  have h := fb_rng x
  have h2 : -2147483648 ≤ x.toInt.tdiv 10 ∧ x.toInt.tdiv 10 < 2147483648 := by
    rcases Int.le_total 0 x.toInt with e | e
    · rw [Int.tdiv_eq_ediv_of_nonneg e]; omega
    · have e2 : x.toInt.tdiv 10 = -((-x.toInt).tdiv 10) := by rw [Int.neg_tdiv, Int.neg_neg]
      rw [e2, Int.tdiv_eq_ediv_of_nonneg (by omega)]; omega
  exact fb_bmod h2.1 h2.2
theorem r_isChange (d : Nat) (a v : Int32) (μ : mz_M) : es_I (d + 2) n_Mo_isChange [mz_I a, mz_I v] μ (fun r μ' => μ' = μ ∧ r = es_b (es_chk a v)) := by
  have mk : ∀ (P : Prop) [Decidable P], ((a.toInt = 0 ∧ 0 ≤ v.toInt ∧ v.toInt ≤ 9) ∨ (a.toInt = 1 ∧ 1 ≤ v.toInt ∧ v.toInt ≤ 8) ∨ (a.toInt = 2 ∧ v.toInt = 0) ∨ (a.toInt = 3 ∧ 10 ≤ v.toInt ∧ v.toInt < 90 ∧ v.toInt % 10 < v.toInt / 10) ∨ (a.toInt = 4 ∧ 1 ≤ v.toInt) ∨ (a.toInt = 5 ∧ 0 ≤ v.toInt ∧ v.toInt ≤ 8) ∨ (a.toInt = 6 ∧ -99 ≤ v.toInt ∧ v.toInt ≤ 99) ↔ P) → es_b (decide P) = es_b (es_chk a v) := by
    intro P _ hP
    unfold es_chk
    congr 1
    by_cases e : P
    · rw [decide_eq_true e, decide_eq_true (hP.mpr e)]
    · rw [decide_eq_false e, decide_eq_false (fun z => e (hP.mp z))]
  have t1 : ∀ (P : Prop) [Decidable P], P → es_b (decide P) = 1 := fun P _ h => by rw [decide_eq_true h]; rfl
  have t0 : ∀ (P : Prop) [Decidable P], ¬ P → es_b (decide P) = 0 := fun P _ h => by rw [decide_eq_false h]; rfl
  refine es_I.mk (w_Mo_isChange_0 a v μ (es_br (fun q => ?_) (fun q0 => es_br (fun q => ?_) (fun q1 => es_br (fun q => ?_) (fun q2 => es_br (fun q => ?_) (fun q3 => es_br (fun q => ?_) (fun q4 => es_br (fun q => ?_) (fun q5 => es_br (fun q => ?_) (fun q6 => ?_)))))))))
  · have q := (es_eqn 0 (by omega)).mp q
    exact ⟨_, _, es_pure (r_inn d v 0 9 (by omega) (by omega) μ), es_b01 _, es_rI ⟨rfl, mk _ (by omega)⟩⟩
  · have q := (es_eqn 1 (by omega)).mp q
    exact ⟨_, _, es_pure (r_inn d v 1 8 (by omega) (by omega) μ), es_b01 _, es_rI ⟨rfl, mk _ (by omega)⟩⟩
  · have q := (es_eqn 2 (by omega)).mp q
    refine es_br (fun c => ⟨Or.inr rfl, es_rI ⟨rfl, ?_⟩⟩) (fun c => ⟨Or.inl rfl, es_rI ⟨rfl, ?_⟩⟩)
    · have c := (es_eqn 0 (by omega)).mp c
      exact (t1 _ (by omega)).symm
    · have c := es_neqn 0 (by omega) c
      exact (t0 _ (by omega)).symm
  · have q := (es_eqn 3 (by omega)).mp q
    have n10 : ¬ (10 : Int32) = 0 := by decide +kernel
    refine ⟨n10, _, _, es_pure (r_inn d (v / 10) 1 8 (by omega) (by omega) μ), es_br (fun c => ⟨Or.inl rfl, es_rI ⟨rfl, ?_⟩⟩) (fun c => ⟨n10, n10, ?_⟩)⟩
    · have c := es_bf c
      rw [es_quot10] at c
      refine (t0 _ ?_).symm
      rcases Int.le_total 0 v.toInt with e | e
      · rw [Int.tdiv_eq_ediv_of_nonneg e] at c
        omega
      · omega
    · have c := es_bt c
      rw [es_quot10] at c
      have hv : 10 ≤ v.toInt ∧ v.toInt < 90 := by
        rcases Int.le_total 0 v.toInt with e | e
        · rw [Int.tdiv_eq_ediv_of_nonneg e] at c
          omega
        · have e2 : v.toInt.tdiv 10 = -((-v.toInt).tdiv 10) := by rw [Int.neg_tdiv, Int.neg_neg]
          rw [e2, Int.tdiv_eq_ediv_of_nonneg (by omega)] at c
          omega
      obtain ⟨w, hw1, hw2, rfl⟩ : ∃ w : Nat, 10 ≤ w ∧ w < 90 ∧ v = nI w := ⟨v.toInt.toNat, by omega, by omega, es_nIof (by omega)⟩
      have ew : (nI w).toInt = w := nI_toInt (by omega)
      have d1 : (nI w / 10) = nI (w / 10) := pk_div (d := 10) (by omega) (by omega) (by omega)
      have d2 : (nI w - nI w / 10 * 10) = nI (w % 10) := pk_rem (d := 10) (by omega) (by omega) (by omega)
      rw [d2, d1, show (1 : Int32) = nI 1 from rfl, pk_sub (by omega), nI_l (show w / 10 - 1 < 2 ^ 31 by omega)]
      refine ⟨_, _, es_pure (r_inn d (nI (w % 10)) 0 (w / 10 - 1) (by omega) (by omega) μ), es_br (fun c2 => ⟨Or.inl rfl, es_rI ⟨rfl, ?_⟩⟩) (fun c2 => ⟨Or.inr rfl, es_rI ⟨rfl, ?_⟩⟩)⟩
      · have c2 := es_bf c2
        rw [nI_toInt (by omega)] at c2
        exact (t0 _ (by omega)).symm
      · have c2 := es_bt c2
        rw [nI_toInt (by omega)] at c2
        exact (t1 _ (by omega)).symm
  · have q := (es_eqn 4 (by omega)).mp q
    refine es_br (fun c => ⟨Or.inl rfl, es_rI ⟨rfl, ?_⟩⟩) (fun c => ⟨Or.inr rfl, es_rI ⟨rfl, ?_⟩⟩)
    · have c := (es_ltn 1 (by omega)).mp c
      exact (t0 _ (by omega)).symm
    · have c := es_nltn 1 (by omega) c
      exact (t1 _ (by omega)).symm
  · have q := (es_eqn 5 (by omega)).mp q
    exact ⟨_, _, es_pure (r_inn d v 0 8 (by omega) (by omega) μ), es_b01 _, es_rI ⟨rfl, mk _ (by omega)⟩⟩
  · have q := (es_eqn 6 (by omega)).mp q
    refine ⟨_, _, es_pure (r_in d _ _ _ μ), es_b01 _, es_rI ⟨rfl, ?_⟩⟩
    rw [es_i2l, es_m99, es_99]
    exact mk _ (by omega)
  · have q0 := es_neqn 0 (by omega) q0
    have q1 := es_neqn 1 (by omega) q1
    have q2 := es_neqn 2 (by omega) q2
    have q3 := es_neqn 3 (by omega) q3
    have q4 := es_neqn 4 (by omega) q4
    have q5 := es_neqn 5 (by omega) q5
    have q6 := es_neqn 6 (by omega) q6
    exact ⟨Or.inl rfl, es_rI ⟨rfl, (t0 _ (by omega)).symm⟩⟩
theorem es_kd_ok {kind d n : Nat} (hn : n ≤ 40) : es_ok (es_kd kind d n) ∧ (es_kd kind d n).length = n := by
  unfold es_kd
  refine ⟨⟨by rw [es_ls_len]; exact hn, fun k hk => ?_⟩, es_ls_len _ _⟩
  rw [es_ls_len] at hk
  rw [es_ls_at _ hk]
  have := es_pt_bd (es_bp_bd kind d (n - 1)) k
  omega
theorem es_kn_kok {k x : Int32} (h : es_kn k x = true) : ∃ kn xn : Nat, k = nI kn ∧ x = nI xn ∧ k.toInt = kn ∧ x.toInt = xn ∧ mo_kok kn xn := by
  have h := of_decide_eq_true h
  refine ⟨k.toInt.toNat, x.toInt.toNat, es_nIof (by omega), es_nIof (by omega), by omega, by omega, ?_⟩
  unfold mo_kok
  omega
theorem mo_x1_X {f : Nat} (hf : f = 2 ∨ f = 4 ∨ f = 6) : ∀ q k, mo_x1 f q k → mo_X q k := fun q k h => by unfold mo_x1 at h; unfold mo_X; omega
theorem mo_y1_Y {p : Nat} (hp : p = 2 ∨ p = 3 ∨ p = 4) : ∀ q, mo_y1 p q → mo_Y q := fun q h => by unfold mo_y1 at h; unfold mo_Y; omega
theorem q_make (d : Nat) {μ : mz_M} {A : es_A} (h : es_M μ A) (s k x : Int32) : es_I (d + 3) n_Mo_make [mz_R 16 0, mz_I s, mz_I k, mz_I x] μ (mo_ans (es_make A s k x)) := by
  unfold es_make
  refine es_I.mk (w_Mo_make_0 0 s k x μ ⟨_, _, es_pure (r_isSeries d s μ), es_br (fun q => es_rI ?_) (fun q => ⟨_, _, es_pure (r_isKind d k x μ), es_br (fun q2 => es_rI ?_) (fun q2 => ?_)⟩)⟩)
  · rw [if_neg (es_4f q)]
    exact ⟨rfl, h⟩
  · rw [es_b_0] at q2
    rw [if_pos (es_4T (es_4t q)), q2]
    exact ⟨rfl, h⟩
  · have b := es_4t q
    have k1 : es_kn k x = true := Bool.of_not_eq_false (fun z => q2 (es_b_0.mpr z))
    rw [if_pos (es_4T b), if_pos k1]
    obtain ⟨sn, hs, rfl, e1, e2, h40⟩ := h.len b.1 b.2
    obtain ⟨kn, xn, rfl, rfl, e3, e4, hk⟩ := es_kn_kok k1
    have hl := h.1.2.2.1
    rw [es_0c, h.1.1, e1, e3, e4]
    obtain ⟨μ1, hC, hf, hm⟩ := r_makes d hk (n := A.1.2.1) (by omega) hl.2 μ
    have hok := es_kd_ok (kind := kn) (d := xn) hl.2
    obtain ⟨r, μ2, hD, hr, hM⟩ := r_keeps d (h.scr (hf.mono (mo_x1_X (by omega)) (mo_y1_Y (by omega)))) hm hok.1 hs
    refine ⟨es_v166 (n := 0) (by omega), _, hC, _, _, hD, es_rI ⟨hr.trans ?_, hM⟩⟩
    show nI (es_kd kn xn A.1.2.1).length = nI A.1.2.1
    rw [hok.2]
/-- what was made is put in its place, or refused -/
theorem r_fin (d : Nat) {X : Nat → Nat → Prop} {Y : Nat → Prop} {μ0 μ : mz_M} {A : es_A} {o : es_RL} {r : Int32} {s : Nat} (h : es_M μ0 A) (hg : mo_got X Y o μ0 r μ) (hX : ∀ q k, X q k → mo_X q k) (hY : ∀ q, Y q → mo_Y q) (hs : s < 4) (hok : ∀ l, o = .inr l → es_ok l) :
    if (0 : Int32) ≤ r then (∃ (r18 : Int32) (μ17 : mz_M), es_R (d + 2) n_Mo_keeps [mz_R 16 0, mz_I (nI s)] μ (some (mz_I r18)) μ17 ∧ es_qI (mo_ans (es_out A s o)) (some (mz_I r18)) μ17) else es_qI (mo_ans (es_out A s o)) (some (mz_I r)) μ := by
  obtain ⟨hf, hm⟩ := hg
  have h1 := h.scr (hf.mono hX hY)
  cases o with
  | inl c =>
    refine es_f (fun z => ?_) (es_rI ⟨hm.1, h1⟩)
    have := es_hle z
    rw [es_i0, hm.1] at this
    have := hm.2
    omega
  | inr l =>
    obtain ⟨rfl, hl⟩ := hm
    obtain ⟨r2, μ2, hD, he⟩ := r_keeps d h1 hl (hok l rfl) hs
    exact es_t (by decide +kernel) ⟨_, _, hD, es_rI he⟩
theorem q_join (d : Nat) {μ : mz_M} {A : es_A} (h : es_M μ A) (s act a b : Int32) : es_I (d + 4) n_Mo_join [mz_R 16 0, mz_I s, mz_I act, mz_I a, mz_I b] μ (mo_ans (es_join A s act a b)) := by
  have bad : ¬ (es_4ok s = true ∧ es_4ok act = true ∧ es_4ok a = true ∧ es_4ok b = true) → es_qI (mo_ans (es_join A s act a b)) (some (mz_I (-1000001))) μ := by
    intro z
    unfold es_join
    rw [if_neg z]
    exact es_rI ⟨rfl, h⟩
  refine es_I.mk (w_Mo_join_0 0 s act a b μ ⟨_, _, es_pure (r_isSeries (d + 1) s μ), es_br (fun q => bad (fun z => es_4f q z.1)) (fun q => ⟨_, _, es_pure (r_in3 (d + 2) act μ), es_br (fun q => bad (fun z => es_4f q z.2.1)) (fun q2 => ⟨_, _, es_pure (r_isSeries (d + 1) a μ), es_br (fun q => bad (fun z => es_4f q z.2.2.1)) (fun q3 => ⟨_, _, es_pure (r_isSeries (d + 1) b μ), es_br (fun q => bad (fun z => es_4f q z.2.2.2)) (fun q4 => ?_)⟩)⟩)⟩)⟩)
  have b1 := es_4t q
  have b2 := es_4t q2
  have b3 := es_4t q3
  have b4 := es_4t q4
  unfold es_join
  rw [if_pos ⟨es_4T b1, es_4T b2, es_4T b3, es_4T b4⟩]
  obtain ⟨sn, hs, rfl, e1, -, -⟩ := h.len b1.1 b1.2
  obtain ⟨ac, hac, rfl, eac⟩ := es_4n b2.1 b2.2
  obtain ⟨an, ha, rfl, -, e2, ha40⟩ := h.len b3.1 b3.2
  obtain ⟨bn, hb, rfl, -, e4, hb40⟩ := h.len b4.1 b4.2
  rw [e2, e4, e1, eac]
  refine ⟨_, _, es_pure (r_many (d + 2) h.1 ha), es_br (fun c => es_rI ?_) (fun c => ⟨_, _, es_pure (r_many (d + 2) h.1 hb), es_br (fun c2 => es_rI ?_) (fun c2 => ?_)⟩)⟩
  · rw [if_pos (Or.inl ((es_len0 ha40).mp c))]
    exact ⟨rfl, h⟩
  · rw [if_pos (Or.inr ((es_len0 hb40).mp c2))]
    exact ⟨rfl, h⟩
  · rw [if_neg (fun z => z.elim (fun z => c ((es_len0 ha40).mpr z)) (fun z => c2 ((es_len0 hb40).mpr z)))]
    obtain ⟨μ1, hC1, hf1, h1⟩ := r_takesOne (d + 1) h.1 ha
    have hM1 : es_M μ1 A := h.scr (hf1.mono (mo_x1_X (by omega)) (mo_y1_Y (by omega)))
    obtain ⟨μ2, hC2, hf2, h2⟩ := r_takesTwo (d + 1) hM1.1 hb
    have hM2 : es_M μ2 A := hM1.scr (hf2.mono (mo_x1_X (by omega)) (mo_y1_Y (by omega)))
    obtain ⟨r, μ3, hC3, hg⟩ := r_joins d hac (h1.kept hf2 (by unfold mo_x1; omega) (by unfold mo_y1; omega)) h2 (h.1.2.2.2.2 an ha).1 (h.1.2.2.2.2 bn hb).1 (fun z => c2 ((es_len0 hb40).mpr z))
    refine ⟨_, hC1, _, hC2, _, _, hC3, ?_⟩
    exact r_fin (d + 1) hM2 hg (mo_x1_X (by omega)) (mo_y1_Y (by omega)) hs (fun l hl => (es_jr_ok ha40 hl).1)
theorem es_cr_ok {a : Nat} {v : Int} {l l2 : List Int} (hl : es_ok l) (hv : a = 4 → v ≤ l.length) (hm : a = 3 → 1 ≤ v.toNat / 10) (h : es_cr a v l = .inr l2) : es_ok l2 := by
  have h40 := hl.1
  unfold es_cr at h
  by_cases e3 : a = 3
  · rw [if_pos e3] at h
    split at h
    · cases h
    · cases h
      have h10 := hm e3
      generalize v.toNat / 10 = m at h10
      generalize v.toNat % 10 = r
      have hd : (l.length - r + m - 1) / m ≤ 40 := by
        apply Nat.le_of_lt_succ
        rw [Nat.div_lt_iff_lt_mul (by omega)]
        have : 40 * 1 ≤ 40 * m := Nat.mul_le_mul_left _ h10
        omega
      refine ⟨by rw [es_ls_len]; exact hd, fun k hk => ?_⟩
      rw [es_ls_len] at hk
      rw [es_ls_at _ hk]
      exact hl.bd _
  · rw [if_neg e3] at h
    by_cases e5 : a = 5
    · rw [if_pos e5] at h
      exact (tx_pw_ok hl h).1
    · rw [if_neg e5] at h
      refine (es_wr_ok ?_ h).1
      split
      · have := hv (by omega); omega
      · exact h40
theorem q_change (d : Nat) {μ : mz_M} {A : es_A} (h : es_M μ A) (s a v : Int32) : es_I (d + 6) n_Mo_change [mz_R 16 0, mz_I s, mz_I a, mz_I v] μ (mo_ans (es_change A s a v)) := by
  have bad : ¬ (es_4ok s = true ∧ es_chk a v = true) → es_qI (mo_ans (es_change A s a v)) (some (mz_I (-1000001))) μ := by
    intro z
    unfold es_change
    rw [if_neg z]
    exact es_rI ⟨rfl, h⟩
  refine es_I.mk (w_Mo_change_0 0 s a v μ ⟨_, _, es_pure (r_isSeries (d + 3) s μ), es_br (fun q => bad (fun z => es_4f q z.1)) (fun q => ⟨_, _, es_pure (r_isChange (d + 3) a v μ), es_br (fun q => bad (fun z => by rw [es_b_0] at q; rw [q] at z; cases z.2)) (fun q2 => ?_)⟩)⟩)
  have b1 := es_4t q
  have k1 : es_chk a v = true := Bool.of_not_eq_false (fun z => q2 (es_b_0.mpr z))
  have k2 := of_decide_eq_true k1
  unfold es_change
  rw [if_pos ⟨es_4T b1, k1⟩]
  obtain ⟨sn, hs, rfl, e1, e2, h40⟩ := h.len b1.1 b1.2
  obtain ⟨an, han, rfl⟩ : ∃ an : Nat, an < 7 ∧ a = nI an := ⟨a.toInt.toNat, by omega, es_nIof (by omega)⟩
  have hai : (nI an).toInt = an := nI_toInt (by omega)
  have aq : ∀ c : Nat, c < 10 → (nI an = nI c ↔ an = c) := fun c hc => nI_eq (by omega) (by omega)
  rw [hai] at k2
  rw [e2, e1, hai]
  have hok := (h.1.2.2.2.2 sn hs).1
  refine ⟨_, _, es_pure (r_many (d + 4) h.1 hs), es_br (fun c => es_rI ?_) (fun c => ?_)⟩
  · rw [if_pos ((es_len0 h40).mp c)]
    exact ⟨rfl, h⟩
  have hne : A.1.1 sn ≠ [] := fun z => c ((es_len0 h40).mpr z)
  rw [if_neg hne]
  have go : (an = 4 → v.toInt ≤ (A.1.1 sn).length) → (∃ μ9, es_R (d + 5) n_Mo_takesOne [mz_R 16 0, mz_I (nI sn)] μ none μ9 ∧
                        (∃ (r11 : Int32) (μ10 : mz_M), es_R (d + 5) n_Mo_changes [mz_R 16 0, mz_I (nI an), mz_I v] μ9 (some (mz_I r11)) μ10 ∧
                          (if (0 : Int32) ≤ (r11 : Int32) then
                            (∃ (r13 : Int32) (μ12 : mz_M), es_R (d + 5) n_Mo_keeps [mz_R 16 0, mz_I (nI sn)] μ10 (some (mz_I r13)) μ12 ∧
                              (es_qI (mo_ans (es_out A sn (es_cr an v.toInt (A.1.1 sn)))) (some (mz_I r13)) μ12))
                          else
                            (es_qI (mo_ans (es_out A sn (es_cr an v.toInt (A.1.1 sn)))) (some (mz_I r11)) μ10)))) := by
    intro h4
    obtain ⟨μ1, hC1, hf1, h1⟩ := r_takesOne (d + 3) h.1 hs
    have hM1 : es_M μ1 A := h.scr (hf1.mono (mo_x1_X (by omega)) (mo_y1_Y (by omega)))
    obtain ⟨r, μ2, hC2, hg⟩ := r_changes d (a := an) (v := v) h1 hok hne (by omega)
    refine ⟨_, hC1, _, _, hC2, ?_⟩
    exact r_fin (d + 3) hM1 hg mo_x3_X mo_y3_Y hs (fun l hl => es_cr_ok hok h4 (fun _ => by omega) hl)
  refine es_br (fun q4 => ⟨_, _, es_pure (r_many (d + 4) h.1 hs), es_br (fun q5 => ?_) (fun q5 => es_rI ?_)⟩) (fun q4 => ?_)
  · have q4 := (aq 4 (by omega)).mp q4
    have q5 := (es_len _ (by omega)).mp q5
    rw [if_neg (by omega)]
    exact go (fun _ => q5)
  · have q4 := (aq 4 (by omega)).mp q4
    have q5 := es_nlen _ (by omega) q5
    rw [if_pos (by omega)]
    exact ⟨rfl, h⟩
  · have q4 : ¬ an = 4 := fun z => q4 ((aq 4 (by omega)).mpr z)
    rw [if_neg (by omega)]
    exact go (fun z => absurd z q4)
/-- one draw of the reference -/
theorem es_drawL {x : Int32} (h : 0 ≤ x.toInt) : (x.toInt64 * 1103515245 + 12345) - (x.toInt64 * 1103515245 + 12345) / 2147483648 * 2147483648 = lN (es_nd x) := by
  have hdr : x = nI x.toInt.toNat := es_nIof h
  have hrng := fb_rng x
  unfold es_nd
  generalize hn : x.toInt.toNat = n at hdr
  rw [hdr, nI_l (by omega), es_k1, es_k2, show (2147483648 : Int64) = lN 2147483648 from rfl, lN_mul, lN_add, pk_lRem (by omega) (by omega) (by omega)]
theorem es_drawQ {N : Nat} (h : N < 2147483648) : (lN N / 65536 : Int64).toInt32 = nI (N / 65536) ∧ nI (N / 65536) / 4 = nI (N / 65536 / 4) ∧ nI (N / 65536) / 16 = nI (N / 65536 / 16) ∧ nI (N / 65536 / 4) - nI (N / 65536 / 4) / 3 * 3 = nI (N / 65536 / 4 % 3) ∧ nI (N / 65536 / 16) - nI (N / 65536 / 16) / 9 * 9 = nI (N / 65536 / 16 % 9) ∧ nI (N / 65536) - nI (N / 65536) / 4 * 4 = nI (N / 65536 % 4) := by
  have h1 : N / 65536 ≤ N := Nat.div_le_self _ _
  have eN : (lN N / 65536 : Int64).toInt32 = nI (N / 65536) := by
    rw [show (65536 : Int64) = lN 65536 from rfl, pk_lDiv (Nat.lt_trans h (by decide)) (by decide) (by decide), lN_i]
  generalize N / 65536 = K at h1 eN
  have h2 : K / 4 ≤ K := Nat.div_le_self _ _
  have h3 : K / 16 ≤ K := Nat.div_le_self _ _
  have g1 : K < 2 ^ 31 := by omega
  have g2 : K / 4 < 2 ^ 31 := Nat.lt_of_le_of_lt h2 g1
  have g3 : K / 16 < 2 ^ 31 := Nat.lt_of_le_of_lt h3 g1
  exact ⟨eN, pk_div (d := 4) g1 (by decide) (by decide), pk_div (d := 16) g1 (by decide) (by decide), pk_rem (d := 3) g2 (by decide) (by decide), pk_rem (d := 9) g3 (by decide) (by decide), pk_rem (d := 4) g1 (by decide) (by decide)⟩
theorem es_drawK (K : Nat) : mo_kok (1 + K / 4 % 3) (1 + K / 16 % 9) ∧ K % 4 < 4 := by
  have h1 := Nat.mod_lt (K / 4) (show 0 < 3 by decide)
  have h2 := Nat.mod_lt (K / 16) (show 0 < 9 by decide)
  refine ⟨?_, Nat.mod_lt _ (by decide)⟩
  generalize K / 4 % 3 = u at h1
  generalize K / 16 % 9 = w at h2
  unfold mo_kok
  omega
theorem mo_dr {μ : mz_M} {A : es_A} (h : es_M μ A) {w : Int32} (hw0 : 0 ≤ w.toInt) : es_M (mz_wI μ 1 1 w) ((A.1.1, A.1.2.1, w), A.2) := by
  have hw : mo_f (fun q k => q = 1 ∧ k = 1) mo_N μ (mz_wI μ 1 1 w) := mo_f.rf.wI ⟨rfl, rfl⟩
  have hk1 : ∀ k, k ≠ 1 → (mz_wI μ 1 1 w).1 1 k = μ.1 1 k := fun k hk => by rw [mz_wI_at, if_neg (fun z => hk z.2)]
  refine h.chg (hw.mono (fun q k z => by unfold mo_XN; omega) (fun q z => absurd z id)) ?_ ?_
  · obtain ⟨a, b, c, e, f⟩ := h.1
    refine ⟨by rw [hk1 0 (by omega)]; exact a, by rw [mz_wI_at, if_pos ⟨rfl, rfl⟩], c, hw0, fun s hs => ?_⟩
    obtain ⟨f1, f2, f3⟩ := f s hs
    exact ⟨f1, by rw [hk1 _ (by omega)]; exact f2, fun k hkl => by rw [hk1 _ (by omega)]; exact f3 k hkl⟩
  · rw [hw.1 0 8 (by omega)]
    exact h.2.1.cong (fun k _ => hw.1 5 k (by omega))
theorem r_draw1 (d : Nat) {μ : mz_M} {B : es_A} {K N : Nat} (hc : es_M μ B) (hN : nI N = nI (es_nd B.1.2.2)) (hn0 : 0 ≤ (nI N).toInt) (hK : es_nd B.1.2.2 / 65536 = K) : ∃ μ1, es_R (d + 2) n_Mo_makes [mz_R 16 0, mz_I (nI (1 + K / 4 % 3)), mz_I (nI (1 + K / 16 % 9)), mz_I (nI B.1.2.1)] μ none μ1 ∧ ∃ (r : Int32) (μ2 : mz_M), es_R (d + 2) n_Mo_keeps [mz_R 16 0, mz_I (nI (K % 4))] μ1 (some (mz_I r)) μ2 ∧ es_M (mz_wI μ2 1 1 (nI N)) (es_d1 B) := by
  have hl := hc.1.2.2.1
  obtain ⟨hk3, hs4⟩ := es_drawK K
  obtain ⟨μ1, hC1, hf1, hm1⟩ := r_makes d hk3 (n := B.1.2.1) (by omega) hl.2 μ
  have hM1 : es_M μ1 B := hc.scr (hf1.mono (mo_x1_X (by omega)) (mo_y1_Y (by omega)))
  obtain ⟨r, μ2, hC2, -, hM2⟩ := r_keeps d hM1 hm1 (es_kd_ok (kind := 1 + K / 4 % 3) (d := 1 + K / 16 % 9) hl.2).1 hs4
  refine ⟨μ1, hC1, r, μ2, hC2, ?_⟩
  have h9 := mo_dr hM2 (w := nI N) hn0
  have e : es_d1 B = ((((es_kp B (K % 4) (es_kd (1 + K / 4 % 3) (1 + K / 16 % 9) B.1.2.1)).1.1, (es_kp B (K % 4) (es_kd (1 + K / 4 % 3) (1 + K / 16 % 9) B.1.2.1)).1.2.1, nI N), (es_kp B (K % 4) (es_kd (1 + K / 4 % 3) (1 + K / 16 % 9) B.1.2.1)).2) : es_A) := by
    unfold es_d1 es_td
    rw [hK, hN, Nat.add_comm 1 (K / 16 % 9)]
    rfl
  rw [e]
  exact h9
theorem q_drift (d : Nat) {μ : mz_M} {A : es_A} (h : es_M μ A) (n : Int32) : es_I (d + 3) n_Mo_drift [mz_R 16 0, mz_I n] μ (mo_ans (es_drift A n)) := by
  unfold es_drift
  refine es_I.mk (w_Mo_drift_0 0 n μ ⟨_, _, es_pure (r_inn (d + 1) n 1 40 (by omega) (by omega) μ), es_br (fun q => es_rI ?_) (fun q => ?_)⟩)
  · have q := es_bf q
    rw [if_pos (by omega)]
    exact ⟨rfl, h⟩
  have q := es_bt q
  rw [if_neg (by omega)]
  obtain ⟨m, hm, rfl⟩ : ∃ m : Nat, m ≤ 40 ∧ n = nI m := ⟨n.toInt.toNat, by omega, es_nIof (by omega)⟩
  rw [nI_toInt (by omega)]
  show v_Mo_drift (es_R (d + 2)) (es_qI (mo_ans (es_pr (es_dn A m).1 4, es_dn A m))) _
  have key : ∀ (g k : Nat) (μ' : mz_M), k + g = m → es_M μ' (es_dn A k) → v_Mo_drift (es_R (d + 2)) (es_qI (mo_ans (es_pr (es_dn A m).1 4, es_dn A m))) (17, [(0, mz_R 16 0), (1, mz_I (nI m)), (2, mz_I (nI k))], [], μ') := by
    intro g
    induction g with
    | zero =>
      intro k μ' hk hc
      have hk : k = m := by omega
      subst hk
      exact w_Mo_drift_17 0 _ _ μ' (es_t (nI_le (by omega) (by omega)) ⟨_, _, es_pure (r_there d hc.1), es_rI ⟨rfl, hc⟩⟩)
    | succ g ih =>
      intro k μ' hk hc
      have v1 : vp_in 1 166 := es_v166 (n := 1) (by omega)
      have v0 : vp_in 0 166 := es_v166 (n := 0) (by omega)
      have n4 : ¬ (4 : Int32) = 0 := by decide +kernel
      refine w_Mo_drift_17 0 _ _ μ' (es_f (nI_ge (by omega) (by omega)) ⟨v1, by decide +kernel, by decide +kernel, n4, by decide +kernel, by decide +kernel, by decide +kernel, v0, ?_⟩)
      have hsn := hc.1
      rw [es_1c, es_0c, hsn.2.1, hsn.1, es_drawL hsn.2.2.2.1]
      have nx := fun μ2 => ih (k + 1) μ2 (by omega)
      have hdn : es_dn A (k + 1) = es_d1 (es_dn A k) := rfl
      rw [hdn] at nx
      obtain ⟨a1, a2, a3, a4, a5, a6⟩ := es_drawQ (es_nd_lt (es_dn A k).1.2.2)
      rw [a1, lN_i, a6, a2, a3, a4, a5, show (1 : Int32) = nI 1 from rfl, nI_add, nI_add, nI_add]
      obtain ⟨μ1, hC1, r, μ2, hC2, hM⟩ := r_draw1 d hc rfl (es_nIpos (es_nd_lt _)) rfl
      exact ⟨_, hC1, n4, _, _, hC2, v1, nx _ hM⟩
  exact key m 0 μ (by omega) h
