/-! The class's tests of arguments. -/
theorem es_ltn {x : Int32} (n : Nat) (hn : n < 2147483648) : x < nI n ↔ x.toInt < n := by rw [fa_lt, nI_toInt (by omega)]
theorem es_gtn {x : Int32} (n : Nat) (hn : n < 2147483648) : nI n < x ↔ (n : Int) < x.toInt := by rw [fa_lt, nI_toInt (by omega)]
theorem es_len {x : Int32} (n : Nat) (hn : n < 2147483648) : x ≤ nI n ↔ x.toInt ≤ n := by rw [fa_le, nI_toInt (by omega)]
theorem es_gen {x : Int32} (n : Nat) (hn : n < 2147483648) : nI n ≤ x ↔ (n : Int) ≤ x.toInt := by rw [fa_le, nI_toInt (by omega)]
theorem es_eqn {x : Int32} (n : Nat) (hn : n < 2147483648) : x = nI n ↔ x.toInt = n := by rw [fa_eq, nI_toInt (by omega)]
theorem es_nltn {x : Int32} (n : Nat) (hn : n < 2147483648) (h : ¬ x < nI n) : (n : Int) ≤ x.toInt := by rw [es_ltn n hn] at h; omega
theorem es_ngtn {x : Int32} (n : Nat) (hn : n < 2147483648) (h : ¬ nI n < x) : x.toInt ≤ n := by rw [es_gtn n hn] at h; omega
theorem es_nlen {x : Int32} (n : Nat) (hn : n < 2147483648) (h : ¬ x ≤ nI n) : (n : Int) < x.toInt := by rw [es_len n hn] at h; omega
theorem es_ngen {x : Int32} (n : Nat) (hn : n < 2147483648) (h : ¬ nI n ≤ x) : x.toInt < n := by rw [es_gen n hn] at h; omega
theorem es_neqn {x : Int32} (n : Nat) (hn : n < 2147483648) (h : ¬ x = nI n) : x.toInt ≠ n := by rw [es_eqn n hn] at h; exact h
theorem s_isWithin (d : Nat) (x : Int32) {m : Nat} (hm : m < 2147483648) (μ : mz_M) : es_I (d + 1) n_ES_isWithin [mz_I x, mz_I (nI m)] μ (fun r μ' => μ' = μ ∧ r = es_b (decide (0 ≤ x.toInt ∧ x.toInt ≤ m))) := by
  refine es_I.mk (w_ES_isWithin_0 x (nI m) μ (es_br (fun h => ⟨Or.inl rfl, es_rI ⟨rfl, ?_⟩⟩) (fun h => es_br (fun h2 => ⟨Or.inl rfl, es_rI ⟨rfl, ?_⟩⟩) (fun h2 => ⟨Or.inr rfl, es_rI ⟨rfl, ?_⟩⟩))))
  · have h := (es_ltn 0 (by omega)).mp h
    rw [decide_eq_false (by omega)]; rfl
  · have h2 := (es_gtn m hm).mp h2
    rw [decide_eq_false (by omega)]; rfl
  · have h := es_nltn 0 (by omega) h
    have h2 := es_ngtn m hm h2
    rw [decide_eq_true (by omega)]; rfl
theorem s_isPairs (d : Nat) (x : Int32) (μ : mz_M) : es_I (d + 1) n_ES_isPairs [mz_I x] μ (fun r μ' => μ' = μ ∧ r = es_b (decide (1 ≤ x.toInt ∧ x.toInt ≤ 6))) := by
  refine es_I.mk (w_ES_isPairs_0 x μ (es_br (fun h => ⟨Or.inl rfl, es_rI ⟨rfl, ?_⟩⟩) (fun h => es_br (fun h2 => ⟨Or.inl rfl, es_rI ⟨rfl, ?_⟩⟩) (fun h2 => ⟨Or.inr rfl, es_rI ⟨rfl, ?_⟩⟩))))
  · have h := (es_ltn 1 (by omega)).mp h
    rw [decide_eq_false (by omega)]; rfl
  · have h2 := (es_gtn 6 (by omega)).mp h2
    rw [decide_eq_false (by omega)]; rfl
  · have h := es_nltn 1 (by omega) h
    have h2 := es_ngtn 6 (by omega) h2
    rw [decide_eq_true (by omega)]; rfl
def es_stp (m r : Int32) : Bool := decide (1 ≤ m.toInt ∧ m.toInt ≤ 8 ∧ 0 ≤ r.toInt ∧ r.toInt < m.toInt)
theorem s_isStep (d : Nat) (m r : Int32) (μ : mz_M) : es_I (d + 1) n_ES_isStep [mz_I m, mz_I r] μ (fun x μ' => μ' = μ ∧ x = es_b (es_stp m r)) := by
  refine es_I.mk (w_ES_isStep_0 m r μ (es_br (fun h => ⟨Or.inl rfl, es_rI ⟨rfl, ?_⟩⟩) (fun h => es_br (fun h2 => ⟨Or.inl rfl, es_rI ⟨rfl, ?_⟩⟩) (fun h2 => es_br (fun h3 => ⟨Or.inl rfl, es_rI ⟨rfl, ?_⟩⟩) (fun h3 => es_br (fun h4 => ⟨Or.inl rfl, es_rI ⟨rfl, ?_⟩⟩) (fun h4 => ⟨Or.inr rfl, es_rI ⟨rfl, ?_⟩⟩))))))
  all_goals unfold es_stp
  · have h := (es_ltn 1 (by omega)).mp h
    rw [decide_eq_false (by omega)]; rfl
  · have h2 := (es_gtn 8 (by omega)).mp h2
    rw [decide_eq_false (by omega)]; rfl
  · have h3 := (es_ltn 0 (by omega)).mp h3
    rw [decide_eq_false (by omega)]; rfl
  · have h4 := es_hle h4
    rw [decide_eq_false (by omega)]; rfl
  · have h := es_nltn 1 (by omega) h
    have h2 := es_ngtn 8 (by omega) h2
    have h3 := es_nltn 0 (by omega) h3
    have h4 := es_nle h4
    rw [decide_eq_true (by omega)]; rfl
def es_kn (k x : Int32) : Bool := decide ((k.toInt = 0 ∧ x.toInt = 0) ∨ (1 ≤ k.toInt ∧ k.toInt ≤ 3 ∧ 1 ≤ x.toInt ∧ x.toInt ≤ 9) ∨ (k.toInt = 4 ∧ 0 ≤ x.toInt ∧ x.toInt ≤ 39))
theorem s_isKind (d : Nat) (k x : Int32) (μ : mz_M) : es_I (d + 1) n_ES_isKind [mz_I k, mz_I x] μ (fun r μ' => μ' = μ ∧ r = es_b (es_kn k x)) := by
  have mid : ∀ c : Nat, 1 ≤ c → c ≤ 3 → k = nI c → (if x < (1 : Int32) then
        (((0 : Int32) = 0 ∨ (0 : Int32) = 1) ∧ es_qI (fun r μ' => μ' = μ ∧ r = es_b (es_kn k x)) (some (mz_I 0)) μ)
      else
        (if (9 : Int32) < x then
          (((0 : Int32) = 0 ∨ (0 : Int32) = 1) ∧ es_qI (fun r μ' => μ' = μ ∧ r = es_b (es_kn k x)) (some (mz_I 0)) μ)
        else
          (((1 : Int32) = 0 ∨ (1 : Int32) = 1) ∧ es_qI (fun r μ' => μ' = μ ∧ r = es_b (es_kn k x)) (some (mz_I 1)) μ))) := by
    intro c h1 h2 hk
    have hk := (es_eqn c (by omega)).mp hk
    refine es_br (fun h => ⟨Or.inl rfl, es_rI ⟨rfl, ?_⟩⟩) (fun h => es_br (fun h2 => ⟨Or.inl rfl, es_rI ⟨rfl, ?_⟩⟩) (fun h2 => ⟨Or.inr rfl, es_rI ⟨rfl, ?_⟩⟩))
    all_goals unfold es_kn
    · have h := (es_ltn 1 (by omega)).mp h
      rw [decide_eq_false (by omega)]; rfl
    · have h2 := (es_gtn 9 (by omega)).mp h2
      rw [decide_eq_false (by omega)]; rfl
    · have h := es_nltn 1 (by omega) h
      have h2 := es_ngtn 9 (by omega) h2
      rw [decide_eq_true (by omega)]; rfl
  refine es_I.mk (w_ES_isKind_0 k x μ (es_br (fun h => es_br (fun h2 => ⟨Or.inr rfl, es_rI ⟨rfl, ?_⟩⟩) (fun h2 => ⟨Or.inl rfl, es_rI ⟨rfl, ?_⟩⟩)) (fun h0 => es_br (fun h => mid 1 (by omega) (by omega) h) (fun h1 => es_br (fun h => mid 2 (by omega) (by omega) h) (fun h2 => es_br (fun h => mid 3 (by omega) (by omega) h) (fun h3 => es_br (fun h => es_br (fun c => ⟨Or.inl rfl, es_rI ⟨rfl, ?_⟩⟩) (fun c => es_br (fun c2 => ⟨Or.inl rfl, es_rI ⟨rfl, ?_⟩⟩) (fun c2 => ⟨Or.inr rfl, es_rI ⟨rfl, ?_⟩⟩))) (fun h4 => ⟨Or.inl rfl, es_rI ⟨rfl, ?_⟩⟩)))))))
  all_goals unfold es_kn
  · have h := (es_eqn 0 (by omega)).mp h
    have h2 := (es_eqn 0 (by omega)).mp h2
    rw [decide_eq_true (by omega)]; rfl
  · have h := (es_eqn 0 (by omega)).mp h
    have h2 := es_neqn 0 (by omega) h2
    rw [decide_eq_false (by omega)]; rfl
  · have h := (es_eqn 4 (by omega)).mp h
    have c := (es_ltn 0 (by omega)).mp c
    rw [decide_eq_false (by omega)]; rfl
  · have h := (es_eqn 4 (by omega)).mp h
    have c2 := (es_gen 40 (by omega)).mp c2
    rw [decide_eq_false (by omega)]; rfl
  · have h := (es_eqn 4 (by omega)).mp h
    have c := es_nltn 0 (by omega) c
    have c2 := es_ngen 40 (by omega) c2
    rw [decide_eq_true (by omega)]; rfl
  · have h0 := es_neqn 0 (by omega) h0
    have h1 := es_neqn 1 (by omega) h1
    have h2 := es_neqn 2 (by omega) h2
    have h3 := es_neqn 3 (by omega) h3
    have h4 := es_neqn 4 (by omega) h4
    rw [decide_eq_false (by omega)]; rfl
/-- a change's number, as far as it doesn't hang on the series -/
def es_chk (a v : Int32) : Bool := decide ((a.toInt = 0 ∧ 0 ≤ v.toInt ∧ v.toInt ≤ 9) ∨ (a.toInt = 1 ∧ 1 ≤ v.toInt ∧ v.toInt ≤ 8) ∨ (a.toInt = 2 ∧ v.toInt = 0) ∨ (a.toInt = 3 ∧ 10 ≤ v.toInt ∧ v.toInt < 90 ∧ v.toInt % 10 < v.toInt / 10) ∨ (a.toInt = 4 ∧ 1 ≤ v.toInt) ∨ (a.toInt = 5 ∧ 0 ≤ v.toInt ∧ v.toInt ≤ 8) ∨ (a.toInt = 6 ∧ -99 ≤ v.toInt ∧ v.toInt ≤ 99))
theorem es_b01 (c : Bool) : es_b c = 0 ∨ es_b c = 1 := by cases c <;> simp [es_b]
set_option maxHeartbeats 1000000 in
theorem s_isChange (d : Nat) (a v : Int32) (μ : mz_M) : es_I (d + 2) n_ES_isChange [mz_I a, mz_I v] μ (fun r μ' => μ' = μ ∧ r = es_b (es_chk a v)) := by
  have rv := fb_rng v
  have m99 : (-99 : Int32).toInt = -99 := by decide +kernel
  refine es_I.mk (w_ES_isChange_0 a v μ (es_br (fun h => ?_) (fun h0 => es_br (fun h => ?_) (fun h1 => es_br (fun h => ?_) (fun h2 => es_br (fun h => ?_) (fun h3 => es_br (fun h => ?_) (fun h4 => es_br (fun h => ?_) (fun h5 => es_br (fun h => ?_) (fun h6 => ?_)))))))))
  · have h := (es_eqn 0 (by omega)).mp h
    refine ⟨_, _, es_pure (s_isWithin d v (m := 9) (by omega) μ), es_b01 _, es_rI ⟨rfl, ?_⟩⟩
    unfold es_chk
    congr 1
    exact decide_eq_decide.mpr (by omega)
  · have h := (es_eqn 1 (by omega)).mp h
    refine es_br (fun c => ⟨Or.inl rfl, es_rI ⟨rfl, ?_⟩⟩) (fun c => es_br (fun c2 => ⟨Or.inl rfl, es_rI ⟨rfl, ?_⟩⟩) (fun c2 => ⟨Or.inr rfl, es_rI ⟨rfl, ?_⟩⟩))
    all_goals unfold es_chk
    · have c := (es_ltn 1 (by omega)).mp c
      rw [decide_eq_false (by omega)]; rfl
    · have c2 := (es_gtn 8 (by omega)).mp c2
      rw [decide_eq_false (by omega)]; rfl
    · have c := es_nltn 1 (by omega) c
      have c2 := es_ngtn 8 (by omega) c2
      rw [decide_eq_true (by omega)]; rfl
  · have h := (es_eqn 2 (by omega)).mp h
    refine es_br (fun c => ⟨Or.inr rfl, es_rI ⟨rfl, ?_⟩⟩) (fun c => ⟨Or.inl rfl, es_rI ⟨rfl, ?_⟩⟩)
    all_goals unfold es_chk
    · have c := (es_eqn 0 (by omega)).mp c
      rw [decide_eq_true (by omega)]; rfl
    · have c := es_neqn 0 (by omega) c
      rw [decide_eq_false (by omega)]; rfl
  · have h := (es_eqn 3 (by omega)).mp h
    refine es_br (fun c => ⟨Or.inl rfl, es_rI ⟨rfl, ?_⟩⟩) (fun c => ⟨by decide +kernel, by decide +kernel, ?_⟩)
    · have c := (es_ltn 0 (by omega)).mp c
      unfold es_chk
      rw [decide_eq_false (by omega)]; rfl
    · have c := es_nltn 0 (by omega) c
      obtain ⟨w, hw, rfl⟩ : ∃ w : Nat, w < 2147483648 ∧ v = nI w := ⟨v.toInt.toNat, by omega, es_nIof (by omega)⟩
      have hwi : (nI w).toInt = w := nI_toInt (by omega)
      have d1 : (nI w / 10) = nI (w / 10) := pk_div (d := 10) (by omega) (by omega) (by omega)
      have d2 : (nI w - nI w / 10 * 10) = nI (w % 10) := pk_rem (d := 10) (by omega) (by omega) (by omega)
      rw [d2, d1]
      refine ⟨_, _, es_pure (s_isStep d _ _ μ), ?_⟩
      have e : es_stp (nI (w / 10)) (nI (w % 10)) = es_chk a (nI w) := by
        unfold es_stp es_chk
        rw [nI_toInt (by omega), nI_toInt (by omega), hwi]
        exact decide_eq_decide.mpr (by omega)
      rw [e]
      refine es_br (fun c => ⟨Or.inl rfl, es_rI ⟨rfl, c.symm⟩⟩) (fun c => ⟨Or.inr rfl, es_rI ⟨rfl, ?_⟩⟩)
      rcases es_b01 (es_chk a (nI w)) with z | z
      · exact absurd z c
      · exact z.symm
  · have h := (es_eqn 4 (by omega)).mp h
    refine es_br (fun c => ⟨Or.inl rfl, es_rI ⟨rfl, ?_⟩⟩) (fun c => ⟨Or.inr rfl, es_rI ⟨rfl, ?_⟩⟩)
    all_goals unfold es_chk
    · have c := (es_ltn 1 (by omega)).mp c
      rw [decide_eq_false (by omega)]; rfl
    · have c := es_nltn 1 (by omega) c
      rw [decide_eq_true (by omega)]; rfl
  · have h := (es_eqn 5 (by omega)).mp h
    refine ⟨_, _, es_pure (s_isWithin d v (m := 8) (by omega) μ), es_b01 _, es_rI ⟨rfl, ?_⟩⟩
    unfold es_chk
    congr 1
    exact decide_eq_decide.mpr (by omega)
  · have h := (es_eqn 6 (by omega)).mp h
    refine es_br (fun c => ⟨Or.inl rfl, es_rI ⟨rfl, ?_⟩⟩) (fun c => es_br (fun c2 => ⟨Or.inl rfl, es_rI ⟨rfl, ?_⟩⟩) (fun c2 => ⟨Or.inr rfl, es_rI ⟨rfl, ?_⟩⟩))
    all_goals unfold es_chk
    · have c := es_hlt c
      rw [m99] at c
      rw [decide_eq_false (by omega)]; rfl
    · have c2 := (es_gtn 99 (by omega)).mp c2
      rw [decide_eq_false (by omega)]; rfl
    · have c := es_nlt c
      rw [m99] at c
      have c2 := es_ngtn 99 (by omega) c2
      rw [decide_eq_true (by omega)]; rfl
  · have h0 := es_neqn 0 (by omega) h0
    have h1 := es_neqn 1 (by omega) h1
    have h2 := es_neqn 2 (by omega) h2
    have h3 := es_neqn 3 (by omega) h3
    have h4 := es_neqn 4 (by omega) h4
    have h5 := es_neqn 5 (by omega) h5
    have h6 := es_neqn 6 (by omega) h6
    refine ⟨Or.inl rfl, es_rI ⟨rfl, ?_⟩⟩
    unfold es_chk
    rw [decide_eq_false (by omega)]; rfl
