/-! Kinds, changes. -/
/-- what a row holds behind writes, the latest first -/
def es_pt : List (Nat × Int) → Nat → Int
  | [], _ => 0
  | q :: r, j => if j = q.1 then q.2 else es_pt r j
/-- the writes of a kind: 0 one, 1 theta, 2 psi, 3 euler, 4 q -/
def es_bp (kind d : Nat) : Nat → List (Nat × Int)
  | 0 => [(if kind = 4 then d else 0, 1)]
  | k + 1 => if kind = 1 then (d * (k + 1) * (k + 1), 2) :: es_bp kind d k
    else if kind = 2 then (d * (k + 1) * (k + 1 + 1) / 2, 1) :: es_bp kind d k
    else if kind = 3 then (d * ((k + 1) * (3 * (k + 1) + 1) / 2), if (k + 1) % 2 = 0 then 1 else -1) :: (d * ((k + 1) * (3 * (k + 1) - 1) / 2), if (k + 1) % 2 = 0 then 1 else -1) :: es_bp kind d k
    else es_bp kind d k
def es_kd (kind d n : Nat) : List Int := es_ls n (es_pt (es_bp kind d (n - 1)))
theorem es_pt_bd {ps : List (Nat × Int)} (h : ∀ q ∈ ps, -2 ≤ q.2 ∧ q.2 ≤ 2) : ∀ j, -2 ≤ es_pt ps j ∧ es_pt ps j ≤ 2 := by
  intro j
  induction ps with
  | nil => exact ⟨show (-2 : Int) ≤ 0 by decide, show (0 : Int) ≤ 2 by decide⟩
  | cons q r ih =>
    unfold es_pt
    by_cases e : j = q.1
    · rw [if_pos e]; exact h q List.mem_cons_self
    · rw [if_neg e]; exact ih (fun z hz => h z (List.mem_cons_of_mem _ hz))
theorem es_bp_bd (kind d : Nat) : ∀ k, ∀ q ∈ es_bp kind d k, -2 ≤ q.2 ∧ q.2 ≤ 2
  | 0, q, h => by
    rcases List.mem_cons.mp h with rfl | h
    · exact ⟨show (-2 : Int) ≤ 1 by decide, show (1 : Int) ≤ 2 by decide⟩
    · cases h
  | k + 1, q, h => by
    have ih := es_bp_bd kind d k
    unfold es_bp at h
    split at h
    · rcases List.mem_cons.mp h with rfl | h
      · exact ⟨show (-2 : Int) ≤ 2 by decide, show (2 : Int) ≤ 2 by decide⟩
      · exact ih q h
    · split at h
      · rcases List.mem_cons.mp h with rfl | h
        · exact ⟨show (-2 : Int) ≤ 1 by decide, show (1 : Int) ≤ 2 by decide⟩
        · exact ih q h
      · split at h
        · rcases List.mem_cons.mp h with rfl | h
          · dsimp only
            split <;> decide
          · rcases List.mem_cons.mp h with rfl | h
            · dsimp only
              split <;> decide
            · exact ih q h
        · exact ih q h
theorem s_putp (d : Nat) {p n j : Nat} {v : Int64} {w : Int} {μ : mz_M} {ps : List (Nat × Int)} (h : es_raw μ p n (es_pt ps)) (hj : j < 2147483648) (hw : v.toInt = w) (hb : -2 ≤ w ∧ w ≤ 2) : es_V (d + 1) n_Row_put [mz_R 3 p, mz_I (nI j), mz_L v] μ (fun μ' => es_fr (es_2 p) μ μ' ∧ es_raw μ' p n (es_pt ((j, w) :: ps))) := by
  refine (s_put_n d h hj (by omega)).mono (fun μ' q => ⟨q.1, q.2.cong (fun k hk => ?_)⟩)
  rw [hw]; rfl
theorem es_par (k : Nat) : (nI k &&& 1 = 0) ↔ k % 2 = 0 := by
  rw [show (1 : Int32) = nI (2 ^ 1 - 1) from rfl, fa_mask]
  constructor
  · intro h
    have := (nI_eq (a := k % 2 ^ 1) (b := 0) (by omega) (by omega)).mp h
    omega
  · intro h
    rw [show k % 2 ^ 1 = 0 by omega]; rfl
set_option maxHeartbeats 1000000 in
theorem s_become (d : Nat) {p kind dd n : Nat} (hk : kind ≤ 4) (hd : dd ≤ 39) (hn : n ≤ 40) (hn1 : 1 ≤ n) (μ : mz_M) : es_V (d + 3) n_Row_become [mz_R 3 p, mz_I (nI kind), mz_I (nI dd), mz_I (nI n)] μ (fun μ' => es_fr (es_2 p) μ μ' ∧ es_row μ' p (es_kd kind dd n)) := by
  refine es_V.mk (w_Row_become_0 p (nI kind) (nI dd) (nI n) μ ?_)
  obtain ⟨μ1, hC, hf, hr⟩ := s_begin d (p := p) hn μ
  refine ⟨_, hC, ?_⟩
  have b39 : ∀ a b c : Nat, a ≤ 39 → b ≤ 40 → c ≤ 121 → a * (b * c) ≤ 39 * (40 * 121) := fun a b c h1 h2 h3 => Nat.mul_le_mul h1 (Nat.mul_le_mul h2 h3)
  have key : ∀ (g k : Nat) (μ' : mz_M), n - k ≤ g → 1 ≤ k → k ≤ n → es_fr (es_2 p) μ μ' → es_raw μ' p n (es_pt (es_bp kind dd (k - 1))) → v_Row_become (es_R (d + 2)) (es_qV (fun μ' => es_fr (es_2 p) μ μ' ∧ es_row μ' p (es_kd kind dd n))) (23, [(0, mz_R 3 p), (1, mz_I (nI kind)), (2, mz_I (nI dd)), (4, mz_I (nI k))], [], μ') := by
    have fin : ∀ μ', es_fr (es_2 p) μ μ' → es_raw μ' p n (es_pt (es_bp kind dd (n - 1))) → es_fr (es_2 p) μ μ' ∧ es_row μ' p (es_kd kind dd n) := by
      intro μ' hf hr
      refine ⟨hf, hr.row (es_ls_len _ _) (fun k hk => (es_ls_at _ hk).symm) (fun k _ => ?_)⟩
      have := es_pt_bd (es_bp_bd kind dd (n - 1)) k
      omega
    intro g
    induction g with
    | zero =>
      intro k μ' hg h1 hk2 hf hr
      have hkn : k = n := by omega
      subst hkn
      exact w_Row_become_23 p _ _ _ μ' (es_t (by rw [hr.2.1]; exact nI_le (by omega) (by omega)) (es_rV (fin μ' hf hr)))
    | succ g ih =>
      intro k μ' hg h1 hk2 hf hr
      by_cases hkn : k = n
      · subst hkn
        exact w_Row_become_23 p _ _ _ μ' (es_t (by rw [hr.2.1]; exact nI_le (by omega) (by omega)) (es_rV (fin μ' hf hr)))
      · obtain ⟨j, rfl⟩ : ∃ j, k = j + 1 := ⟨k - 1, by omega⟩
        rw [Nat.add_sub_cancel] at hr
        refine w_Row_become_23 p _ _ _ μ' (es_f (by rw [hr.2.1]; exact nI_ge (by omega) (by omega)) ?_)
        have nx : ∀ (μ2 : mz_M), es_fr (es_2 p) μ' μ2 → es_raw μ2 p n (es_pt (es_bp kind dd (j + 1))) → v_Row_become (es_R (d + 2)) (es_qV (fun μ' => es_fr (es_2 p) μ μ' ∧ es_row μ' p (es_kd kind dd n))) (23, [(0, mz_R 3 p), (1, mz_I (nI kind)), (2, mz_I (nI dd)), (4, mz_I (nI (j + 1) + 1))], [], μ2) := by
          intro μ2 hf2 hr2
          rw [nI_1]
          exact ih (j + 1 + 1) μ2 (by omega) (by omega) (by omega) (hf.tr hf2) hr2
        have kq : ∀ c : Nat, c < 5 → (nI kind = nI c ↔ kind = c) := fun c hc => nI_eq (by omega) (by omega)
        refine es_br (fun q => ?_) (fun q => es_br (fun q2 => ⟨by decide +kernel, ?_⟩) (fun q2 => es_br (fun q3 => ?_) (fun q3 => ?_)))
        · have q := (kq 1 (by omega)).mp q
          have hb := b39 dd (j + 1) (j + 1) hd (by omega) (by omega)
          rw [pk_mul, pk_mul]
          obtain ⟨μ2, hD, hf2, hr2⟩ := s_putp (d + 1) (p := p) (j := dd * (j + 1) * (j + 1)) (v := 2) (w := 2) hr (by rw [Nat.mul_assoc]; omega) (by decide +kernel) (by omega)
          refine ⟨_, hD, nx μ2 hf2 ?_⟩
          unfold es_bp
          rw [if_pos q]
          exact hr2
        · have q2 := (kq 2 (by omega)).mp q2
          have hb := b39 dd (j + 1) (j + 1 + 1) hd (by omega) (by omega)
          have e : nI dd * nI (j + 1) * (nI (j + 1) + 1) / 2 = nI (dd * (j + 1) * (j + 1 + 1) / 2) := by
            rw [nI_1, pk_mul, pk_mul, show (2 : Int32) = nI 2 from rfl, pk_div (by rw [Nat.mul_assoc]; omega) (by omega) (by omega)]
          rw [e]
          have hlt : dd * (j + 1) * (j + 1 + 1) / 2 < 2147483648 := by
            have := Nat.div_le_self (dd * (j + 1) * (j + 1 + 1)) 2
            rw [Nat.mul_assoc] at this ⊢
            omega
          obtain ⟨μ2, hD, hf2, hr2⟩ := s_putp (d + 1) (p := p) (j := dd * (j + 1) * (j + 1 + 1) / 2) (v := 1) (w := 1) hr hlt (by decide +kernel) (by omega)
          refine ⟨_, hD, nx μ2 hf2 ?_⟩
          unfold es_bp
          rw [if_neg (by omega), if_pos q2]
          exact hr2
        · have q3 := (kq 3 (by omega)).mp q3
          have e1 : nI dd * (nI (j + 1) * (3 * nI (j + 1) - 1) / 2) = nI (dd * ((j + 1) * (3 * (j + 1) - 1) / 2)) := by
            have hb : (j + 1) * (3 * (j + 1) - 1) ≤ 40 * 121 := Nat.mul_le_mul (by omega) (by omega)
            rw [show (3 : Int32) = nI 3 from rfl, show (1 : Int32) = nI 1 from rfl, pk_mul, pk_sub (by omega), pk_mul, show (2 : Int32) = nI 2 from rfl, pk_div (by omega) (by omega) (by omega), pk_mul]
          have e2 : nI dd * (nI (j + 1) * (3 * nI (j + 1) + 1) / 2) = nI (dd * ((j + 1) * (3 * (j + 1) + 1) / 2)) := by
            have hb : (j + 1) * (3 * (j + 1) + 1) ≤ 40 * 121 := Nat.mul_le_mul (by omega) (by omega)
            rw [show (3 : Int32) = nI 3 from rfl, pk_mul, nI_1, pk_mul, show (2 : Int32) = nI 2 from rfl, pk_div (by omega) (by omega) (by omega), pk_mul]
          have l1 : dd * ((j + 1) * (3 * (j + 1) - 1) / 2) < 2147483648 := by
            have h1 : (j + 1) * (3 * (j + 1) - 1) ≤ 40 * 121 := Nat.mul_le_mul (by omega) (by omega)
            have h2 : dd * ((j + 1) * (3 * (j + 1) - 1) / 2) ≤ 39 * (40 * 121) := Nat.mul_le_mul hd (by omega)
            omega
          have l2 : dd * ((j + 1) * (3 * (j + 1) + 1) / 2) < 2147483648 := by
            have h1 : (j + 1) * (3 * (j + 1) + 1) ≤ 40 * 121 := Nat.mul_le_mul (by omega) (by omega)
            have h2 : dd * ((j + 1) * (3 * (j + 1) + 1) / 2) ≤ 39 * (40 * 121) := Nat.mul_le_mul hd (by omega)
            omega
          rw [e1, e2]
          refine es_br (fun q4 => ⟨by decide +kernel, ?_⟩) (fun q4 => ⟨by decide +kernel, ?_⟩)
          · rw [es_par] at q4
            obtain ⟨μ2, hD, hf2, hr2⟩ := s_putp (d + 1) (p := p) (v := (1 : Int32).toInt64) (w := 1) hr l1 (by decide +kernel) (by omega)
            refine ⟨_, hD, by decide +kernel, ?_⟩
            obtain ⟨μ3, hE, hf3, hr3⟩ := s_putp (d + 1) (p := p) (v := (1 : Int32).toInt64) (w := 1) hr2 l2 (by decide +kernel) (by omega)
            refine ⟨_, hE, nx μ3 (hf2.tr hf3) ?_⟩
            unfold es_bp
            rw [if_neg (by omega), if_neg (by omega), if_pos q3, if_pos q4]
            exact hr3
          · rw [es_par] at q4
            obtain ⟨μ2, hD, hf2, hr2⟩ := s_putp (d + 1) (p := p) (v := (-1 : Int32).toInt64) (w := -1) hr l1 (by decide +kernel) (by omega)
            refine ⟨_, hD, by decide +kernel, ?_⟩
            obtain ⟨μ3, hE, hf3, hr3⟩ := s_putp (d + 1) (p := p) (v := (-1 : Int32).toInt64) (w := -1) hr2 l2 (by decide +kernel) (by omega)
            refine ⟨_, hE, nx μ3 (hf2.tr hf3) ?_⟩
            unfold es_bp
            rw [if_neg (by omega), if_neg (by omega), if_pos q3, if_neg q4]
            exact hr3
        · refine nx μ' es_fr.rf ?_
          unfold es_bp
          rw [if_neg (fun z => q ((kq 1 (by omega)).mpr z)), if_neg (fun z => q2 ((kq 2 (by omega)).mpr z)), if_neg (fun z => q3 ((kq 3 (by omega)).mpr z))]
          exact hr
  have hr0 : es_raw μ1 p n (es_pt []) := hr
  refine es_br (fun q => ?_) (fun q => ?_)
  · have q : kind = 4 := (nI_eq (a := kind) (b := 4) (by omega) (by omega)).mp q
    obtain ⟨μ2, hD, hf2, hr2⟩ := s_putp (d + 1) (p := p) (j := dd) (v := 1) (w := 1) hr0 (by omega) (by decide +kernel) (by omega)
    refine ⟨_, hD, key n 1 μ2 (by omega) (by omega) (by omega) (hf.tr hf2) ?_⟩
    show es_raw μ2 p n (es_pt [(if kind = 4 then dd else 0, 1)])
    rw [if_pos q]
    exact hr2
  · have q : ¬ kind = 4 := fun z => q ((nI_eq (a := kind) (b := 4) (by omega) (by omega)).mpr z)
    obtain ⟨μ2, hD, hf2, hr2⟩ := s_putp (d + 1) (p := p) (j := 0) (v := 1) (w := 1) hr0 (by omega) (by decide +kernel) (by omega)
    refine ⟨_, hD, key n 1 μ2 (by omega) (by omega) (by omega) (hf.tr hf2) ?_⟩
    show es_raw μ2 p n (es_pt [(if kind = 4 then dd else 0, 1)])
    rw [if_neg q]
    exact hr2
