/-! The reference: kinds and powers. -/
theorem es_bp0 (d : Nat) : ∀ k, es_bp 0 d k = [(0, 1)]
  | 0 => rfl
  | k + 1 => by
    unfold es_bp
    rw [if_neg (by decide), if_neg (by decide), if_neg (by decide)]
    exact es_bp0 d k
theorem es_bp4 (d : Nat) : ∀ k, es_bp 4 d k = [(d, 1)]
  | 0 => rfl
  | k + 1 => by
    unfold es_bp
    rw [if_neg (by decide), if_neg (by decide), if_neg (by decide)]
    exact es_bp4 d k
theorem mo_ts_bd (kind d j : Nat) : ∀ K : Nat, 0 ≤ mo_ts kind d j K ∧ mo_ts kind d j K ≤ 2 * K
  | 0 => ⟨Int.le_refl 0, Int.le_refl 0⟩
  | K + 1 => by
    have ih := mo_ts_bd kind d j K
    have hi : 0 ≤ mo_inc kind K ∧ mo_inc kind K ≤ 2 := by
      unfold mo_inc
      split
      · split <;> omega
      · omega
    unfold mo_ts
    split <;> omega
theorem mo_e1_len {s : Nat} {l : List Int} (hl : l.length = 40) : (mo_e1 s l).length = 40 := by
  unfold mo_e1
  rw [List.length_append, List.length_take, List.length_zipWith, List.length_drop]
  omega
theorem mo_ee_len (d : Nat) : ∀ m, (mo_ee d m).length = 40
  | 0 => rfl
  | m + 1 => mo_e1_len (mo_ee_len d m)
theorem mo_e1_at {s k : Nat} {l : List Int} (hl : l.length = 40) (hk : k < 40) : (mo_e1 s l).getD k 0 = if s ≤ k then l.getD k 0 - l.getD (k - s) 0 else l.getD k 0 := by
  unfold mo_e1
  rw [List.getD_eq_getElem?_getD]
  by_cases e : s ≤ k
  · rw [if_pos e, List.getElem?_append_right (by rw [List.length_take]; omega), List.length_take, List.getElem?_zipWith, List.getElem?_drop, show s + (k - min s l.length) = k by omega, show k - min s l.length = k - s by omega, List.getElem?_eq_getElem (show k < l.length by omega), List.getElem?_eq_getElem (show k - s < l.length by omega), List.getD_eq_getElem?_getD, List.getD_eq_getElem?_getD, List.getElem?_eq_getElem (show k < l.length by omega), List.getElem?_eq_getElem (show k - s < l.length by omega)]
    rfl
  · rw [if_neg e, List.getElem?_append_left (by rw [List.length_take]; omega), List.getElem?_take_of_lt (by omega), ← List.getD_eq_getElem?_getD]
def mo_bd : Nat → Int
  | 0 => 1
  | m + 1 => 2 * mo_bd m
theorem mo_bd_40 : ∀ m, m < 42 → mo_bd m ≤ 4398046511104 := by decide +kernel
theorem mo_ee_bd (d : Nat) : ∀ m k, -mo_bd m ≤ (mo_ee d m).getD k 0 ∧ (mo_ee d m).getD k 0 ≤ mo_bd m
  | 0, k => by
    match k with
    | 0 => exact (show (-1 : Int) ≤ 1 ∧ (1 : Int) ≤ 1 from ⟨by decide, by decide⟩)
    | k + 1 =>
      have : (mo_ee d 0).getD (k + 1) 0 = 0 := by
        show (List.replicate 39 (0 : Int)).getD k 0 = 0
        rw [List.getD_eq_getElem?_getD, List.getElem?_replicate]
        split <;> rfl
      rw [this]
      exact ⟨by decide, by decide⟩
  | m + 1, k => by
    by_cases hk : k < 40
    · have h1 := mo_ee_bd d m k
      have h2 := mo_ee_bd d m (k - d * (m + 1))
      show -(2 * mo_bd m) ≤ (mo_e1 (d * (m + 1)) (mo_ee d m)).getD k 0 ∧ (mo_e1 (d * (m + 1)) (mo_ee d m)).getD k 0 ≤ 2 * mo_bd m
      rw [mo_e1_at (mo_ee_len d m) hk]
      split <;> omega
    · have h1 := mo_ee_bd d m k
      have e : (mo_ee d (m + 1)).getD k 0 = 0 := by
        rw [List.getD_eq_getElem?_getD, List.getElem?_eq_none (by rw [mo_ee_len]; omega)]; rfl
      rw [e]
      show -(2 * mo_bd m) ≤ 0 ∧ 0 ≤ 2 * mo_bd m
      omega
theorem mo_ee_st {d m j : Nat} (hj : j < d * (m + 1)) (hj2 : j < 40) : ∀ t, (mo_ee d (m + t)).getD j 0 = (mo_ee d m).getD j 0
  | 0 => rfl
  | t + 1 => by
    have ih := mo_ee_st hj hj2 t
    show (mo_e1 (d * (m + t + 1)) (mo_ee d (m + t))).getD j 0 = _
    have : d * (m + 1) ≤ d * (m + t + 1) := Nat.mul_le_mul_left d (by omega)
    rw [mo_e1_at (mo_ee_len d _) hj2, if_neg (by omega), ih]
theorem r_euler (dd : Nat) {d n : Nat} (hd : 1 ≤ d) (hd9 : d ≤ 12) (hn1 : 1 ≤ n) (hn : n ≤ 40) {μ : mz_M} (h6 : μ.1 0 6 = nI n) (hz : ∀ j, j < n → (μ.2 4 j).toInt = 0) : es_V (dd + 1) n_Mo_euler [mz_R 16 0, mz_I (nI d), mz_I (nI n)] μ (fun μ' => mo_f (mo_x1 6) (mo_y1 4) μ μ' ∧ mo_ls μ' 4 6 (es_kd 3 d n)) := by
  have v40 : vp_in 0 40 := show vp_in (nI 0) 40 from vp_in_nI (by decide) (by decide)
  refine es_V.mk (w_Mo_euler_0 0 _ _ μ ⟨v40, ?_⟩)
  rw [es_0c]
  have key : ∀ (g m : Nat) (μ' : mz_M), m + g = 40 → mo_f (mo_x1 6) (mo_y1 4) μ μ' → μ'.1 0 6 = nI n → (∀ j, j < n → (μ'.2 4 j).toInt = (mo_ee d m).getD j 0) → v_Mo_euler (es_R dd) (es_qV (fun μ' => mo_f (mo_x1 6) (mo_y1 4) μ μ' ∧ mo_ls μ' 4 6 (es_kd 3 d n))) (9, [(0, mz_R 16 0), (1, mz_I (nI d)), (2, mz_I (nI n)), (3, mz_I (nI (d * (m + 1))))], [], μ') := by
    intro g
    have stop : ∀ (m : Nat) (μ' : mz_M), m ≤ 40 → n ≤ d * (m + 1) → mo_f (mo_x1 6) (mo_y1 4) μ μ' → μ'.1 0 6 = nI n → (∀ j, j < n → (μ'.2 4 j).toInt = (mo_ee d m).getD j 0) → v_Mo_euler (es_R dd) (es_qV (fun μ' => mo_f (mo_x1 6) (mo_y1 4) μ μ' ∧ mo_ls μ' 4 6 (es_kd 3 d n))) (9, [(0, mz_R 16 0), (1, mz_I (nI d)), (2, mz_I (nI n)), (3, mz_I (nI (d * (m + 1))))], [], μ') := by
      intro m μ' hm hle hf h6' hc
      have hdm : d * (m + 1) ≤ 12 * 41 := Nat.mul_le_mul hd9 (by omega)
      refine w_Mo_euler_9 0 _ _ _ μ' (es_t (nI_le hle (by omega)) (es_rV ⟨hf, by unfold es_kd; rw [es_ls_len]; exact hn, by unfold es_kd; rw [es_ls_len]; exact h6', fun j hj => ?_⟩))
      unfold es_kd at hj ⊢
      rw [es_ls_len] at hj
      rw [es_ls_at _ hj, mo_lk_at (mo_k3 d (by omega) hd n (by omega)) hj, hc j hj, ← mo_ee_st (d := d) (m := m) (j := j) (by omega) (by omega) (40 - m), show m + (40 - m) = 40 by omega]
    induction g with
    | zero =>
      intro m μ' hm hf h6' hc
      refine stop m μ' (by omega) ?_ hf h6' hc
      have : 1 * (m + 1) ≤ d * (m + 1) := Nat.mul_le_mul_right _ hd
      omega
    | succ g ih =>
      intro m μ' hm hf h6' hc
      by_cases hle : n ≤ d * (m + 1)
      · exact stop m μ' (by omega) hle hf h6' hc
      · have hs1 : 1 * (m + 1) ≤ d * (m + 1) := Nat.mul_le_mul_right _ hd
        refine w_Mo_euler_9 0 _ _ _ μ' (es_f (nI_ge (by omega) (by omega)) ?_)
        have enx : d * (m + 1) + d = d * (m + 1 + 1) := by rw [Nat.mul_succ d (m + 1)]
        have e1s : ∀ j, j < n → (mo_ee d (m + 1)).getD j 0 = if d * (m + 1) ≤ j then (mo_ee d m).getD j 0 - (mo_ee d m).getD (j - d * (m + 1)) 0 else (mo_ee d m).getD j 0 := fun j hj => mo_e1_at (mo_ee_len d m) (by omega)
        generalize hst : d * (m + 1) = s at hle hs1 enx e1s
        rw [show (1 : Int32) = nI 1 from rfl, pk_sub hn1]
        have hb := mo_bd_40 m (by omega)
        have inner : ∀ (k : Nat) (μ2 : mz_M), s ≤ k + 1 → k < n → mo_f (mo_x1 6) (mo_y1 4) μ μ2 → μ2.1 0 6 = nI n → (∀ j, j < n → (μ2.2 4 j).toInt = if k < j then (mo_ee d (m + 1)).getD j 0 else (mo_ee d m).getD j 0) → v_Mo_euler (es_R dd) (es_qV (fun μ' => mo_f (mo_x1 6) (mo_y1 4) μ μ' ∧ mo_ls μ' 4 6 (es_kd 3 d n))) (19, [(0, mz_R 16 0), (1, mz_I (nI d)), (2, mz_I (nI n)), (3, mz_I (nI s)), (4, mz_I (nI k))], [], μ2) := by
          intro k
          induction k with
          | zero =>
            intro μ2 hsk hkn hf2 h62 hc2
            refine w_Mo_euler_19 0 _ _ _ _ μ2 (es_t (nI_lt (by omega) (by omega)) ?_)
            rw [nI_add, enx]
            refine ih (m + 1) μ2 (by omega) hf2 h62 (fun j hj => ?_)
            rw [hc2 j hj]
            by_cases e : 0 < j
            · rw [if_pos e]
            · rw [if_neg e, e1s j hj, if_neg (by omega)]
          | succ k ihk =>
            intro μ2 hsk hkn hf2 h62 hc2
            by_cases e : k + 1 < s
            · refine w_Mo_euler_19 0 _ _ _ _ μ2 (es_t (nI_lt e (by omega)) ?_)
              rw [nI_add, enx]
              refine ih (m + 1) μ2 (by omega) hf2 h62 (fun j hj => ?_)
              rw [hc2 j hj]
              by_cases e2 : k + 1 < j
              · rw [if_pos e2]
              · rw [if_neg e2, e1s j hj, if_neg (by omega)]
            · refine w_Mo_euler_19 0 _ _ _ _ μ2 (es_f (nI_nlt (by omega) (by omega)) ⟨vp_in_nI (by omega) (by omega), ?_⟩)
              rw [pk_sub (by omega), es_clamp (by omega), es_clamp (by omega), pk_m1]
              refine ⟨vp_in_nI (by omega) (by omega), vp_in_nI (by omega) (by omega), ihk _ (by omega) (by omega) (hf2.wL rfl) h62 (fun j hj => ?_)⟩
              rw [mz_wL_at]
              by_cases e2 : j = k + 1
              · have g1 := mo_ee_bd d m (k + 1)
                have g2 := mo_ee_bd d m (k + 1 - s)
                rw [if_pos ⟨rfl, e2⟩, if_pos (by omega), e2, e1s (k + 1) (by omega), if_pos (by omega)]
                exact es_sub64 (by rw [hc2 (k + 1) (by omega), if_neg (by omega)]) (by rw [hc2 (k + 1 - s) (by omega), if_neg (by omega)]) (by omega) (by omega)
              · rw [if_neg (fun z => e2 z.2), hc2 j hj]
                by_cases e3 : k + 1 < j
                · rw [if_pos e3, if_pos (by omega)]
                · rw [if_neg e3, if_neg (by omega)]
        exact inner (n - 1) μ' (by omega) (by omega) hf h6' (fun j hj => by rw [hc j hj, if_neg (by omega)])
  have := key 40 0 (mz_wL μ 4 0 1) (by omega) (mo_f.rf.wL rfl) h6 (fun j hj => ?_)
  · rw [Nat.zero_add, Nat.mul_one] at this
    exact this
  · rw [mz_wL_at]
    by_cases e : j = 0
    · rw [if_pos ⟨rfl, e⟩, e]; rfl
    · rw [if_neg (fun z => e z.2), hz j hj]
      obtain ⟨i, rfl⟩ : ∃ i, j = i + 1 := ⟨j - 1, by omega⟩
      show (0 : Int) = (List.replicate 39 (0 : Int)).getD i 0
      rw [List.getD_eq_getElem?_getD, List.getElem?_replicate]
      split <;> rfl
def mo_kok (kind d : Nat) : Prop := (kind = 0 ∧ d = 0) ∨ (1 ≤ kind ∧ kind ≤ 3 ∧ 1 ≤ d ∧ d ≤ 12) ∨ (kind = 4 ∧ d ≤ 39)
theorem mo_at_bd {kind d k : Nat} (hd : d ≤ 12) (hk : k < 40) : d * k * k < 20000 ∧ d * k * (k + 1) < 20000 := by
  have h1 : d * k ≤ 12 * 39 := Nat.mul_le_mul hd (by omega)
  have h2 : d * k * k ≤ 12 * 39 * 39 := Nat.mul_le_mul h1 (by omega)
  have h3 : d * k * (k + 1) ≤ 12 * 39 * 40 := Nat.mul_le_mul h1 (by omega)
  omega
theorem r_makes (dd : Nat) {kind d n : Nat} (hk : mo_kok kind d) (hn1 : 1 ≤ n) (hn : n ≤ 40) (μ : mz_M) : es_V (dd + 2) n_Mo_makes [mz_R 16 0, mz_I (nI kind), mz_I (nI d), mz_I (nI n)] μ (fun μ' => mo_f (mo_x1 6) (mo_y1 4) μ μ' ∧ mo_ls μ' 4 6 (es_kd kind d n)) := by
  unfold mo_kok at hk
  have kq : ∀ c : Nat, c < 10 → (nI kind = nI c ↔ kind = c) := fun c hc => nI_eq (by omega) (by omega)
  refine es_V.mk (w_Mo_makes_0 0 _ _ _ μ ?_)
  have fin : ∀ (μ' : mz_M), mo_f (mo_x1 6) (mo_y1 4) μ μ' → μ'.1 0 6 = nI n → (∀ j, j < n → (μ'.2 4 j).toInt = es_pt (es_bp kind d (n - 1)) j) → es_qV (fun μ' => mo_f (mo_x1 6) (mo_y1 4) μ μ' ∧ mo_ls μ' 4 6 (es_kd kind d n)) none μ' := by
    intro μ' hf h6 hc
    refine es_rV ⟨hf, by unfold es_kd; rw [es_ls_len]; exact hn, by unfold es_kd; rw [es_ls_len]; exact h6, fun j hj => ?_⟩
    unfold es_kd at hj ⊢
    rw [es_ls_len] at hj
    rw [es_ls_at _ hj]
    exact hc j hj
  have delta : ∀ (μ' : mz_M), mo_f (mo_x1 6) (mo_y1 4) μ μ' → μ'.1 0 6 = nI n → (∀ j, j < n → (μ'.2 4 j).toInt = 0) → (kind = 0 ∨ kind = 4) → (if (nI n : Int32) ≤ (nI d : Int32) then
          (es_qV (fun μ' => mo_f (mo_x1 6) (mo_y1 4) μ μ' ∧ mo_ls μ' 4 6 (es_kd kind d n)) none μ')
        else
          (vp_in (nI d) 40 ∧ (es_qV (fun μ' => mo_f (mo_x1 6) (mo_y1 4) μ μ' ∧ mo_ls μ' 4 6 (es_kd kind d n)) none (mz_wL μ' 4 (nI d : Int32).toNatClampNeg 1)))) := by
    intro μ' hf h6 hz h04
    have hbp : es_bp kind d (n - 1) = [(d, 1)] := by
      rcases h04 with e | e
      · rw [e, es_bp0, show d = 0 by omega]
      · rw [e, es_bp4]
    refine es_br (fun q => fin μ' hf h6 (fun j hj => ?_)) (fun q => ⟨?_, fin _ (hf.wL rfl) h6 (fun j hj => ?_)⟩)
    · have q := (nI_leI (by omega) (by omega)).mp q
      rw [hbp, hz j hj]
      show (0 : Int) = if j = d then 1 else 0
      rw [if_neg (by omega)]
    · have q : ¬ n ≤ d := fun z => q (nI_le z (by omega))
      exact vp_in_nI (by omega) (by omega)
    · rw [hbp, es_clamp (by omega), mz_wL_at]
      show _ = if j = d then 1 else 0
      by_cases e : j = d
      · rw [if_pos ⟨rfl, e⟩, if_pos e]; rfl
      · rw [if_neg (fun z => e z.2), if_neg e, hz j hj]
  have theta : ∀ (g k : Nat) (μ' : mz_M), k + g = 40 → (kind = 1 ∨ kind = 2) → mo_f (mo_x1 6) (mo_y1 4) μ μ' → μ'.1 0 6 = nI n → (∀ j, j < n → (μ'.2 4 j).toInt = mo_ts kind d j k) → v_Mo_makes (es_R (dd + 1)) (es_qV (fun μ' => mo_f (mo_x1 6) (mo_y1 4) μ μ' ∧ mo_ls μ' 4 6 (es_kd kind d n))) (65, [(0, mz_R 16 0), (1, mz_I (nI kind)), (2, mz_I (nI d)), (3, mz_I (nI n)), (4, mz_I (nI k))], [], μ') := by
    intro g
    induction g with
    | zero =>
      intro k μ' hk2 h12 hf h6 hc
      have hk2 : k = 40 := by omega
      subst hk2
      refine w_Mo_makes_65 0 _ _ _ _ μ' (es_t (nI_le (a := 40) (by omega) (by omega)) (fin μ' hf h6 (fun j hj => ?_)))
      rw [hc j hj]
      have htl : (mo_tl kind d).getD j 0 = mo_ts kind d j 40 := by
        unfold mo_tl
        rw [List.getD_eq_getElem?_getD, List.getElem?_map, List.getElem?_range (by omega)]
        rfl
      rw [← htl]
      rcases h12 with e | e
      · rw [e]
        exact (mo_lk_at (mo_k1 d (by omega) (by omega) n (by omega)) hj).symm
      · rw [e]
        exact (mo_lk_at (mo_k2 d (by omega) (by omega) n (by omega)) hj).symm
    | succ g ih =>
      intro k μ' hk2 h12 hf h6 hc
      have hb := mo_at_bd (kind := kind) (d := d) (k := k) (by omega) (by omega)
      refine w_Mo_makes_65 0 _ _ _ _ μ' (es_f (nI_ge (b := 40) (by omega) (by omega)) ?_)
      have skip : n ≤ mo_at kind d k → v_Mo_makes (es_R (dd + 1)) (es_qV (fun μ' => mo_f (mo_x1 6) (mo_y1 4) μ μ' ∧ mo_ls μ' 4 6 (es_kd kind d n))) (65, [(0, mz_R 16 0), (1, mz_I (nI kind)), (2, mz_I (nI d)), (3, mz_I (nI n)), (4, mz_I (nI k + 1))], [], μ') := by
        intro hle
        rw [nI_1]
        refine ih (k + 1) μ' (by omega) h12 hf h6 (fun j hj => ?_)
        rw [hc j hj, mo_ts, if_neg (by omega)]
      have put : ∀ w : Int64, w.toInt = mo_inc kind k → mo_at kind d k < n → v_Mo_makes (es_R (dd + 1)) (es_qV (fun μ' => mo_f (mo_x1 6) (mo_y1 4) μ μ' ∧ mo_ls μ' 4 6 (es_kd kind d n))) (65, [(0, mz_R 16 0), (1, mz_I (nI kind)), (2, mz_I (nI d)), (3, mz_I (nI n)), (4, mz_I (nI k + 1))], [], mz_wL μ' 4 (mo_at kind d k) (μ'.2 4 (mo_at kind d k) + w)) := by
        intro w hw hlt
        rw [nI_1]
        refine ih (k + 1) _ (by omega) h12 (hf.wL rfl) h6 (fun j hj => ?_)
        rw [mz_wL_at, mo_ts]
        by_cases e : j = mo_at kind d k
        · have tb := mo_ts_bd kind d (mo_at kind d k) k
          have ib : 0 ≤ mo_inc kind k ∧ mo_inc kind k ≤ 2 := by
            unfold mo_inc
            split
            · split <;> omega
            · omega
          rw [if_pos ⟨rfl, e⟩, if_pos e.symm, e]
          exact es_add64 (hc _ hlt) hw (by omega) (by omega)
        · rw [if_neg (fun z => e z.2), if_neg (fun z => e z.symm)]
          exact hc j hj
      have i1 : (1 : Int64).toInt = 1 := by decide +kernel
      have i2 : (2 : Int64).toInt = 2 := by decide +kernel
      rcases h12 with e | e
      · subst e
        have ea : nI d * nI k * nI k = nI (mo_at 1 d k) := by
          rw [pk_mul, pk_mul]
          show _ = nI (d * k * k)
          rfl
        have ab : mo_at 1 d k < 20000 := hb.1
        refine es_t rfl ?_
        rw [ea, es_clamp (by omega)]
        refine es_br (fun q => skip ((nI_leI (by omega) (by omega)).mp q)) (fun q => ?_)
        have q : ¬ n ≤ mo_at 1 d k := fun z => q (nI_le z (by omega))
        have hin : vp_in (nI (mo_at 1 d k)) 40 := vp_in_nI (by omega) (by omega)
        refine ⟨hin, es_t rfl (es_br (fun q2 => ⟨hin, put 1 ?_ (by omega)⟩) (fun q2 => ⟨hin, put 2 ?_ (by omega)⟩))⟩
        · have q2 := (nI_leI (b := 0) (by omega) (by omega)).mp q2
          rw [i1, show k = 0 by omega]; rfl
        · have q2 : ¬ k ≤ 0 := fun z => q2 (nI_le (b := 0) z (by omega))
          rw [i2]
          show (2 : Int) = if (1 : Nat) = 1 then (if k = 0 then 1 else 2) else 1
          rw [if_pos rfl, if_neg (by omega)]
      · subst e
        have ea : nI d * nI k * (nI k + 1) / 2 = nI (mo_at 2 d k) := by
          rw [nI_1, pk_mul, pk_mul, show (2 : Int32) = nI 2 from rfl, pk_div (by omega) (by omega) (by omega)]
          show _ = nI (d * k * (k + 1) / 2)
          rfl
        have ab : mo_at 2 d k < 20000 := by
          show d * k * (k + 1) / 2 < 20000
          omega
        refine es_f (by decide +kernel) ⟨by decide +kernel, ?_⟩
        rw [ea, es_clamp (by omega)]
        refine es_br (fun q => skip ((nI_leI (by omega) (by omega)).mp q)) (fun q => ?_)
        have q : ¬ n ≤ mo_at 2 d k := fun z => q (nI_le z (by omega))
        have hin : vp_in (nI (mo_at 2 d k)) 40 := vp_in_nI (by omega) (by omega)
        exact ⟨hin, es_f (by decide +kernel) ⟨hin, put 1 i1 (by omega)⟩⟩
  have key : ∀ (g k : Nat) (μ' : mz_M), k + g = n → mo_f (mo_x1 6) (mo_y1 4) μ μ' → μ'.1 0 6 = nI n → (∀ j, j < k → (μ'.2 4 j).toInt = 0) → v_Mo_makes (es_R (dd + 1)) (es_qV (fun μ' => mo_f (mo_x1 6) (mo_y1 4) μ μ' ∧ mo_ls μ' 4 6 (es_kd kind d n))) (8, [(0, mz_R 16 0), (1, mz_I (nI kind)), (2, mz_I (nI d)), (3, mz_I (nI n)), (4, mz_I (nI k))], [], μ') := by
    intro g
    induction g with
    | zero =>
      intro k μ' hk2 hf h6 hz
      have hk2 : k = n := by omega
      subst hk2
      refine w_Mo_makes_8 0 _ _ _ _ μ' (es_t (nI_le (by omega) (by omega)) (es_br (fun q => delta μ' hf h6 hz (Or.inl ((kq 0 (by omega)).mp q))) (fun q0 => es_br (fun q => delta μ' hf h6 hz (Or.inr ((kq 4 (by omega)).mp q))) (fun q4 => es_br (fun q => ?_) (fun q3 => ?_)))))
      · have q := (kq 3 (by omega)).mp q
        subst q
        obtain ⟨μ1, hC, hf1, h1⟩ := r_euler dd (d := d) (by omega) (by omega) hn1 hn h6 hz
        exact ⟨_, hC, es_rV ⟨hf.tr hf1, h1⟩⟩
      · have n0 : ¬ kind = 0 := fun z => q0 ((kq 0 (by omega)).mpr z)
        have n4 : ¬ kind = 4 := fun z => q4 ((kq 4 (by omega)).mpr z)
        have n3 : ¬ kind = 3 := fun z => q3 ((kq 3 (by omega)).mpr z)
        exact theta 40 0 μ' (by omega) (by omega) hf h6 (fun j hj => hz j hj)
    | succ g ih =>
      intro k μ' hk2 hf h6 hz
      refine w_Mo_makes_8 0 _ _ _ _ μ' (es_f (nI_ge (by omega) (by omega)) ⟨vp_in_nI (by omega) (by omega), ?_⟩)
      rw [es_clamp (by omega), nI_1]
      refine ih (k + 1) _ (by omega) (hf.wL rfl) h6 (fun j hj => ?_)
      rw [mz_wL_at]
      by_cases e : j = k
      · rw [if_pos ⟨rfl, e⟩]; rfl
      · rw [if_neg (fun z => e z.2)]
        exact hz j (by omega)
  exact key n 0 _ (by omega) (mo_f.rf.wI ⟨rfl, rfl⟩) (by rw [mz_wI_at, if_pos ⟨rfl, rfl⟩]) (fun j hj => absurd hj (Nat.not_lt_zero j))
