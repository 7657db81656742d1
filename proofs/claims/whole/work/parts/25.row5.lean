/-! Changes of a row: up, stretched, turned, cut, fold; a part. -/
def es_cf (act : Nat) (v : Int) (l : List Int) (j : Nat) : Int :=
  if act = 0 then (if v.toNat ≤ j then l.getD (j - v.toNat) 0 else 0)
  else if act = 1 then (if j % v.toNat = 0 then l.getD (j / v.toNat) 0 else 0)
  else if act = 2 then (if j % 2 = 0 then l.getD j 0 else -l.getD j 0)
  else if act = 4 then l.getD j 0
  else l.getD j 0 * v
theorem es_cf_bd {act : Nat} {v : Int} {l : List Int} (hl : ∀ k, -100000000 ≤ l.getD k 0 ∧ l.getD k 0 ≤ 100000000) (ha : act = 0 ∨ act = 1 ∨ act = 2 ∨ act = 4) (j : Nat) : es_big (es_cf act v l j) = false := by
  have h1 := hl j
  have h2 := hl (j - v.toNat)
  have h3 := hl (j / v.toNat)
  unfold es_big
  apply decide_eq_false
  unfold es_cf
  rcases ha with rfl | rfl | rfl | rfl
  · rw [if_pos rfl]; split <;> omega
  · rw [if_neg (by decide), if_pos rfl]; split <;> omega
  · rw [if_neg (by decide), if_neg (by decide), if_pos rfl]; split <;> omega
  · rw [if_neg (by decide), if_neg (by decide), if_neg (by decide), if_pos rfl]; omega
set_option maxHeartbeats 1000000 in
theorem s_changed (d : Nat) {p p3 act : Nat} {v : Int32} {μ : mz_M} {l : List Int} (h : es_row μ p3 l) (e : es_sep p p3)
    (ha : (act = 0 ∧ 0 ≤ v.toInt ∧ v.toInt ≤ 9) ∨ (act = 1 ∧ 1 ≤ v.toInt ∧ v.toInt ≤ 8) ∨ act = 2 ∨ (act = 4 ∧ 0 ≤ v.toInt ∧ v.toInt ≤ l.length) ∨ (act = 6 ∧ -99 ≤ v.toInt ∧ v.toInt ≤ 99)) :
    es_I (d + 3) n_Row_becomeChanged [mz_R 3 p, mz_I (nI act), mz_I v, mz_R 3 p3] μ (es_res p (if act = 4 then v.toInt.toNat else l.length) (es_cf act v.toInt l) μ) := by
  have c1 := h.1.1
  have aq : ∀ c : Nat, c < 10 → (nI act = nI c ↔ act = c) := fun c hc => nI_eq (by omega) (by omega)
  have hact : act < 7 ∧ act ≠ 3 ∧ act ≠ 5 := by omega
  generalize hn : (if act = 4 then v.toInt.toNat else l.length) = n
  have hn40 : n ≤ 40 ∧ n ≤ l.length := by
    rw [← hn]
    split
    · omega
    · omega
  have loop : ∀ (F : Nat → Nat → Int), (∀ (k : Nat) (μ' : mz_M), k < l.length → es_fr (es_2 p) μ μ' → es_raw μ' p n (F k) → (∀ j, j < k → act = 6 → es_big (es_cf act v.toInt l j) = false) → (∀ μ2, es_fr (es_2 p) μ' μ2 → es_raw μ2 p n (F (k + 1)) → (act = 6 → es_big (es_cf act v.toInt l k) = false) → v_Row_becomeChanged (es_R (d + 2)) (es_qI (es_res p n (es_cf act v.toInt l) μ)) (39, [(0, mz_R 3 p), (1, mz_I (nI act)), (2, mz_I v), (3, mz_R 3 p3), (4, mz_I (nI k + 1))], [], μ2)) →
        ∃ (r2 : Int32) (μ1 : mz_M), es_R (d + 2) n_Row_at [mz_R 3 p3, mz_I (nI k)] μ' (some (mz_I r2)) μ1 ∧
        (if nI act = (0 : Int32) then
          (∃ μ3, es_R (d + 2) n_Row_put [mz_R 3 p, mz_I (nI k + v), mz_L r2.toInt64] μ1 none μ3 ∧
            (v_Row_becomeChanged (es_R (d + 2)) (es_qI (es_res p n (es_cf act v.toInt l) μ)) (39, [(0, mz_R 3 p), (1, mz_I (nI act)), (2, mz_I v), (3, mz_R 3 p3), (4, mz_I (nI k + 1))], [], μ3)))
        else
          (if nI act = (1 : Int32) then
            (∃ μ4, es_R (d + 2) n_Row_put [mz_R 3 p, mz_I (nI k * v), mz_L r2.toInt64] μ1 none μ4 ∧
              (v_Row_becomeChanged (es_R (d + 2)) (es_qI (es_res p n (es_cf act v.toInt l) μ)) (39, [(0, mz_R 3 p), (1, mz_I (nI act)), (2, mz_I v), (3, mz_R 3 p3), (4, mz_I (nI k + 1))], [], μ4)))
          else
            (if nI act = (2 : Int32) then
              (if nI k &&& 1 = (0 : Int32) then
                (∃ μ5, es_R (d + 2) n_Row_put [mz_R 3 p, mz_I (nI k), mz_L r2.toInt64] μ1 none μ5 ∧
                  (v_Row_becomeChanged (es_R (d + 2)) (es_qI (es_res p n (es_cf act v.toInt l) μ)) (39, [(0, mz_R 3 p), (1, mz_I (nI act)), (2, mz_I v), (3, mz_R 3 p3), (4, mz_I (nI k + 1))], [], μ5)))
              else
                (∃ μ6, es_R (d + 2) n_Row_put [mz_R 3 p, mz_I (nI k), mz_L (-r2.toInt64)] μ1 none μ6 ∧
                  (v_Row_becomeChanged (es_R (d + 2)) (es_qI (es_res p n (es_cf act v.toInt l) μ)) (39, [(0, mz_R 3 p), (1, mz_I (nI act)), (2, mz_I v), (3, mz_R 3 p3), (4, mz_I (nI k + 1))], [], μ6))))
            else
              (if nI act = (4 : Int32) then
                (∃ μ7, es_R (d + 2) n_Row_put [mz_R 3 p, mz_I (nI k), mz_L r2.toInt64] μ1 none μ7 ∧
                  (v_Row_becomeChanged (es_R (d + 2)) (es_qI (es_res p n (es_cf act v.toInt l) μ)) (39, [(0, mz_R 3 p), (1, mz_I (nI act)), (2, mz_I v), (3, mz_R 3 p3), (4, mz_I (nI k + 1))], [], μ7)))
              else
                (∃ (r9 : Int32) (μ8 : mz_M), es_R (d + 2) n_ES_isWide [mz_L (r2.toInt64 * v.toInt64)] μ1 (some (mz_I r9)) μ8 ∧
                  (if r9 = (0 : Int32) then
                    (∃ μ10, es_R (d + 2) n_Row_put [mz_R 3 p, mz_I (nI k), mz_L (r2.toInt64 * v.toInt64)] μ8 none μ10 ∧
                      (v_Row_becomeChanged (es_R (d + 2)) (es_qI (es_res p n (es_cf act v.toInt l) μ)) (39, [(0, mz_R 3 p), (1, mz_I (nI act)), (2, mz_I v), (3, mz_R 3 p3), (4, mz_I (nI k + 1))], [], μ10)))
                  else
                    (es_qI (es_res p n (es_cf act v.toInt l) μ) (some (mz_I (-1000005))) μ8)))))))) →
      (∀ j, j < n → F l.length j = es_cf act v.toInt l j) → (∀ j, j < n → F 0 j = 0) →
      ∀ μ1, es_fr (es_2 p) μ μ1 → es_raw μ1 p n (fun _ => 0) → v_Row_becomeChanged (es_R (d + 2)) (es_qI (es_res p n (es_cf act v.toInt l) μ)) (39, [(0, mz_R 3 p), (1, mz_I (nI act)), (2, mz_I v), (3, mz_R 3 p3), (4, mz_I 0)], [], μ1) := by
    intro F hst hF1 hF0 μ1 hf1 hr1
    have key : ∀ (g k : Nat) (μ' : mz_M), l.length - k ≤ g → k ≤ l.length → es_fr (es_2 p) μ μ' → es_raw μ' p n (F k) → (∀ j, j < k → act = 6 → es_big (es_cf act v.toInt l j) = false) → v_Row_becomeChanged (es_R (d + 2)) (es_qI (es_res p n (es_cf act v.toInt l) μ)) (39, [(0, mz_R 3 p), (1, mz_I (nI act)), (2, mz_I v), (3, mz_R 3 p3), (4, mz_I (nI k))], [], μ') := by
      have stop : ∀ (k : Nat) (μ' : mz_M), k = l.length → es_fr (es_2 p) μ μ' → es_raw μ' p n (F k) → (∀ j, j < k → act = 6 → es_big (es_cf act v.toInt l j) = false) → v_Row_becomeChanged (es_R (d + 2)) (es_qI (es_res p n (es_cf act v.toInt l) μ)) (39, [(0, mz_R 3 p), (1, mz_I (nI act)), (2, mz_I v), (3, mz_R 3 p3), (4, mz_I (nI k))], [], μ') := by
        intro k μ' hk hf hr hb
        subst hk
        refine w_Row_becomeChanged_39 p _ v p3 _ μ' (es_t ?_ (es_rI (es_res.done hf (hr.cong hF1) (fun j hj => ?_))))
        · rw [(h.kept hf e.n1 e.n2).2.1]
          exact nI_le (by omega) (by omega)
        · by_cases h6 : act = 6
          · exact hb j (by omega) h6
          · exact es_cf_bd h.bd (by omega) j
      intro g
      induction g with
      | zero => exact fun k μ' hg hk hf hr hb => stop k μ' (by omega) hf hr hb
      | succ g ih =>
        intro k μ' hg hk hf hr hb
        by_cases hkn : k = l.length
        · exact stop k μ' hkn hf hr hb
        · refine w_Row_becomeChanged_39 p _ v p3 _ μ' (es_f ?_ ?_)
          · rw [(h.kept hf e.n1 e.n2).2.1]
            exact nI_ge (by omega) (by omega)
          · refine hst k μ' (by omega) hf hr hb (fun μ2 hf2 hr2 hb2 => ?_)
            rw [nI_1]
            refine ih (k + 1) μ2 (by omega) (by omega) (hf.tr hf2) hr2 (fun j hj h6 => ?_)
            by_cases ej : j = k
            · rw [ej]; exact hb2 h6
            · exact hb j (by omega) h6
    exact key l.length 0 μ1 (by omega) (by omega) hf1 (hr1.cong (fun j hj => (hF0 j hj).symm)) (fun j hj => by omega)
  have hv32 : ∀ (r : Int32) (k : Nat), r.toInt = l.getD k 0 → -2147483648 ≤ r.toInt64.toInt ∧ r.toInt64.toInt < 2147483648 := by
    intro r k hr
    have := h.bd k
    rw [es_i2l, hr]
    omega
  have all : ∀ μ1, es_fr (es_2 p) μ μ1 → es_raw μ1 p n (fun _ => 0) → v_Row_becomeChanged (es_R (d + 2)) (es_qI (es_res p n (es_cf act v.toInt l) μ)) (39, [(0, mz_R 3 p), (1, mz_I (nI act)), (2, mz_I v), (3, mz_R 3 p3), (4, mz_I 0)], [], μ1) := by
    rcases ha with ⟨rfl, a1, a2⟩ | ⟨rfl, a1, a2⟩ | rfl | ⟨rfl, a1, a2⟩ | ⟨rfl, a1, a2⟩
    · obtain ⟨w, hw, rfl⟩ : ∃ w : Nat, w ≤ 9 ∧ v = nI w := ⟨v.toInt.toNat, by omega, es_nIof a1⟩
      have hwi : (nI w).toInt = w := nI_toInt (by omega)
      refine loop (fun k j => if w ≤ j ∧ j - w < k then l.getD (j - w) 0 else 0) (fun k μ' hk hf hr hb nx => ?_) (fun j hj => ?_) (fun j hj => if_neg (by omega))
      · obtain ⟨r, hA, hr2⟩ := es_pur (s_at_n (d + 1) (k := k) (h.kept hf e.n1 e.n2) (by omega))
        refine ⟨_, _, hA, es_t rfl ?_⟩
        rw [nI_add]
        obtain ⟨μ2, hD, hf2, hr3⟩ := s_put_n (d + 1) (j := k + w) hr (by omega) (hv32 r k hr2)
        refine ⟨_, hD, nx μ2 hf2 (hr3.cong (fun j hj => ?_)) (by omega)⟩
        rw [es_i2l, hr2]
        by_cases c : j = k + w
        · rw [if_pos c, if_pos (by omega), show j - w = k by omega]
        · rw [if_neg c]
          by_cases c2 : w ≤ j ∧ j - w < k
          · rw [if_pos c2, if_pos (by omega)]
          · rw [if_neg c2, if_neg (by omega)]
      · have ecf : es_cf 0 (nI w).toInt l j = if w ≤ j then l.getD (j - w) 0 else 0 := by rw [hwi]; rfl
        rw [ecf]
        show (if w ≤ j ∧ j - w < l.length then _ else _) = if w ≤ j then _ else _
        by_cases c : w ≤ j
        · rw [if_pos (show w ≤ j ∧ j - w < l.length by omega), if_pos c]
        · rw [if_neg (show ¬ (w ≤ j ∧ j - w < l.length) by omega), if_neg c]
    · obtain ⟨w, hw, rfl⟩ : ∃ w : Nat, (1 ≤ w ∧ w ≤ 8) ∧ v = nI w := ⟨v.toInt.toNat, by omega, es_nIof (by omega)⟩
      have hwi : (nI w).toInt = w := nI_toInt (by omega)
      refine loop (fun k j => if j % w = 0 ∧ j / w < k then l.getD (j / w) 0 else 0) (fun k μ' hk hf hr hb nx => ?_) (fun j hj => ?_) (fun j hj => if_neg (fun z => absurd z.2 (Nat.not_lt_zero _)))
      · obtain ⟨r, hA, hr2⟩ := es_pur (s_at_n (d + 1) (k := k) (h.kept hf e.n1 e.n2) (by omega))
        refine ⟨_, _, hA, es_f (by decide +kernel) (es_t rfl ?_)⟩
        rw [pk_mul]
        have hkw : k * w ≤ 40 * 8 := Nat.mul_le_mul (by omega) (by omega)
        obtain ⟨μ2, hD, hf2, hr3⟩ := s_put_n (d + 1) (j := k * w) hr (by omega) (hv32 r k hr2)
        refine ⟨_, hD, nx μ2 hf2 (hr3.cong (fun j hj => ?_)) (by omega)⟩
        rw [es_i2l, hr2]
        by_cases c : j = k * w
        · have q1 : j % w = 0 := by rw [c]; exact Nat.mul_mod_left k w
          have q2 : j / w = k := by rw [c]; exact Nat.mul_div_cancel k (by omega)
          rw [if_pos c, if_pos ⟨q1, by omega⟩, q2]
        · rw [if_neg c]
          have q3 : ¬ (j % w = 0 ∧ j / w = k) := by
            intro z
            have := Nat.div_add_mod j w
            rw [z.1, z.2, Nat.mul_comm] at this
            omega
          by_cases c2 : j % w = 0 ∧ j / w < k
          · rw [if_pos c2, if_pos ⟨c2.1, by omega⟩]
          · rw [if_neg c2, if_neg (fun z => c2 ⟨z.1, by
              have : ¬ j / w = k := fun q => q3 ⟨z.1, q⟩
              omega⟩)]
      · have ecf : es_cf 1 (nI w).toInt l j = if j % w = 0 then l.getD (j / w) 0 else 0 := by rw [hwi]; rfl
        rw [ecf]
        show (if j % w = 0 ∧ j / w < l.length then _ else _) = if j % w = 0 then _ else _
        have hlt : j / w < l.length := by
          have := Nat.div_le_self j w
          omega
        by_cases c : j % w = 0
        · rw [if_pos ⟨c, hlt⟩, if_pos c]
        · rw [if_neg (fun z => c z.1), if_neg c]
    · refine loop (fun k j => if j < k then (if j % 2 = 0 then l.getD j 0 else -l.getD j 0) else 0) (fun k μ' hk hf hr hb nx => ?_) (fun j hj => ?_) (fun j hj => if_neg (by omega))
      · obtain ⟨r, hA, hr2⟩ := es_pur (s_at_n (d + 1) (k := k) (h.kept hf e.n1 e.n2) (by omega))
        refine ⟨_, _, hA, es_f (by decide +kernel) (es_f (by decide +kernel) (es_t rfl (es_br (fun c => ?_) (fun c => ?_))))⟩
        · rw [es_par] at c
          obtain ⟨μ2, hD, hf2, hr3⟩ := s_put_n (d + 1) (j := k) hr (by omega) (hv32 r k hr2)
          refine ⟨_, hD, nx μ2 hf2 (hr3.cong (fun j hj => ?_)) (by omega)⟩
          rw [es_i2l, hr2]
          by_cases q : j = k
          · rw [if_pos q, if_pos (show j < k + 1 by omega), if_pos (show j % 2 = 0 by omega), q]
          · rw [if_neg q]
            by_cases q2 : j < k
            · rw [if_pos q2, if_pos (show j < k + 1 by omega)]
            · rw [if_neg q2, if_neg (show ¬ j < k + 1 by omega)]
        · rw [es_par] at c
          have bd := h.bd k
          have hneg : (-r.toInt64).toInt = -l.getD k 0 := by
            rw [Int64.toInt_neg, es_i2l, hr2, es_bm64 (by omega) (by omega)]
          obtain ⟨μ2, hD, hf2, hr3⟩ := s_put_n (d + 1) (j := k) (v := -r.toInt64) hr (by omega) (by rw [hneg]; omega)
          refine ⟨_, hD, nx μ2 hf2 (hr3.cong (fun j hj => ?_)) (by omega)⟩
          rw [hneg]
          by_cases q : j = k
          · rw [if_pos q, if_pos (show j < k + 1 by omega), if_neg (show ¬ j % 2 = 0 by omega), q]
          · rw [if_neg q]
            by_cases q2 : j < k
            · rw [if_pos q2, if_pos (show j < k + 1 by omega)]
            · rw [if_neg q2, if_neg (show ¬ j < k + 1 by omega)]
      · exact if_pos (show j < l.length by omega)
    · refine loop (fun k j => if j < k then l.getD j 0 else 0) (fun k μ' hk hf hr hb nx => ?_) (fun j hj => ?_) (fun j hj => if_neg (by omega))
      · obtain ⟨r, hA, hr2⟩ := es_pur (s_at_n (d + 1) (k := k) (h.kept hf e.n1 e.n2) (by omega))
        refine ⟨_, _, hA, es_f (by decide +kernel) (es_f (by decide +kernel) (es_f (by decide +kernel) (es_t rfl ?_)))⟩
        obtain ⟨μ2, hD, hf2, hr3⟩ := s_put_n (d + 1) (j := k) hr (by omega) (hv32 r k hr2)
        refine ⟨_, hD, nx μ2 hf2 (hr3.cong (fun j hj => ?_)) (by omega)⟩
        rw [es_i2l, hr2]
        by_cases q : j = k
        · rw [if_pos q, if_pos (by omega), q]
        · rw [if_neg q]
          by_cases q2 : j < k
          · rw [if_pos q2, if_pos (by omega)]
          · rw [if_neg q2, if_neg (by omega)]
      · exact if_pos (show j < l.length by omega)
    · have hn6 : n = l.length := by rw [← hn, if_neg (by decide)]
      refine loop (fun k j => if j < k then l.getD j 0 * v.toInt else 0) (fun k μ' hk hf hr hb nx => ?_) (fun j hj => ?_) (fun j hj => if_neg (by omega))
      · obtain ⟨r, hA, hr2⟩ := es_pur (s_at_n (d + 1) (k := k) (h.kept hf e.n1 e.n2) (by omega))
        refine ⟨_, _, hA, es_f (by decide +kernel) (es_f (by decide +kernel) (es_f (by decide +kernel) (es_f (by decide +kernel) ?_)))⟩
        have bm := es_mulb (h.bd k) (show -99 ≤ v.toInt ∧ v.toInt ≤ 99 from ⟨a1, a2⟩)
        have hv : (r.toInt64 * v.toInt64).toInt = l.getD k 0 * v.toInt := es_mul64 (by rw [es_i2l, hr2]) (es_i2l v) (by omega) (by omega)
        have hcf : es_cf 6 v.toInt l k = l.getD k 0 * v.toInt := rfl
        refine ⟨_, _, es_pure (s_isWide (d + 1) _ μ'), ?_⟩
        rw [hv]
        refine es_br (fun c => ?_) (fun c => es_rI (es_res.wide (k := k) hf (by omega) ?_))
        · rw [es_b_0] at c
          have c3 := es_big_f c
          obtain ⟨μ2, hD, hf2, hr3⟩ := s_put_n (d + 1) (j := k) (v := r.toInt64 * v.toInt64) hr (by omega) (by rw [hv]; omega)
          refine ⟨_, hD, nx μ2 hf2 (hr3.cong (fun j hj => ?_)) (fun _ => by rw [hcf]; exact c)⟩
          rw [hv]
          by_cases q : j = k
          · rw [if_pos q, if_pos (by omega), q]
          · rw [if_neg q]
            by_cases q2 : j < k
            · rw [if_pos q2, if_pos (by omega)]
            · rw [if_neg q2, if_neg (by omega)]
        · rw [es_b_0] at c
          rw [hcf]
          exact Bool.of_not_eq_false c
      · exact if_pos (show j < l.length by omega)
  refine es_I.mk (w_Row_becomeChanged_0 p (nI act) v p3 μ (es_f (fun z => absurd ((aq 3 (by omega)).mp z) hact.2.1) (es_br (fun q => ?_) (fun q => ?_))))
  · have q := (aq 4 (by omega)).mp q
    rw [if_pos q] at hn
    have ev : v = nI n := by rw [← hn]; exact es_nIof (by omega)
    obtain ⟨μ1, hC, hf, hr⟩ := s_begin d (p := p) (n := n) (by omega) μ
    rw [← ev] at hC
    exact ⟨_, hC, all μ1 hf hr⟩
  · have q := fun z => q ((aq 4 (by omega)).mpr z)
    rw [if_neg q] at hn
    rw [h.2.1, hn]
    obtain ⟨μ1, hC, hf, hr⟩ := s_begin d (p := p) (n := n) (by omega) μ
    exact ⟨_, hC, all μ1 hf hr⟩
/-- a part at equal steps -/
theorem s_pick (d : Nat) {p p3 m r : Nat} {μ : mz_M} {l : List Int} (h : es_row μ p3 l) (e : es_sep p p3) (hm : 1 ≤ m) (hm2 : m ≤ 100) (hr0 : r ≤ 100) :
    es_I (d + 3) n_Row_pick [mz_R 3 p, mz_I (nI m), mz_I (nI r), mz_R 3 p3] μ (fun x μ' => es_fr (es_2 p) μ μ' ∧ ((l.length ≤ r ∧ x = -1000002) ∨ (r < l.length ∧ x = 0 ∧ es_row μ' p (es_ls ((l.length - r + m - 1) / m) (fun k => l.getD (r + k * m) 0))))) := by
  have c1 := h.1.1
  refine es_I.mk (w_Row_pick_0 p (nI m) (nI r) p3 μ (es_f ?_ ?_))
  · show ¬ nI m < nI 1
    exact nI_nlt (by omega) (by omega)
  rw [h.2.1]
  refine es_br (fun q => ?_) (fun q => es_rI ⟨es_fr.rf, Or.inl ⟨?_, rfl⟩⟩)
  · have q := (nI_ltI (by omega) (by omega)).mp q
    refine ⟨nI_ne0 (by omega) (by omega), ?_⟩
    generalize hn : (l.length - r + m - 1) / m = n
    have hn1 : n ≤ l.length - r := by
      rw [← hn]
      apply Nat.le_of_lt_succ
      rw [Nat.div_lt_iff_lt_mul (by omega)]
      have : (l.length - r) * 1 ≤ (l.length - r) * m := Nat.mul_le_mul_left _ hm
      rw [Nat.succ_mul]
      have h2 : (l.length - r) + m - 1 < (l.length - r) + m := by omega
      omega
    have e1 : nI l.length - nI r + nI m - 1 = nI (l.length - r + m - 1) := by
      rw [pk_sub (by omega), nI_add, show (1 : Int32) = nI 1 from rfl, pk_sub (by omega)]
    rw [e1, pk_div (by omega) (by omega) (by omega), hn]
    obtain ⟨μ1, hC, hf, hr⟩ := s_begin d (p := p) (n := n) (by omega) μ
    refine ⟨_, hC, ?_⟩
    have key : ∀ (g k : Nat) (μ' : mz_M), n - k ≤ g → k ≤ n → es_fr (es_2 p) μ μ' → es_raw μ' p n (fun j => if j < k then l.getD (r + j * m) 0 else 0) → v_Row_pick (es_R (d + 2)) (es_qI (fun x μ' => es_fr (es_2 p) μ μ' ∧ ((l.length ≤ r ∧ x = -1000002) ∨ (r < l.length ∧ x = 0 ∧ es_row μ' p (es_ls n (fun k => l.getD (r + k * m) 0)))))) (35, [(0, mz_R 3 p), (1, mz_I (nI m)), (2, mz_I (nI r)), (3, mz_R 3 p3), (4, mz_I (nI k))], [], μ') := by
      have stop : ∀ (k : Nat) (μ' : mz_M), k = n → es_fr (es_2 p) μ μ' → es_raw μ' p n (fun j => if j < k then l.getD (r + j * m) 0 else 0) → v_Row_pick (es_R (d + 2)) (es_qI (fun x μ' => es_fr (es_2 p) μ μ' ∧ ((l.length ≤ r ∧ x = -1000002) ∨ (r < l.length ∧ x = 0 ∧ es_row μ' p (es_ls n (fun k => l.getD (r + k * m) 0)))))) (35, [(0, mz_R 3 p), (1, mz_I (nI m)), (2, mz_I (nI r)), (3, mz_R 3 p3), (4, mz_I (nI k))], [], μ') := by
        intro k μ' hk hf hr
        refine w_Row_pick_35 p _ _ p3 _ μ' (es_t (by rw [hr.2.1]; exact nI_le (by omega) (by omega)) (es_rI ⟨hf, Or.inr ⟨q, rfl, ?_⟩⟩))
        refine (hr.cong (fun j hj => if_pos (by omega))).row (es_ls_len _ _) (fun j hj => (es_ls_at (fun k => l.getD (r + k * m) 0) hj).symm) (fun j _ => h.bd _)
      intro g
      induction g with
      | zero => exact fun k μ' hg hk hf hr => stop k μ' (by omega) hf hr
      | succ g ih =>
        intro k μ' hg hk hf hr
        by_cases hkn : k = n
        · exact stop k μ' hkn hf hr
        · refine w_Row_pick_35 p _ _ p3 _ μ' (es_f (by rw [hr.2.1]; exact nI_ge (by omega) (by omega)) ?_)
          have hkm : k * m ≤ 40 * 100 := Nat.mul_le_mul (by omega) (by omega)
          rw [pk_mul, nI_add]
          obtain ⟨a, hA, ha⟩ := es_pur (s_at_n (d + 1) (k := r + k * m) (h.kept hf e.n1 e.n2) (by omega))
          refine ⟨_, _, hA, ?_⟩
          have bd := h.bd (r + k * m)
          obtain ⟨μ2, hD, hf2, hr2⟩ := s_put_n (d + 1) (j := k) (v := a.toInt64) hr (by omega) (by rw [es_i2l, ha]; omega)
          refine ⟨_, hD, ?_⟩
          rw [nI_1]
          refine ih (k + 1) μ2 (by omega) (by omega) (hf.tr hf2) (hr2.cong (fun j hj => ?_))
          rw [es_i2l, ha]
          by_cases c : j = k
          · rw [if_pos c, if_pos (by omega), c]
          · rw [if_neg c]
            by_cases c2 : j < k
            · rw [if_pos c2, if_pos (by omega)]
            · rw [if_neg c2, if_neg (by omega)]
    exact key n 0 μ1 (by omega) (by omega) hf (hr.cong (fun j hj => (if_neg (by omega)).symm))
  · have : ¬ r < l.length := fun z => q ((nI_ltI (by omega) (by omega)).mpr z)
    omega
