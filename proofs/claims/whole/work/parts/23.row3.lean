/-! Quotients, powers, kinds, changes of rows. -/
/-- the first k terms of a quotient -/
def es_ql (a b : Nat → Int) (s : Int) : Nat → List Int
  | 0 => []
  | k + 1 => es_ql a b s k ++ [(a k - fb_si (fun j => b (j + 1) * (es_ql a b s k).getD (k - (j + 1)) 0) k) * s]
def es_qf (a b : Nat → Int) (s : Int) (k : Nat) : Int := (es_ql a b s (k + 1)).getD k 0
theorem es_ql_len (a b : Nat → Int) (s : Int) : ∀ k, (es_ql a b s k).length = k
  | 0 => rfl
  | k + 1 => by unfold es_ql; rw [List.length_append, es_ql_len a b s k]; rfl
theorem es_ql_at (a b : Nat → Int) (s : Int) {j : Nat} : ∀ {n : Nat}, j < n → (es_ql a b s n).getD j 0 = es_qf a b s j
  | 0, h => absurd h (Nat.not_lt_zero _)
  | n + 1, h => by
    by_cases e : j = n
    · subst e; rfl
    · unfold es_ql
      rw [List.getD_eq_getElem?_getD, List.getElem?_append_left (by rw [es_ql_len]; omega), ← List.getD_eq_getElem?_getD]
      exact es_ql_at a b s (by omega)
theorem es_qf_eq (a b : Nat → Int) (s : Int) (k : Nat) : es_qf a b s k = (a k - fb_si (fun j => b (j + 1) * es_qf a b s (k - (j + 1))) k) * s := by
  unfold es_qf
  rw [show es_ql a b s (k + 1) = es_ql a b s k ++ [(a k - fb_si (fun j => b (j + 1) * (es_ql a b s k).getD (k - (j + 1)) 0) k) * s] from rfl]
  rw [List.getD_eq_getElem?_getD, List.getElem?_append_right (by rw [es_ql_len]; omega), es_ql_len, Nat.sub_self]
  show (a k - _) * s = _
  congr 2
  exact fb_si_cong (fun j hj => by rw [es_ql_at a b s (by omega)]; rfl)
theorem es_qf_cong {a b a' b' : Nat → Int} {s : Int} : ∀ {k : Nat}, (∀ i, i ≤ k → a i = a' i) → (∀ i, i ≤ k → b i = b' i) → es_qf a b s k = es_qf a' b' s k := by
  intro k
  induction k using Nat.strongRecOn with
  | _ k ih =>
    intro h1 h2
    rw [es_qf_eq a b, es_qf_eq a' b', h1 k (by omega)]
    congr 2
    exact fb_si_cong (fun j hj => by rw [h2 (j + 1) (by omega), ih (k - (j + 1)) (by omega) (fun i hi => h1 i (by omega)) (fun i hi => h2 i (by omega))])
/-- a quotient: refused, or as es_res -/
def es_rat (p : Nat) (l1 l2 : List Int) (μ : mz_M) (r : Int32) (μ' : mz_M) : Prop :=
  (¬ (l2.getD 0 0 = 1 ∨ l2.getD 0 0 = -1) ∧ r = -1000006 ∧ μ' = μ) ∨ ((l2.getD 0 0 = 1 ∨ l2.getD 0 0 = -1) ∧ es_res p (min l1.length l2.length) (es_qf (fun k => l1.getD k 0) (fun k => l2.getD k 0) (l2.getD 0 0)) μ r μ')
set_option maxHeartbeats 1000000 in
theorem s_ratio (d : Nat) {p p1 p2 : Nat} {μ : mz_M} {l1 l2 : List Int} (h1 : es_row μ p1 l1) (h2 : es_row μ p2 l2) (e1 : es_sep p p1) (e2 : es_sep p p2) :
    es_I (d + 3) n_Row_ratio [mz_R 3 p, mz_R 3 p1, mz_R 3 p2] μ (es_rat p l1 l2 μ) := by
  have c1 := h1.1.1
  have c2 := h2.1.1
  refine es_I.mk (w_Row_ratio_0 p p1 p2 μ ?_)
  obtain ⟨rt, hA, ha⟩ := es_pur (s_at_n (d + 1) (k := 0) h2 (by omega))
  refine ⟨_, _, hA, ?_⟩
  rw [h1.2.1, h2.2.1]
  generalize hs : l2.getD 0 0 = s0 at ha
  have main : s0 = 1 ∨ s0 = -1 → (∃ (r4 : Int32) (μ3 : mz_M), es_R (d + 2) n_Math_min [mz_I (nI l1.length), mz_I (nI l2.length)] μ (some (mz_I r4)) μ3 ∧
          (∃ μ5, es_R (d + 2) n_Row_begin [mz_R 3 p, mz_I r4] μ3 none μ5 ∧
            (v_Row_ratio (es_R (d + 2)) (es_qI (es_rat p l1 l2 μ)) (37, [(0, mz_R 3 p), (1, mz_R 3 p1), (2, mz_R 3 p2), (3, mz_I rt), (4, mz_I 0)], [], μ5)))) := by
    intro hs1
    refine ⟨_, _, es_pure (s_min_n (d + 1) (by omega) (by omega) μ), ?_⟩
    obtain ⟨μ1, hC, hf, hr⟩ := s_begin d (p := p) (n := min l1.length l2.length) (by omega) μ
    refine ⟨_, hC, ?_⟩
    have fin : ∀ r μ', es_res p (min l1.length l2.length) (es_qf (fun k => l1.getD k 0) (fun k => l2.getD k 0) s0) μ r μ' → es_rat p l1 l2 μ r μ' := by
      intro r μ' h
      unfold es_rat
      rw [hs]
      exact Or.inr ⟨hs1, h⟩
    generalize hn : min l1.length l2.length = n at hr fin ⊢
    generalize hF : es_qf (fun k => l1.getD k 0) (fun k => l2.getD k 0) s0 = F at fin
    have key : ∀ (g k : Nat) (μ' : mz_M), n - k ≤ g → k ≤ n → es_fr (es_2 p) μ μ' → es_raw μ' p n (fun j => if j < k then F j else 0) → (∀ j, j < k → es_big (F j) = false) → v_Row_ratio (es_R (d + 2)) (es_qI (es_rat p l1 l2 μ)) (37, [(0, mz_R 3 p), (1, mz_R 3 p1), (2, mz_R 3 p2), (3, mz_I rt), (4, mz_I (nI k))], [], μ') := by
      intro g
      induction g with
      | zero =>
        intro k μ' hg hk hf hr hb
        have hkn : k = n := by omega
        refine w_Row_ratio_37 p p1 p2 rt (nI k) μ' (es_t ?_ (es_rI (fin _ _ (es_res.done hf (hr.cong (fun j hj => if_pos (by omega))) (fun j hj => hb j (by omega))))))
        rw [hr.2.1]
        exact nI_le (by omega) (by omega)
      | succ g ih =>
        intro k μ' hg hk hf hr hb
        by_cases hkn : k = n
        · refine w_Row_ratio_37 p p1 p2 rt (nI k) μ' (es_t ?_ (es_rI (fin _ _ (es_res.done hf (hr.cong (fun j hj => if_pos (by omega))) (fun j hj => hb j (by omega))))))
          rw [hr.2.1]
          exact nI_le (by omega) (by omega)
        · refine w_Row_ratio_37 p p1 p2 rt (nI k) μ' (es_f ?_ ⟨vp_in_nI (by omega) (by omega), ?_⟩)
          · rw [hr.2.1]
            exact nI_ge (by omega) (by omega)
          · have h1' := h1.kept hf e1.n1 e1.n2
            have h2' := h2.kept hf e2.n1 e2.n2
            rw [es_clamp (by omega)]
            have bF : ∀ j, j < k → -100000000 ≤ F j ∧ F j ≤ 100000000 := fun j hj => es_big_f (hb j hj)
            have bnd : ∀ j, j ≤ k → -(j * 10000000000000000 : Int) ≤ fb_si (fun i => l2.getD (i + 1) 0 * F (k - (i + 1))) j ∧ fb_si (fun i => l2.getD (i + 1) 0 * F (k - (i + 1))) j ≤ (j * 10000000000000000 : Int) := fun j hj => fb_si_bound (by omega) (fun i hi => by
              have := es_mulb (h2.bd (i + 1)) (bF (k - (i + 1)) (by omega))
              omega)
            have b1 := h1.bd k
            have inner : ∀ (g2 j : Nat) (y : Int64), k - j ≤ g2 → j ≤ k → y.toInt = l1.getD k 0 - fb_si (fun i => l2.getD (i + 1) 0 * F (k - (i + 1))) j → v_Row_ratio (es_R (d + 2)) (es_qI (es_rat p l1 l2 μ)) (59, [(0, mz_R 3 p), (1, mz_R 3 p1), (2, mz_R 3 p2), (3, mz_I rt), (4, mz_I (nI k)), (5, mz_L y), (7, mz_I (nI (j + 1)))], [], μ') := by
              have stop : ∀ (j : Nat) (y : Int64), j = k → y.toInt = l1.getD k 0 - fb_si (fun i => l2.getD (i + 1) 0 * F (k - (i + 1))) j → v_Row_ratio (es_R (d + 2)) (es_qI (es_rat p l1 l2 μ)) (59, [(0, mz_R 3 p), (1, mz_R 3 p1), (2, mz_R 3 p2), (3, mz_I rt), (4, mz_I (nI k)), (5, mz_L y), (7, mz_I (nI (j + 1)))], [], μ') := by
                intro j y hj hy
                subst hj
                have b := bnd j (by omega)
                have hv : (y * rt.toInt64).toInt = F j := by
                  rw [← hF, es_qf_eq, hF]
                  refine es_mul64 hy (by rw [es_i2l, ha]) ?_ ?_
                  · rcases hs1 with e | e <;> rw [e] <;> omega
                  · rcases hs1 with e | e <;> rw [e] <;> omega
                refine w_Row_ratio_59 p p1 p2 rt (nI j) y (nI (j + 1)) μ' (es_t (nI_lt (by omega) (by omega)) ?_)
                refine ⟨_, _, es_pure (s_isWide (d + 1) _ μ'), ?_⟩
                rw [hv]
                refine es_br (fun q => ?_) (fun q => es_rI (fin _ _ (es_res.wide (k := j) hf (by omega) ?_)))
                · rw [es_b_0] at q
                  have q3 := es_big_f q
                  obtain ⟨μ2, hD, hf2, hr2⟩ := s_put_n (d + 1) (p := p) (n := n) (j := j) (v := y * rt.toInt64) hr (by omega) (by rw [hv]; omega)
                  refine ⟨_, hD, ?_⟩
                  rw [nI_1]
                  refine ih (j + 1) μ2 (by omega) (by omega) (hf.tr hf2) (hr2.cong (fun i hi => ?_)) (fun i hi => ?_)
                  · by_cases e : i = j
                    · rw [if_pos e, if_pos (by omega), hv, e]
                    · rw [if_neg e]
                      by_cases e3 : i < j
                      · rw [if_pos e3, if_pos (by omega)]
                      · rw [if_neg e3, if_neg (by omega)]
                  · by_cases e : i = j
                    · rw [e]; exact q
                    · exact hb i (by omega)
                · rw [es_b_0] at q
                  exact Bool.of_not_eq_false q
              intro g2
              induction g2 with
              | zero => exact fun j y hg hj hy => stop j y (by omega) hy
              | succ g2 ih2 =>
                intro j y hg hj hy
                by_cases e : j = k
                · exact stop j y e hy
                · refine w_Row_ratio_59 p p1 p2 rt (nI k) y (nI (j + 1)) μ' (es_f (nI_nlt (by omega) (by omega)) ⟨vp_in_nI (by omega) (by omega), ?_⟩)
                  rw [pk_sub (by omega)]
                  refine ⟨vp_in_nI (by omega) (by omega), ?_⟩
                  rw [es_clamp (by omega), es_clamp (by omega), nI_1]
                  refine ih2 (j + 1) _ (by omega) (by omega) ?_
                  have t := es_mulb (h2.bd (j + 1)) (bF (k - (j + 1)) (by omega))
                  have b := bnd j (by omega)
                  rw [fb_si_succ, show ∀ a b c : Int, a - (b + c) = a - b - c by intros; omega]
                  exact es_sub64 hy (es_mul64 (by rw [es_i2l, h2'.2.2 (j + 1) (by omega)]) (by rw [es_i2l, hr.2.2 (k - (j + 1)) (by omega)]; exact if_pos (by omega)) (by omega) (by omega)) (by omega) (by omega)
            refine inner k 0 _ (by omega) (by omega) ?_
            rw [es_i2l, h1'.2.2 k (by omega)]
            show _ = _ - (0 : Int)
            omega
    exact key n 0 μ1 (by omega) (by omega) hf (hr.cong (fun j hj => (if_neg (by omega)).symm)) (fun j hj => by omega)
  refine es_br (fun q => main (Or.inl ?_)) (fun q => es_br (fun q2 => main (Or.inr ?_)) (fun q2 => es_rI (Or.inl ⟨?_, rfl, rfl⟩)))
  · rw [← ha, q]; rfl
  · rw [← ha, q2]; decide +kernel
  · rw [hs, ← ha]
    intro z
    rcases z with z | z
    · exact q (Int32.toInt_inj.mp (z.trans es_i1.symm))
    · exact q2 (Int32.toInt_inj.mp (by rw [z]; decide +kernel))
/-- two rows joined: 0 plus, 1 less, 2 times, else over -/
def es_jn (p : Nat) (act : Int32) (l1 l2 : List Int) (μ : mz_M) (r : Int32) (μ' : mz_M) : Prop :=
  if act = 0 then es_res p (min l1.length l2.length) (fun k => l1.getD k 0 + l2.getD k 0) μ r μ'
  else if act = 1 then es_res p (min l1.length l2.length) (fun k => l1.getD k 0 - l2.getD k 0) μ r μ'
  else if act = 2 then es_res p (min l1.length l2.length) (es_cv (fun k => l1.getD k 0) (fun k => l2.getD k 0)) μ r μ'
  else es_rat p l1 l2 μ r μ'
theorem s_joined (d : Nat) {p p1 p2 : Nat} {act : Int32} {μ : mz_M} {l1 l2 : List Int} (h1 : es_row μ p1 l1) (h2 : es_row μ p2 l2) (e1 : es_sep p p1) (e2 : es_sep p p2) :
    es_I (d + 4) n_Row_becomeJoined [mz_R 3 p, mz_I act, mz_R 3 p1, mz_R 3 p2] μ (es_jn p act l1 l2 μ) := by
  refine es_I.mk (w_Row_becomeJoined_0 p act p1 p2 μ (es_br (fun q => ?_) (fun q => es_br (fun q2 => ?_) (fun q2 => es_br (fun q3 => ?_) (fun q3 => ?_)))))
  · obtain ⟨r, μ', hC, h⟩ := s_sum d (sg := 1) h1 h2 e1 e2 (Or.inl es_i1)
    exact ⟨_, _, hC, es_rI (es_t q (h.cong (fun k _ => by rw [es_i1]; omega)))⟩
  · obtain ⟨r, μ', hC, h⟩ := s_sum d (sg := -1) h1 h2 e1 e2 (Or.inr (by decide +kernel))
    exact ⟨_, _, hC, es_rI (es_f q (es_t q2 (h.cong (fun k _ => by rw [show (-1 : Int32).toInt = -1 by decide +kernel]; omega))))⟩
  · obtain ⟨r, μ', hC, h⟩ := s_product d h1 h2 e1 e2
    exact ⟨_, _, hC, es_rI (es_f q (es_f q2 (es_t q3 h)))⟩
  · obtain ⟨r, μ', hC, h⟩ := s_ratio d h1 h2 e1 e2
    exact ⟨_, _, hC, es_rI (es_f q (es_f q2 (es_f q3 h)))⟩
/-- powers -/
def es_pwf (b : Nat → Int) : Nat → Nat → Int
  | 0, k => if k = 0 then 1 else 0
  | t + 1, k => es_cv (es_pwf b t) b k
def es_pwd (n : Nat) (b : Nat → Int) : Nat → Bool
  | 0 => false
  | t + 1 => es_pwd n b t || es_wd (es_pwf b (t + 1)) n
def es_4 (p q : Nat) : Nat → Prop := fun z => es_2 p z ∨ es_2 q z
def es_pws (p p3 : Nat) (l : List Int) (v : Nat) (μ : mz_M) (r : Int32) (μ' : mz_M) : Prop := es_fr (es_4 p p3) μ μ' ∧ ((es_pwd l.length (fun k => l.getD k 0) v = true ∧ r = -1000005) ∨ (es_pwd l.length (fun k => l.getD k 0) v = false ∧ r = 0 ∧ es_row μ' p (es_ls l.length (es_pwf (fun k => l.getD k 0) v))))
theorem es_pwd_up {n : Nat} {b : Nat → Int} : ∀ {s t : Nat}, t ≤ s → es_pwd n b t = true → es_pwd n b s = true
  | 0, t, h, ht => by
    have : t = 0 := by omega
    subst this; exact ht
  | s + 1, t, h, ht => by
    by_cases e : t = s + 1
    · subst e; exact ht
    · unfold es_pwd
      rw [es_pwd_up (by omega) ht, Bool.true_or]
theorem s_power (d : Nat) {p p1 p3 v : Nat} {μ : mz_M} {l : List Int} (h1 : es_row μ p1 l) (e1 : es_sep p p1) (e2 : es_sep p3 p1) (e3 : es_sep p3 p) (hv : v < 2147483648) :
    es_I (d + 4) n_Row_becomePower [mz_R 3 p, mz_R 3 p1, mz_I (nI v), mz_R 3 p3] μ (es_pws p p3 l v μ) := by
  have c1 := h1.1.1
  refine es_I.mk (w_Row_becomePower_0 p p1 (nI v) p3 μ ?_)
  rw [h1.2.1]
  obtain ⟨μ1, hC, hf, hr⟩ := s_begin (d + 1) (p := p) (n := l.length) (by omega) μ
  refine ⟨_, hC, ?_⟩
  obtain ⟨μ2, hD, hf2, hr2⟩ := s_put_n (d + 2) (p := p) (j := 0) (v := 1) hr (by omega) (by decide +kernel)
  refine ⟨_, hD, ?_⟩
  generalize hb : (fun k => l.getD k 0) = b at *
  have hn4 : ∀ {q}, es_sep p q → es_sep p3 q → ¬ es_4 p p3 q := fun h h' z => z.elim (h.n1) (h'.n1)
  have hn5 : ∀ {q}, es_sep p q → es_sep p3 q → ¬ es_4 p p3 (q + 1) := fun h h' z => z.elim (h.n2) (h'.n2)
  have key : ∀ (g t : Nat) (μ' : mz_M), v - t ≤ g → t ≤ v → es_fr (es_4 p p3) μ μ' → es_pwd l.length b t = false → es_row μ' p (es_ls l.length (es_pwf b t)) → v_Row_becomePower (es_R (d + 3)) (es_qI (es_pws p p3 l v μ)) (17, [(0, mz_R 3 p), (1, mz_R 3 p1), (2, mz_I (nI v)), (3, mz_R 3 p3), (4, mz_I (nI t))], [], μ') := by
    have fin : ∀ (μ' : mz_M), es_fr (es_4 p p3) μ μ' → es_pwd l.length b v = false → es_row μ' p (es_ls l.length (es_pwf b v)) → es_pws p p3 l v μ 0 μ' := by
      intro μ' hf hd hr
      unfold es_pws
      rw [hb]
      exact ⟨hf, Or.inr ⟨hd, rfl, hr⟩⟩
    intro g
    induction g with
    | zero =>
      intro t μ' hg ht hf hd hr
      have htv : t = v := by omega
      subst htv
      exact w_Row_becomePower_17 p p1 _ p3 _ μ' (es_t (nI_le (by omega) (by omega)) (es_rI (fin μ' hf hd hr)))
    | succ g ih =>
      intro t μ' hg ht hf hd hr
      by_cases htv : t = v
      · subst htv
        exact w_Row_becomePower_17 p p1 _ p3 _ μ' (es_t (nI_le (by omega) (by omega)) (es_rI (fin μ' hf hd hr)))
      · refine w_Row_becomePower_17 p p1 _ p3 _ μ' (es_f (nI_ge (by omega) (by omega)) ?_)
        obtain ⟨r, μ3, hE, hf3, h3⟩ := s_product d hr (h1.kept hf (hn4 e1 e2) (hn5 e1 e2)) e3 e2
        refine ⟨_, _, hE, ?_⟩
        rw [es_ls_len, Nat.min_self] at h3
        have hcv : ∀ k, k < l.length → es_cv (fun k => (es_ls l.length (es_pwf b t)).getD k 0) (fun k => l.getD k 0) k = es_pwf b (t + 1) k := by
          intro k hk
          exact es_cv_cong (fun i hi => es_ls_at _ (by omega)) (fun i _ => congrFun hb i)
        rw [es_wd_cong hcv, es_ls_cong hcv] at h3
        have hf3' : es_fr (es_4 p p3) μ μ3 := hf.tr (hf3.mono (fun q z => Or.inr z))
        rcases h3 with ⟨h4, h5⟩ | ⟨h4, h5, h6⟩
        · refine es_f (by rw [h5]; decide +kernel) (es_rI ?_)
          unfold es_pws
          rw [hb]
          refine ⟨hf3', Or.inl ⟨es_pwd_up (t := t + 1) (by omega) ?_, h5⟩⟩
          unfold es_pwd
          rw [h4, Bool.or_true]
        · refine es_t h5 ?_
          obtain ⟨μ4, hG, hf4, hr4⟩ := s_take (d + 2) (p := p) h6 (by unfold es_sep at *; omega)
          refine ⟨_, hG, ?_⟩
          rw [nI_1]
          refine ih (t + 1) μ4 (by omega) (by omega) (hf3'.tr (hf4.mono (fun q z => Or.inl z))) ?_ hr4
          unfold es_pwd
          rw [hd, h4]; rfl
  refine key v 0 μ2 (by omega) (by omega) ((hf.tr hf2).mono (fun q z => Or.inl z)) rfl ?_
  refine hr2.row (es_ls_len _ _) (fun k hk => ?_) (fun k hk => ?_)
  · rw [es_ls_at _ hk]; rfl
  · by_cases e : k = 0
    · rw [if_pos e]; decide +kernel
    · rw [if_neg e]; decide
