/-! The class's tape is read as a whole. -/
theorem tx_step_l {T : List Nat} {st o p q : Nat} (hp : p ≤ T.length) (h : tx_step T st o p = .inl q) : q ≤ T.length ∧ tx_sk T p ≤ q := by
  have s0 := tx_sk_len hp
  unfold tx_step at h
  generalize tx_sk T p = p0 at s0 h
  by_cases e0 : st = 1
  · rw [if_pos e0] at h
    unfold tx_due at h
    by_cases e1 : T.getD p0 0 = 40
    · rw [if_pos e1] at h
      by_cases e2 : o < 6
      · rw [if_pos e2] at h; cases h
      · rw [if_neg e2] at h; cases h; exact ⟨s0, Nat.le_refl _⟩
    · rw [if_neg e1] at h
      by_cases e2 : tx_fam (T.getD p0 0) = true
      · rw [if_pos e2] at h
        have := of_decide_eq_true e2
        have l1 := tx_lt rfl (show T.getD p0 0 ≠ 0 by omega)
        have s1 := tx_sk_len (T := T) (p := p0 + 1) (by omega)
        have t1 := tx_sk_le T (p0 + 1)
        unfold tx_fm1 at h
        generalize tx_sk T (p0 + 1) = p1 at s1 t1 h
        by_cases f1 : T.getD p1 0 = 40
        · rw [if_pos f1] at h
          have l2 := tx_lt f1 (by decide)
          have s2 := tx_sk_len (T := T) (p := p1 + 1) (by omega)
          have t2 := tx_sk_le T (p1 + 1)
          unfold tx_fm2 at h
          generalize tx_sk T (p1 + 1) = p2 at s2 t2 h
          by_cases f2 : tx_dg (T.getD p2 0) = true
          · rw [if_pos f2] at h
            have n2 := tx_np_i f2
            by_cases f3 : tx_kok (tx_kd (T.getD p0 0)) (tx_nv T p2) = true
            · rw [if_pos f3] at h
              have s4 := tx_sk_len (T := T) (p := tx_np T p2) (by omega)
              have t4 := tx_sk_le T (tx_np T p2)
              unfold tx_fm3 at h
              generalize tx_sk T (tx_np T p2) = p4 at s4 t4 h
              by_cases f4 : T.getD p4 0 = 41
              · rw [if_pos f4] at h; cases h
              · rw [if_neg f4] at h; cases h; omega
            · rw [if_neg f3] at h; cases h; omega
          · rw [if_neg f2] at h; cases h; omega
        · rw [if_neg f1] at h; cases h; omega
      · rw [if_neg e2] at h
        by_cases e3 : tx_dg (T.getD p0 0) = true
        · rw [if_pos e3] at h; cases h
        · rw [if_neg e3] at h; cases h; omega
  · rw [if_neg e0] at h
    unfold tx_beh at h
    by_cases e1 : T.getD p0 0 = 94 ∧ st = 2
    · rw [if_pos e1] at h
      have l1 := tx_lt e1.1 (by decide)
      have s1 := tx_sk_len (T := T) (p := p0 + 1) (by omega)
      have t1 := tx_sk_le T (p0 + 1)
      unfold tx_fig at h
      generalize tx_sk T (p0 + 1) = p1 at s1 t1 h
      by_cases e2 : 48 ≤ T.getD p1 0 ∧ T.getD p1 0 ≤ 56
      · rw [if_pos e2] at h; cases h
      · rw [if_neg e2] at h; cases h; omega
    · rw [if_neg e1] at h
      by_cases e2 : tx_opl (T.getD p0 0) = true
      · rw [if_pos e2] at h; cases h
      · rw [if_neg e2] at h
        by_cases e3 : T.getD p0 0 = 41 ∧ 0 < o
        · rw [if_pos e3] at h; cases h
        · rw [if_neg e3] at h; cases h; omega
theorem t_parse (d : Nat) {μ : mz_M} {T : List Nat} (h : es_tp μ T) : es_I (d + 6) n_Tape_parse [mz_R 7 146] μ (tx_got T (tx_prs T) μ) := by
  have h60 := h.1
  refine es_I.mk (w_Tape_parse_0 146 μ ?_)
  have key : ∀ (g k st o p : Nat) (U : List (Nat × Nat)) (μ' : mz_M), k + g = T.length + 1 → (st = 1 ∨ st = 2 ∨ st = 3) → o ≤ 6 → p ≤ T.length → U.length ≤ p → es_fr tx_S μ μ' → tx_tp μ' T p o U → tx_prs T = tx_app U (tx_run T g st o p) → v_Tape_parse (es_R (d + 5)) (es_qI (tx_got T (tx_prs T) μ)) (19, [(0, mz_R 7 146), (1, mz_I (nI st)), (2, mz_I (nI k))], [], μ') := by
    intro g
    induction g with
    | zero =>
      intro k st o p U μ' hk hst ho hp hU hf ht he
      refine w_Tape_parse_19 146 _ _ μ' (es_t (by rw [ht.1.2.1]; exact nI_lt (by omega) (by omega)) (es_rI ⟨hf, ?_⟩))
      rw [he]
      exact ⟨by rw [ht.2.1], by omega⟩
    | succ g ih =>
      intro k st o p U μ' hk hst ho hp hU hf ht he
      refine w_Tape_parse_19 146 _ _ μ' (es_f (by rw [ht.1.2.1]; exact nI_nlt (by omega) (by omega)) ?_)
      obtain ⟨μ1, hC1, hf1, ht1⟩ := t_skip (d + 3) ht (by omega)
      have hf1 := hf.tr hf1
      have l0 := tx_sk_len hp
      have l1 := tx_sk_le T p
      refine ⟨_, hC1, ?_⟩
      have fin : ∀ (r : Int32) (μ2 : mz_M), ¬ (st ≠ 1 ∧ o = 0 ∧ T.length ≤ tx_sk T p) → tx_res T U (tx_step T st o p) μ1 r μ2 → (if (r : Int32) = (0 : Int32) then
                (es_qI (tx_got T (tx_prs T) μ) (some (mz_I (((-1000020)) - (μ2.1 146 2)))) μ2)
              else
                (v_Tape_parse (es_R (d + 5)) (es_qI (tx_got T (tx_prs T) μ)) (19, [(0, mz_R 7 146), (1, mz_I r), (2, mz_I (nI k + 1))], [], μ2))) := by
        intro r μ2 hne hres
        obtain ⟨hf2, hm⟩ := hres
        cases hs : tx_step T st o p with
        | inl q =>
          rw [hs] at hm
          obtain ⟨rfl, o', U', ht2⟩ := hm
          refine es_t rfl (es_rI ⟨hf1.tr hf2, ?_⟩)
          rw [he, tx_run_l hne hs]
          have := tx_step_l hp hs
          exact ⟨by rw [ht2.2.1], by omega⟩
        | inr w =>
          obtain ⟨⟨st', o', p'⟩, t⟩ := w
          rw [hs] at hm
          obtain ⟨hr, ht2⟩ := hm
          obtain ⟨a1, a2, a3, a4, a5⟩ := tx_step_i hst hp hs
          rw [hr]
          refine es_f (nI_ne0 (show 0 < st' by omega) (show st' < 2 ^ 31 by omega)) ?_
          rw [nI_1]
          refine ih (k + 1) st' o' p' (U ++ [t]) μ2 (by omega) a3 (a5 ho) a2 ?_ (hf1.tr hf2) ht2 ?_
          · rw [List.length_append]
            show U.length + 1 ≤ p'
            omega
          · rw [he, tx_run_r hne hs, tx_app_cons]
      by_cases e : st = 1
      · subst e
        refine es_t rfl (es_t rfl ?_)
        obtain ⟨r, μ2, hC2, hr⟩ := t_atom d ht1 (by omega) l0 ho
        refine ⟨_, _, hC2, fin r μ2 (fun z => z.1 rfl) ?_⟩
        unfold tx_step
        rw [if_pos rfl]
        exact hr
      · have en : ¬ nI st = (1 : Int32) := fun z => e ((nI_eq (by omega) (b := 1) (by omega)).mp z)
        obtain ⟨r, μ2, hC2, hr⟩ := t_behind (d + 1) (st := st) ht1 (by omega) l0 ho (by omega)
        have hr : tx_res T U (tx_step T st o p) μ1 r μ2 := by
          unfold tx_step
          rw [if_neg e]
          exact hr
        refine es_f en ?_
        rw [ht1.2.2.1, ht1.2.1, ht1.1.2.1]
        refine es_br (fun q => ?_) (fun q => es_f en ⟨_, _, hC2, fin r μ2 (fun z => q (by rw [z.2.1]; rfl)) hr⟩)
        have q := (nI_eq (by omega) (b := 0) (by omega)).mp q
        refine es_br (fun q2 => es_f en ⟨_, _, hC2, fin r μ2 (fun z => ?_) hr⟩) (fun q2 => es_rI ⟨hf1, ?_⟩)
        · have q2 := (nI_ltI (by omega) (by omega)).mp q2
          omega
        · have q2 : ¬ tx_sk T p < T.length := fun z => q2 (nI_lt z (by omega))
          rw [he, tx_run_end ⟨e, q, by omega⟩]
          refine ⟨rfl, tx_sk T p, o, ?_⟩
          rw [List.append_nil]
          exact ht1
  refine key (T.length + 1) 0 1 0 0 [] _ (by omega) (by omega) (by omega) (by omega) (Nat.le_refl _) ((tx_fw.tr tx_fw).tr tx_fw) ?_ ?_
  · obtain ⟨a1, a2, a3⟩ := h
    refine ⟨⟨a1, ?_, fun k hk => ?_⟩, ?_, ?_, ?_, fun k hk => absurd hk (Nat.not_lt_zero k)⟩
    · rw [mz_wI_at, if_neg (by omega), mz_wI_at, if_neg (by omega), mz_wI_at, if_neg (by omega)]; exact a2
    · rw [mz_wI_at, if_neg (by omega), mz_wI_at, if_neg (by omega), mz_wI_at, if_neg (by omega)]; exact a3 k hk
    · rw [mz_wI_at, if_neg (by omega), mz_wI_at, if_neg (by omega), mz_wI_at, if_pos ⟨rfl, rfl⟩]; rfl
    · rw [mz_wI_at, if_neg (by omega), mz_wI_at, if_pos ⟨rfl, rfl⟩]; rfl
    · rw [mz_wI_at, if_pos ⟨rfl, rfl⟩]; rfl
  · unfold tx_prs
    cases tx_run T (T.length + 1) 1 0 0 <;> rfl
/-- the tokens lie on the tape, the mill stands at one of them -/
def tx_ml (μ : mz_M) (n : Nat) (U : List (Nat × Nat)) (i : Nat) : Prop := (U.length ≤ 60 ∧ μ.1 146 6 = nI U.length ∧ ∀ k, k < U.length → μ.1 148 k = nI (U.getD k (0, 0)).1 ∧ μ.1 149 k = nI (U.getD k (0, 0)).2) ∧ μ.1 145 6 = nI i ∧ μ.1 145 7 = nI n
theorem tx_ml.kept {S : Nat → Prop} {μ μ' : mz_M} {n i : Nat} {U : List (Nat × Nat)} (h : tx_ml μ n U i) (hf : es_fr S μ μ') (h1 : ¬ S 146) (h2 : ¬ S 148) (h3 : ¬ S 149) (h4 : ¬ S 145) : tx_ml μ' n U i := by
  obtain ⟨⟨a, b, c⟩, e, f⟩ := h
  refine ⟨⟨a, by rw [(hf 146 h1).1]; exact b, fun k hk => by rw [(hf 148 h2).1, (hf 149 h3).1]; exact c k hk⟩, by rw [(hf 145 h4).1]; exact e, by rw [(hf 145 h4).1]; exact f⟩
theorem tx_ml.pl {μ : mz_M} {n i : Nat} {U : List (Nat × Nat)} (h : tx_ml μ n U i) (j : Nat) : tx_ml (mz_wI μ 145 6 (nI j)) n U j := by
  obtain ⟨⟨a, b, c⟩, e, f⟩ := h
  refine ⟨⟨a, ?_, fun k hk => ?_⟩, ?_, ?_⟩
  · rw [mz_wI_at, if_neg (by omega)]; exact b
  · rw [mz_wI_at, if_neg (by omega), mz_wI_at, if_neg (by omega)]; exact c k hk
  · rw [mz_wI_at, if_pos ⟨rfl, rfl⟩]
  · rw [mz_wI_at, if_neg (by omega)]; exact f
/-- the token at a place; (0, 0) behind all -/
def tx_tk (U : List (Nat × Nat)) (i : Nat) : Nat × Nat := U.getD i (0, 0)
theorem tx_tk_out {U : List (Nat × Nat)} {i : Nat} (h : U.length ≤ i) : tx_tk U i = (0, 0) := by
  unfold tx_tk
  rw [List.getD_eq_getElem?_getD, List.getElem?_eq_none h]; rfl
theorem tx_drop {U : List (Nat × Nat)} {i : Nat} (h : i < U.length) : U.drop i = tx_tk U i :: U.drop (i + 1) := by
  rw [List.drop_eq_getElem_cons h]
  unfold tx_tk
  rw [List.getD_eq_getElem?_getD, List.getElem?_eq_getElem h]; rfl
theorem t_sign (d : Nat) {μ : mz_M} {n i : Nat} {U : List (Nat × Nat)} (h : tx_ml μ n U i) (hi : i ≤ 1000) : es_I (d + 1) n_Tape_signAt [mz_R 7 146, mz_I (μ.1 145 6)] μ (fun r μ' => μ' = μ ∧ r = nI (tx_tk U i).1) := by
  obtain ⟨⟨a, b, c⟩, e, f⟩ := h
  rw [e]
  refine es_I.mk (w_Tape_signAt_0 146 _ μ (es_f (nI_pos (by omega)) (es_br (fun q => es_rI ⟨rfl, ?_⟩) (fun q => ?_))))
  · rw [b] at q
    have q := (nI_leI (by omega) (by omega)).mp q
    rw [tx_tk_out q]; rfl
  · rw [b] at q
    have q : ¬ U.length ≤ i := fun z => q (nI_le z (by omega))
    refine es_f (nI_ge (by omega) (by omega)) ⟨vp_in_nI (by omega) (by omega), es_rI ⟨rfl, ?_⟩⟩
    rw [es_clamp (by omega)]
    exact (c i (by omega)).1
theorem t_value (d : Nat) {μ : mz_M} {n i : Nat} {U : List (Nat × Nat)} (h : tx_ml μ n U i) (hi : i ≤ 1000) : es_I (d + 1) n_Tape_valueAt [mz_R 7 146, mz_I (μ.1 145 6)] μ (fun r μ' => μ' = μ ∧ r = nI (tx_tk U i).2) := by
  obtain ⟨⟨a, b, c⟩, e, f⟩ := h
  rw [e]
  refine es_I.mk (w_Tape_valueAt_0 146 _ μ (es_f (nI_pos (by omega)) (es_br (fun q => es_rI ⟨rfl, ?_⟩) (fun q => ?_))))
  · rw [b] at q
    have q := (nI_leI (by omega) (by omega)).mp q
    rw [tx_tk_out q]; rfl
  · rw [b] at q
    have q : ¬ U.length ≤ i := fun z => q (nI_le z (by omega))
    refine es_f (nI_ge (by omega) (by omega)) ⟨vp_in_nI (by omega) (by omega), es_rI ⟨rfl, ?_⟩⟩
    rw [es_clamp (by omega)]
    exact (c i (by omega)).2
theorem s_take0 (d : Nat) {p q : Nat} (μ : mz_M) : es_V (d + 1) n_Row_take [mz_R 3 p, mz_R 3 q] μ (fun μ' => es_fr (es_2 p) μ μ') :=
  es_V.mk (w_Row_take_0 p q μ ⟨by decide +kernel, es_rV ((es_fr.rf.wI (Or.inl rfl)).cI (Or.inr rfl))⟩)
