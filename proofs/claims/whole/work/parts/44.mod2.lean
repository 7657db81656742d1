/-! The reference: what asks, and what goes back. -/
theorem es_M.len {μ : mz_M} {A : es_A} (h : es_M μ A) {x : Int32} (h0 : 0 ≤ x.toInt) (h4 : x.toInt < 4) : ∃ s : Nat, s < 4 ∧ x = nI s ∧ x.toInt = s ∧ es_sl A x = A.1.1 s ∧ (A.1.1 s).length ≤ 40 := ⟨x.toInt.toNat, by omega, es_nIof h0, by omega, rfl, (h.1.2.2.2.2 _ (by omega)).1.1⟩
theorem es_len0 {l : List Int} (hl : l.length ≤ 40) : (nI l.length = 0) ↔ l = [] := by
  constructor
  · intro z
    exact List.eq_nil_of_length_eq_zero ((nI_eq (b := 0) (by omega) (by omega)).mp z)
  · intro z; rw [z]; rfl
theorem es_4t {x : Int32} (h : ¬ es_b (es_4ok x) = 0) : 0 ≤ x.toInt ∧ x.toInt < 4 := of_decide_eq_true (Bool.of_not_eq_false (fun z => h (es_b_0.mpr z)))
theorem es_4f {x : Int32} (h : es_b (es_4ok x) = 0) : ¬ es_4ok x = true := by
  rw [es_b_0] at h
  rw [h]; decide
theorem es_4T {x : Int32} (h : 0 ≤ x.toInt ∧ x.toInt < 4) : es_4ok x = true := decide_eq_true h
theorem r_there (d : Nat) {S : es_Sn} {μ : mz_M} (h : mo_sn (μ.1 1) S) : es_I (d + 2) n_Mo_there [mz_R 16 0] μ (fun r μ' => μ' = μ ∧ r = es_pr S 4) := by
  refine es_I.mk (w_Mo_there_0 0 μ ?_)
  have key : ∀ (g k : Nat), k + g = 4 → v_Mo_there (es_R (d + 1)) (es_qI (fun r μ' => μ' = μ ∧ r = es_pr S 4)) (4, [(0, mz_R 16 0), (1, mz_I (es_pr S k)), (2, mz_I (nI k))], [], μ) := by
    intro g
    induction g with
    | zero =>
      intro k hk
      have : k = 4 := by omega
      subst this
      exact w_Mo_there_4 0 _ _ μ (es_t (nI_le (a := 4) (b := 4) (by omega) (by omega)) (es_rI ⟨rfl, rfl⟩))
    | succ g ih =>
      intro k hk
      have nx := ih (k + 1) (by omega)
      have h40 := (h.2.2.2.2 k (by omega)).1.1
      refine w_Mo_there_4 0 _ _ μ (es_f (nI_ge (b := 4) (by omega) (by omega)) ⟨_, _, es_pure (r_many d h (s := k) (by omega)), ?_⟩)
      rw [nI_1]
      refine es_br (fun c => ?_) (fun c => ?_)
      · have c := (nI_leI (b := 0) (by omega) (by omega)).mp c
        have e : es_pr S (k + 1) = es_pr S k := if_pos (List.eq_nil_of_length_eq_zero (by omega))
        rw [e] at nx
        rw [Int32.or_zero]
        exact nx
      · have e : es_pr S (k + 1) = es_pr S k ||| (1 <<< (nI k &&& 31)) := if_neg (fun z => c (by rw [z]; exact nI_le (a := 0) (b := 0) (by omega) (by omega)))
        rw [e] at nx
        exact nx
  exact key 4 0 (by omega)
theorem q_out (d : Nat) {μ : mz_M} {A : es_A} (h : es_M μ A) (s : Int32) : es_I (d + 3) n_Mo_out [mz_R 16 0, mz_I s] μ (mo_ans (es_outA A s)) := by
  refine es_I.mk (w_Mo_out_0 0 s μ ⟨_, _, es_pure (r_isSeries d s μ), es_br (fun q => es_rI ?_) (fun q => ?_)⟩)
  · unfold es_outA
    rw [if_neg (es_4f q)]
    exact ⟨rfl, h⟩
  have b := es_4t q
  obtain ⟨sn, hs, rfl, e1, e2, h40⟩ := h.len b.1 b.2
  unfold es_outA
  rw [if_pos (es_4T b), e2]
  refine ⟨_, _, es_pure (r_many (d + 1) h.1 hs), es_br (fun q2 => es_rI ?_) (fun q2 => ?_)⟩
  · rw [if_pos ((es_len0 h40).mp q2)]
    exact ⟨rfl, h⟩
  · rw [if_neg (fun z => q2 ((es_len0 h40).mpr z)), e1]
    have hw : mo_f mo_X mo_Y μ (mz_wI μ 0 6 0) := mo_f.rf.wI (by unfold mo_X; omega)
    obtain ⟨r, μ1, hC, hr, hM⟩ := r_keeps d (s := sn) (l := []) (h.scr hw) ⟨Nat.zero_le _, by rw [mz_wI_at, if_pos ⟨rfl, rfl⟩]; rfl, fun k hk => absurd hk (Nat.not_lt_zero k)⟩ ⟨Nat.zero_le _, fun k hk => absurd hk (Nat.not_lt_zero k)⟩ hs
    exact ⟨_, _, hC, es_rI ⟨rfl, hM⟩⟩
theorem es_v166 {n : Nat} (h : n < 166) : vp_in (nI n) 166 := vp_in_nI h (by omega)
theorem es_0c : (0 : Int32).toNatClampNeg = 0 := by decide +kernel
theorem es_1c : (1 : Int32).toNatClampNeg = 1 := by decide +kernel
theorem q_length (d : Nat) {μ : mz_M} {A : es_A} (h : es_M μ A) (v : Int32) : es_I (d + 2) n_Mo_length [mz_R 16 0, mz_I v] μ (mo_ans (es_length A v)) := by
  have hn := h.1
  unfold es_length
  refine es_I.mk (w_Mo_length_0 0 v μ ⟨_, _, es_pure (r_inn d v 4 40 (by omega) (by omega) μ), es_br (fun q => es_rI ?_) (fun q => ?_)⟩)
  · have q := es_bf q
    rw [if_pos (by omega)]
    exact ⟨rfl, h⟩
  have q := es_bt q
  rw [if_neg (show ¬ (v.toInt < 4 ∨ 40 < v.toInt) by omega), es_0c, hn.1]
  obtain ⟨vn, h4, h40, rfl⟩ : ∃ vn : Nat, 4 ≤ vn ∧ vn ≤ 40 ∧ v = nI vn := ⟨v.toInt.toNat, by omega, by omega, es_nIof (by omega)⟩
  have h5 := hn.2.2.1
  rw [nI_toInt (by omega)]
  refine ⟨es_v166 (n := 0) (by omega), es_br (fun q2 => es_rI ?_) (fun q2 => ?_)⟩
  · have q2 := (nI_eq (by omega) (by omega)).mp q2
    rw [if_pos (by omega)]
    exact ⟨rfl, h⟩
  · have q2 : ¬ A.1.2.1 = vn := fun z => q2 (by rw [z])
    rw [if_neg (by omega)]
    obtain ⟨μ1, hC, hf1, hah⟩ := r_notes d hn h.2.1
    refine ⟨_, hC, es_v166 (n := 0) (by omega), es_rI ⟨rfl, ?_⟩⟩
    have hw : mo_f (fun q k => q = 1 ∧ k = 0) mo_N μ1 (mz_wI μ1 1 0 (nI vn)) := mo_f.rf.wI ⟨rfl, rfl⟩
    refine h.chg ((hf1.mono (fun q k z => by unfold mo_XN; omega) (fun q z => absurd z id)).tr (hw.mono (fun q k z => by unfold mo_XN; omega) (fun q z => absurd z id))) ?_ ?_
    · have hk : ∀ k, k ≠ 0 → (mz_wI μ1 1 0 (nI vn)).1 1 k = μ.1 1 k := fun k hk => by rw [mz_wI_at, if_neg (fun z => hk z.2), hf1.1 1 k (by omega)]
      obtain ⟨a, b, c, e, f⟩ := hn
      refine ⟨by rw [mz_wI_at, if_pos ⟨rfl, rfl⟩]; rfl, by rw [hk 1 (by omega)]; exact b, ⟨by show 4 ≤ (vn : Int).toNat; omega, by show (vn : Int).toNat ≤ 40; omega⟩, e, fun s hs => ?_⟩
      obtain ⟨f1, f2, f3⟩ := f s hs
      exact ⟨f1, by rw [hk _ (by omega)]; exact f2, fun k hkl => by rw [hk _ (by omega)]; exact f3 k hkl⟩
    · rw [hw.1 0 8 (by omega)]
      exact hah.cong (fun k _ => hw.1 5 k (by omega))
theorem q_seed (d : Nat) {μ : mz_M} {A : es_A} (h : es_M μ A) (v : Int32) : es_I (d + 1) n_Mo_seed [mz_R 16 0, mz_I v] μ (mo_ans (es_seed A v)) := by
  have hn := h.1
  unfold es_seed
  refine es_I.mk (w_Mo_seed_0 0 v μ (es_br (fun q => ⟨es_v166 (n := 1) (by omega), es_v166 (n := 1) (by omega), es_rI ?_⟩) (fun q => es_rI ?_)))
  · have q := (es_gen 0 (by omega)).mp q
    rw [if_pos (by omega), es_1c]
    have hw : mo_f (fun q k => q = 1 ∧ k = 1) mo_N μ (mz_wI μ 1 1 v) := mo_f.rf.wI ⟨rfl, rfl⟩
    refine ⟨hn.2.1, h.chg (hw.mono (fun q k z => by unfold mo_XN; omega) (fun q z => absurd z id)) ?_ ?_⟩
    · have hk : ∀ k, k ≠ 1 → (mz_wI μ 1 1 v).1 1 k = μ.1 1 k := fun k hk => by rw [mz_wI_at, if_neg (fun z => hk z.2)]
      obtain ⟨a, b, c, e, f⟩ := hn
      refine ⟨by rw [hk 0 (by omega)]; exact a, by rw [mz_wI_at, if_pos ⟨rfl, rfl⟩], c, by show 0 ≤ v.toInt; omega, fun s hs => ?_⟩
      obtain ⟨f1, f2, f3⟩ := f s hs
      exact ⟨f1, by rw [hk _ (by omega)]; exact f2, fun k hkl => by rw [hk _ (by omega)]; exact f3 k hkl⟩
    · rw [hw.1 0 8 (by omega)]
      exact h.2.1.cong (fun k _ => hw.1 5 k (by omega))
  · have q := es_ngen 0 (by omega) q
    rw [if_neg (by omega)]
    exact ⟨rfl, h⟩
theorem q_undo (d : Nat) {μ : mz_M} {A : es_A} (h : es_M μ A) : es_I (d + 1) n_Mo_undo [mz_R 16 0] μ (mo_ans (es_undo A)) := by
  obtain ⟨u1, u2, u3⟩ := h.2.1
  refine es_I.mk (w_Mo_undo_0 0 μ ?_)
  unfold es_undo
  rw [u2]
  cases hU : A.2.1 with
  | nil =>
    exact es_t rfl (es_rI ⟨rfl, h⟩)
  | cons S V =>
    rw [hU] at u1 u3
    have hl : (S :: V).length = V.length + 1 := rfl
    rw [hl] at u1 u3 ⊢
    refine es_f (nI_ne0 (by omega) (by omega)) ?_
    rw [show (1 : Int32) = nI 1 from rfl, pk_sub (by omega), Nat.add_sub_cancel]
    have key : ∀ (g k : Nat) (μ' : mz_M), k + g = 166 → mo_f (fun q k => q = 1 ∨ (q = 0 ∧ k = 8)) mo_N μ μ' → μ'.1 0 8 = nI V.length → (∀ j, j < k → μ'.1 1 j = μ.1 5 (166 * V.length + j)) → v_Mo_undo (es_R d) (es_qI (mo_ans (nI V.length, (S, V, A.2.2)))) (22, [(0, mz_R 16 0), (1, mz_I (nI k))], [], μ') := by
      intro g
      induction g with
      | zero =>
        intro k μ' hk hf h8 hc
        refine w_Mo_undo_22 0 _ μ' (es_t (nI_le (a := 166) (by omega) (by omega)) (es_rI ⟨h8, ?_⟩))
        refine h.chg (hf.mono (fun q k z => by unfold mo_XN; omega) (fun q z => absurd z id)) ?_ ⟨by omega, h8, fun j S' hj => ?_⟩
        · exact (u3 0 S rfl).cong (fun i hi => hc i (by omega))
        · have hjl := mo_ah_lt hj
          refine (u3 (j + 1) S' hj).cong (fun i hi => ?_)
          show μ'.1 5 _ = μ.1 5 _
          rw [hf.1 5 _ (by omega)]
          exact congrArg (μ.1 5) (by omega)
      | succ g ih =>
        intro k μ' hk hf h8 hc
        refine w_Mo_undo_22 0 _ μ' (es_f (nI_ge (b := 166) (by omega) (by omega)) ?_)
        rw [h8, show (166 : Int32) = nI 166 from rfl, pk_mul, nI_add, es_clamp (show 166 * V.length + k < 2147483648 by omega), es_clamp (show k < 2147483648 by omega), nI_1]
        refine ⟨vp_in_nI (by omega) (by omega), vp_in_nI (by omega) (by omega), ih (k + 1) _ (by omega) (hf.wI (Or.inl rfl)) (by rw [mz_wI_at, if_neg (by omega)]; exact h8) (fun j hj => ?_)⟩
        rw [mz_wI_at]
        by_cases e : j = k
        · rw [if_pos ⟨rfl, e⟩, e]
          exact hf.1 5 _ (by omega)
        · rw [if_neg (fun z => e z.2)]
          exact hc j (by omega)
    exact key 166 0 _ (by omega) (mo_f.rf.wI (Or.inr ⟨rfl, rfl⟩)) (by rw [mz_wI_at, if_pos ⟨rfl, rfl⟩]) (fun j hj => absurd hj (Nat.not_lt_zero j))
theorem q_term (d : Nat) {μ : mz_M} {A : es_A} (h : es_M μ A) (s k : Int32) : es_I (d + 3) n_Mo_term [mz_R 16 0, mz_I s, mz_I k] μ (mo_ans (es_term A s k, A)) := by
  unfold es_term
  refine es_I.mk (w_Mo_term_0 0 s k μ ⟨_, _, es_pure (r_isSeries d s μ), es_br (fun q => es_rI ⟨?_, h⟩) (fun q => es_br (fun q2 => ?_) (fun q2 => es_rI ⟨?_, h⟩))⟩)
  · rw [if_neg (fun z => es_4f q z.1)]
  · have b := es_4t q
    have q2 := (es_gen 0 (by omega)).mp q2
    obtain ⟨sn, hs, rfl, e1, e2, h40⟩ := h.len b.1 b.2
    rw [if_pos ⟨es_4T b, q2⟩, e2]
    refine ⟨_, _, es_pure (r_many (d + 1) h.1 hs), es_br (fun q3 => es_rI ⟨?_, h⟩) (fun q3 => ⟨_, _, es_pure (r_many (d + 1) h.1 hs), es_br (fun q4 => es_rI ⟨?_, h⟩) (fun q4 => ?_)⟩)⟩
    · rw [if_pos ((es_len0 h40).mp q3)]
    · have q4 := (es_gen _ (by omega)).mp q4
      rw [if_neg (fun z => q3 ((es_len0 h40).mpr z)), if_pos q4]
    · have q4 := es_ngen _ (by omega) q4
      obtain ⟨kn, hk, rfl⟩ : ∃ kn : Nat, kn < (A.1.1 sn).length ∧ k = nI kn := ⟨k.toInt.toNat, by omega, es_nIof q2⟩
      obtain ⟨r, hA, hr⟩ := es_pur (r_termOf (d + 1) h.1 hs hk)
      refine ⟨_, _, hA, es_rI ⟨?_, h⟩⟩
      rw [if_neg (fun z => q3 ((es_len0 h40).mpr z)), if_neg (by omega), nI_toInt (by omega)]
      exact es_ofI hr
  · have q2 := es_ngen 0 (by omega) q2
    rw [if_neg (fun z => by have := z.2; omega)]
theorem q_count (d : Nat) {μ : mz_M} {A : es_A} (h : es_M μ A) (w : Int32) : es_I (d + 3) n_Mo_count [mz_R 16 0, mz_I w] μ (mo_ans (es_count A w, A)) := by
  have mid : ∀ c : Nat, 2 ≤ c → c ≤ 5 → w = nI c → (∃ (r4 : Int32) (μ3 : mz_M), es_R (d + 2) n_Mo_many [mz_R 16 0, mz_I (w - 2)] μ (some (mz_I r4)) μ3 ∧ (es_qI (mo_ans (es_count A w, A)) (some (mz_I r4)) μ3)) := by
    intro c h2 h5 hw
    have hwi := (es_eqn c (by omega)).mp hw
    have e : w - 2 = nI (c - 2) := by rw [hw, show (2 : Int32) = nI 2 from rfl, pk_sub h2]
    rw [e]
    refine ⟨_, _, es_pure (r_many (d + 1) h.1 (s := c - 2) (by omega)), es_rI ⟨?_, h⟩⟩
    unfold es_count
    rw [if_neg (by omega), if_neg (by omega), if_pos (by omega), hwi]
    rfl
  refine es_I.mk (w_Mo_count_0 0 w μ (es_br (fun q => ⟨es_v166 (n := 0) (by omega), es_rI ⟨?_, h⟩⟩) (fun q0 => es_br (fun q => ⟨_, _, es_pure (r_there d h.1), es_rI ⟨?_, h⟩⟩) (fun q1 => es_br (fun q => mid 2 (by omega) (by omega) q) (fun q2 => es_br (fun q => mid 3 (by omega) (by omega) q) (fun q3 => es_br (fun q => mid 4 (by omega) (by omega) q) (fun q4 => es_br (fun q => mid 5 (by omega) (by omega) q) (fun q5 => es_br (fun q => es_rI ⟨?_, h⟩) (fun q6 => es_br (fun q => es_rI ⟨?_, h⟩) (fun q7 => es_br (fun q => es_rI ⟨?_, h⟩) (fun q8 => es_rI ⟨?_, h⟩)))))))))))
  all_goals unfold es_count
  · have q := (es_eqn 0 (by omega)).mp q
    rw [if_pos (by omega), es_0c]
    exact h.1.1
  · have q := (es_eqn 1 (by omega)).mp q
    rw [if_neg (by omega), if_pos (by omega)]
  · have q := (es_eqn 6 (by omega)).mp q
    rw [if_neg (by omega), if_neg (by omega), if_neg (by omega), if_pos (by omega)]
    exact h.2.2.2.2.1.1
  · have q := (es_eqn 7 (by omega)).mp q
    rw [if_neg (by omega), if_neg (by omega), if_neg (by omega), if_neg (by omega), if_pos (by omega)]
    exact h.2.2.2.2.1.2
  · have q := (es_eqn 8 (by omega)).mp q
    rw [if_neg (by omega), if_neg (by omega), if_neg (by omega), if_neg (by omega), if_neg (by omega), if_pos (by omega)]
    exact h.2.1.2.1
  · have q0 := es_neqn 0 (by omega) q0
    have q1 := es_neqn 1 (by omega) q1
    have q2 := es_neqn 2 (by omega) q2
    have q3 := es_neqn 3 (by omega) q3
    have q4 := es_neqn 4 (by omega) q4
    have q5 := es_neqn 5 (by omega) q5
    have q6 := es_neqn 6 (by omega) q6
    have q7 := es_neqn 7 (by omega) q7
    have q8 := es_neqn 8 (by omega) q8
    rw [if_neg (by omega), if_neg (by omega), if_neg (by omega), if_neg (by omega), if_neg (by omega), if_neg (by omega)]
theorem q_type (d : Nat) {μ : mz_M} {A : es_A} (h : es_M μ A) (v : Int32) : es_I (d + 2) n_Mo_type [mz_R 16 0, mz_I v] μ (mo_ans (es_type A v)) := by
  obtain ⟨t1, t2, t3⟩ := h.2.2.2.1
  generalize hT : A.2.2.2.1 = T at t1 t2 t3
  unfold es_type
  refine es_I.mk (w_Mo_type_0 0 v μ ⟨_, _, es_pure (r_inn d v 32 126 (by omega) (by omega) μ), es_br (fun q => es_rI ?_) (fun q => ?_)⟩)
  · have q := es_bf q
    rw [if_pos (by omega)]
    exact ⟨rfl, h⟩
  have q := es_bt q
  rw [if_neg (show ¬ (v.toInt < 32 ∨ 126 < v.toInt) by omega), hT, t2]
  refine es_br (fun c => es_rI ?_) (fun c => ?_)
  · have c := (nI_eq (b := 60) (by omega) (by omega)).mp c
    rw [if_pos c]
    exact ⟨rfl, h⟩
  · have c : ¬ T.length = 60 := fun z => c (by rw [z]; rfl)
    rw [if_neg c, es_clamp (by omega), mz_wI_at, if_pos ⟨rfl, rfl⟩]
    have e10 : (mz_wI μ 6 T.length v).1 0 10 = nI T.length := by rw [mz_wI_at, if_neg (by omega)]; exact t2
    rw [e10, nI_1]
    refine ⟨vp_in_nI (by omega) (by omega), es_rI ⟨rfl, ?_⟩⟩
    have hf : mo_f (fun q k => q = 6 ∨ (q = 0 ∧ k = 10)) mo_N μ (mz_wI (mz_wI μ 6 T.length v) 0 10 (nI (T.length + 1))) := (mo_f.rf.wI (Or.inl rfl)).wI (Or.inr ⟨rfl, rfl⟩)
    obtain ⟨a1, a2, a3, a4, a5, a6⟩ := h
    refine ⟨a1.cong (fun k _ => hf.1 1 k (by omega)), ?_, a3.kept hf (by omega) (fun k => by omega) (fun k => by omega), ⟨?_, ?_, fun k hk => ?_⟩, ⟨?_, ?_⟩, fun k hk => (a6 k hk).kept hf (by omega) (by omega) id⟩
    · rw [hf.1 0 8 (by omega)]
      exact a2.cong (fun k _ => hf.1 5 k (by omega))
    · show (T ++ [v.toInt.toNat]).length ≤ 60
      rw [List.length_append]
      show T.length + 1 ≤ 60
      omega
    · rw [mz_wI_at, if_pos ⟨rfl, rfl⟩]
      show nI (T.length + 1) = nI (T ++ [v.toInt.toNat]).length
      rw [List.length_append]; rfl
    · have hk : k < (T ++ [v.toInt.toNat]).length := hk
      rw [List.length_append] at hk
      have hk : k < T.length + 1 := hk
      show _ = nI ((T ++ [v.toInt.toNat]).getD k 0) ∧ 32 ≤ (T ++ [v.toInt.toNat]).getD k 0 ∧ (T ++ [v.toInt.toNat]).getD k 0 ≤ 126
      rw [mz_wI_at, if_neg (by omega), mz_wI_at]
      by_cases e2 : k = T.length
      · subst e2
        have e3 : (T ++ [v.toInt.toNat]).getD T.length 0 = v.toInt.toNat := by
          rw [List.getD_eq_getElem?_getD, List.getElem?_append_right (by omega), Nat.sub_self]; rfl
        rw [e3, if_pos ⟨rfl, rfl⟩]
        exact ⟨es_nIof (by omega), by omega, by omega⟩
      · have e3 : (T ++ [v.toInt.toNat]).getD k 0 = T.getD k 0 := by
          rw [List.getD_eq_getElem?_getD, List.getElem?_append_left (by omega), ← List.getD_eq_getElem?_getD]
        rw [e3, if_neg (fun z => e2 z.2)]
        exact t3 k (by omega)
    · rw [hf.1 0 12 (by omega)]; exact a5.1
    · rw [hf.1 0 13 (by omega)]; exact a5.2
theorem q_image (d : Nat) {μ : mz_M} {A : es_A} (h : es_M μ A) : es_I (d + 1) n_Mo_image [mz_R 16 0] μ (mo_ans (es_image A)) := by
  refine es_I.mk (w_Mo_image_0 0 μ ?_)
  have k2 : ∀ (g k : Nat) (μ' : mz_M), k + g = 996 → mo_f (fun q k => q = 11 ∨ q = 12) mo_N μ μ' → (∀ j, j < 166 → μ'.1 11 j = μ.1 1 j) → (∀ j, j < k → μ'.1 12 j = μ.1 5 j) → v_Mo_image (es_R d) (es_qI (mo_ans (es_image A))) (29, [(0, mz_R 16 0), (1, mz_I (nI k))], [], μ') := by
    intro g
    induction g with
    | zero =>
      intro k μ' hk hf h11 h12
      refine w_Mo_image_29 0 _ μ' (es_t (nI_le (a := 996) (by omega) (by omega)) (es_rI ⟨rfl, ?_⟩))
      have hf2 : mo_f (fun q k => q = 11 ∨ q = 12 ∨ (q = 0 ∧ k = 23)) mo_N μ (mz_wI μ' 0 23 (μ'.1 0 8)) := (hf.mono (fun q k z => by omega) (fun q z => z)).wI (Or.inr (Or.inr ⟨rfl, rfl⟩))
      have w11 : ∀ j, (mz_wI μ' 0 23 (μ'.1 0 8)).1 11 j = μ'.1 11 j := fun j => by rw [mz_wI_at, if_neg (by omega)]
      have w12 : ∀ j, (mz_wI μ' 0 23 (μ'.1 0 8)).1 12 j = μ'.1 12 j := fun j => by rw [mz_wI_at, if_neg (by omega)]
      obtain ⟨a1, a2, a3, a4, a5, a6⟩ := h
      refine ⟨a1.cong (fun k _ => hf2.1 1 k (by omega)), ?_, ⟨a1.cong (fun j hj => by rw [w11]; exact h11 j hj), ?_⟩, a4.kept hf2 (by omega) (fun k => by omega), ⟨?_, ?_⟩, fun k hk => (a6 k hk).kept hf2 (by omega) (by omega) id⟩
      · rw [hf2.1 0 8 (by omega)]
        exact a2.cong (fun k _ => hf2.1 5 k (by omega))
      · have e23 : (mz_wI μ' 0 23 (μ'.1 0 8)).1 0 23 = μ.1 0 8 := by rw [mz_wI_at, if_pos ⟨rfl, rfl⟩]; exact hf.1 0 8 (by omega)
        rw [e23]
        exact a2.cong (fun j hj => by rw [w12]; exact h12 j (by omega))
      · rw [hf2.1 0 12 (by omega)]; exact a5.1
      · rw [hf2.1 0 13 (by omega)]; exact a5.2
    | succ g ih =>
      intro k μ' hk hf h11 h12
      refine w_Mo_image_29 0 _ μ' (es_f (nI_ge (b := 996) (by omega) (by omega)) ?_)
      rw [es_clamp (by omega), nI_1]
      refine ⟨vp_in_nI (by omega) (by omega), vp_in_nI (by omega) (by omega), ih (k + 1) _ (by omega) (hf.wI (Or.inr rfl)) (fun j hj => by rw [mz_wI_at, if_neg (by omega)]; exact h11 j hj) (fun j hj => ?_)⟩
      rw [mz_wI_at]
      by_cases e : j = k
      · rw [if_pos ⟨rfl, e⟩, e]
        exact hf.1 5 k (by omega)
      · rw [if_neg (fun z => e z.2)]
        exact h12 j (by omega)
  have k1 : ∀ (g k : Nat) (μ' : mz_M), k + g = 166 → mo_f (fun q k => q = 11 ∨ q = 12) mo_N μ μ' → (∀ j, j < k → μ'.1 11 j = μ.1 1 j) → v_Mo_image (es_R d) (es_qI (mo_ans (es_image A))) (2, [(0, mz_R 16 0), (1, mz_I (nI k))], [], μ') := by
    intro g
    induction g with
    | zero =>
      intro k μ' hk hf h11
      refine w_Mo_image_2 0 _ μ' (es_t (nI_le (a := 166) (by omega) (by omega)) ?_)
      exact k2 996 0 μ' (by omega) hf (fun j hj => h11 j (by omega)) (fun j hj => absurd hj (Nat.not_lt_zero j))
    | succ g ih =>
      intro k μ' hk hf h11
      refine w_Mo_image_2 0 _ μ' (es_f (nI_ge (b := 166) (by omega) (by omega)) ?_)
      rw [es_clamp (by omega), nI_1]
      refine ⟨vp_in_nI (by omega) (by omega), vp_in_nI (by omega) (by omega), ih (k + 1) _ (by omega) (hf.wI (Or.inl rfl)) (fun j hj => ?_)⟩
      rw [mz_wI_at]
      by_cases e : j = k
      · rw [if_pos ⟨rfl, e⟩, e]
        exact hf.1 1 k (by omega)
      · rw [if_neg (fun z => e z.2)]
        exact h11 j (by omega)
  exact k1 166 0 μ (by omega) mo_f.rf (fun j hj => absurd hj (Nat.not_lt_zero j))
theorem q_restore (d : Nat) {μ : mz_M} {A : es_A} (h : es_M μ A) : es_I (d + 1) n_Mo_restore [mz_R 16 0] μ (mo_ans (es_restore A)) := by
  have him := h.2.2.1
  refine es_I.mk (w_Mo_restore_0 0 μ ?_)
  unfold es_restore
  cases hK : A.2.2.1 with
  | none =>
    rw [hK] at him
    have him : (μ.1 0 23).toInt < 0 := him
    exact es_f (fun z => by have := es_hle z; rw [es_i0] at this; omega) (es_rI ⟨rfl, h⟩)
  | some q =>
    rw [hK] at him
    obtain ⟨i1, i2⟩ := him
    refine es_t (by rw [i2.2.1]; exact nI_pos' (by have := i2.1; omega)) ?_
    have k2 : ∀ (g k : Nat) (μ' : mz_M), k + g = 996 → mo_f (fun q k => q = 1 ∨ q = 5) mo_N μ μ' → (∀ j, j < 166 → μ'.1 1 j = μ.1 11 j) → (∀ j, j < k → μ'.1 5 j = μ.1 12 j) → v_Mo_restore (es_R d) (es_qI (mo_ans (1, (q.1, q.2, A.2.2)))) (39, [(0, mz_R 16 0), (1, mz_I (nI k))], [], μ') := by
      intro g
      induction g with
      | zero =>
        intro k μ' hk hf h11 h12
        refine w_Mo_restore_39 0 _ μ' (es_t (nI_le (a := 996) (by omega) (by omega)) (es_rI ⟨rfl, ?_⟩))
        have hf2 : mo_f mo_XN mo_Y μ (mz_wI μ' 0 8 (μ'.1 0 23)) := (hf.mono (fun q k z => by unfold mo_XN; omega) (fun q z => absurd z id)).wI (by unfold mo_XN; omega)
        refine h.chg hf2 (i1.cong (fun j hj => ?_)) ?_
        · rw [mz_wI_at, if_neg (by omega)]; exact h11 j hj
        · have e8 : (mz_wI μ' 0 8 (μ'.1 0 23)).1 0 8 = μ.1 0 23 := by rw [mz_wI_at, if_pos ⟨rfl, rfl⟩]; exact hf.1 0 23 (by omega)
          rw [e8]
          refine i2.cong (fun j hj => ?_)
          rw [mz_wI_at, if_neg (by omega)]; exact h12 j (by omega)
      | succ g ih =>
        intro k μ' hk hf h11 h12
        refine w_Mo_restore_39 0 _ μ' (es_f (nI_ge (b := 996) (by omega) (by omega)) ?_)
        rw [es_clamp (by omega), nI_1]
        refine ⟨vp_in_nI (by omega) (by omega), vp_in_nI (by omega) (by omega), ih (k + 1) _ (by omega) (hf.wI (Or.inr rfl)) (fun j hj => by rw [mz_wI_at, if_neg (by omega)]; exact h11 j hj) (fun j hj => ?_)⟩
        rw [mz_wI_at]
        by_cases e : j = k
        · rw [if_pos ⟨rfl, e⟩, e]
          exact hf.1 12 k (by omega)
        · rw [if_neg (fun z => e z.2)]
          exact h12 j (by omega)
    have k1 : ∀ (g k : Nat) (μ' : mz_M), k + g = 166 → mo_f (fun q k => q = 1 ∨ q = 5) mo_N μ μ' → (∀ j, j < k → μ'.1 1 j = μ.1 11 j) → v_Mo_restore (es_R d) (es_qI (mo_ans (1, (q.1, q.2, A.2.2)))) (12, [(0, mz_R 16 0), (1, mz_I (nI k))], [], μ') := by
      intro g
      induction g with
      | zero =>
        intro k μ' hk hf h11
        refine w_Mo_restore_12 0 _ μ' (es_t (nI_le (a := 166) (by omega) (by omega)) ?_)
        exact k2 996 0 μ' (by omega) hf (fun j hj => h11 j (by omega)) (fun j hj => absurd hj (Nat.not_lt_zero j))
      | succ g ih =>
        intro k μ' hk hf h11
        refine w_Mo_restore_12 0 _ μ' (es_f (nI_ge (b := 166) (by omega) (by omega)) ?_)
        rw [es_clamp (by omega), nI_1]
        refine ⟨vp_in_nI (by omega) (by omega), vp_in_nI (by omega) (by omega), ih (k + 1) _ (by omega) (hf.wI (Or.inl rfl)) (fun j hj => ?_)⟩
        rw [mz_wI_at]
        by_cases e : j = k
        · rw [if_pos ⟨rfl, e⟩, e]
          exact hf.1 11 k (by omega)
        · rw [if_neg (fun z => e z.2)]
          exact h11 j (by omega)
    exact k1 166 0 μ (by omega) mo_f.rf (fun j hj => absurd hj (Nat.not_lt_zero j))
