/-! type, drift, first, fits, found of the class. -/
def es_type (A : es_A) (v : Int32) : Int32 × es_A := if v.toInt < 32 ∨ 126 < v.toInt then (-1000001, A) else if A.2.2.2.1.length = 60 then (-1000003, A) else (nI (A.2.2.2.1.length + 1), (A.1, A.2.1, A.2.2.1, A.2.2.2.1 ++ [v.toInt.toNat], A.2.2.2.2))
theorem c_type (d : Nat) {μ : mz_M} {A : es_A} (h : es_C μ A) (v : Int32) : es_I (d + 2) n_ES_type [mz_R 0 0, mz_I v] μ (es_ans (es_type A v)) := by
  obtain ⟨t1, t2, t3⟩ := h.2.2.2.1
  generalize hT : A.2.2.2.1 = T at t1 t2 t3
  refine es_I.mk (w_ES_type_0 0 v μ (es_br (fun q => es_rI ?_) (fun q => es_br (fun q2 => ?_) (fun q2 => es_rI ?_))))
  · have q := (es_ltn 32 (by omega)).mp q
    unfold es_type
    rw [if_pos (by omega)]
    exact ⟨rfl, h⟩
  · have q := es_nltn 32 (by omega) q
    have q2 := (es_len 126 (by omega)).mp q2
    unfold es_type
    rw [if_neg (by omega), hT]
    by_cases e : T.length = 60
    · rw [if_pos e]
      have hC : es_I (d + 1) n_Tape_write [mz_R 7 146, mz_I v] μ (fun r μ' => μ' = μ ∧ r = 0) := es_I.mk (w_Tape_write_0 146 v μ (es_f (by rw [t2]; exact nI_pos (by omega)) (es_f (by rw [t2, e]; decide +kernel) ⟨Or.inl rfl, es_rI ⟨rfl, rfl⟩⟩)))
      exact ⟨_, _, es_pure hC, es_t rfl (es_rI ⟨rfl, h⟩)⟩
    · rw [if_neg e]
      have hC : es_I (d + 1) n_Tape_write [mz_R 7 146, mz_I v] μ (fun r μ' => r = 1 ∧ μ' = mz_wI (mz_wI μ 147 T.length v) 146 1 (nI (T.length + 1))) := by
        refine es_I.mk (w_Tape_write_0 146 v μ (es_f (by rw [t2]; exact nI_pos (by omega)) (es_t (by rw [t2]; exact nI_lt (by omega) (by omega)) ⟨by rw [t2]; exact vp_in_nI (by omega) (by omega), Or.inr rfl, es_rI ⟨rfl, ?_⟩⟩)))
        rw [t2, es_clamp (by omega), mz_wI_at, if_neg (by omega), t2, nI_1]
      obtain ⟨r, μ1, hD, rfl, rfl⟩ := hC
      refine ⟨_, _, hD, es_f (by decide +kernel) (es_rI ⟨?_, ?_⟩)⟩
      · show (mz_wI (mz_wI μ 147 T.length v) 146 1 (nI (T.length + 1))).1 146 1 = _
        rw [mz_wI_at, if_pos ⟨rfl, rfl⟩]
      · have hf : es_fr (fun z => z = 146 ∨ z = 147) μ (mz_wI (mz_wI μ 147 T.length v) 146 1 (nI (T.length + 1))) := (es_fr.rf.wI (Or.inr rfl)).wI (Or.inl rfl)
        obtain ⟨a1, a2, a3, a4, a5, a6⟩ := h
        refine ⟨a1.kept hf (fun z a b => by omega), a2.kept hf (fun z a b => by omega), a3.kept hf (by omega) (fun z a b => by omega), ⟨?_, ?_, fun k hk => ?_⟩, ?_, fun k hk => (a6 k hk).kept hf (by omega) (by omega)⟩
        · show (T ++ [v.toInt.toNat]).length ≤ 60
          rw [List.length_append]
          show T.length + 1 ≤ 60
          omega
        · rw [mz_wI_at, if_pos ⟨rfl, rfl⟩]
          show nI (T.length + 1) = nI (T ++ [v.toInt.toNat]).length
          rw [List.length_append]; rfl
        · have hk : k < (T ++ [v.toInt.toNat]).length := hk
          rw [List.length_append] at hk
          have hk : k < T.length + 1 := hk
          show _ = nI ((T ++ [v.toInt.toNat]).getD k 0) ∧ 32 ≤ (T ++ [v.toInt.toNat]).getD k 0 ∧ (T ++ [v.toInt.toNat]).getD k 0 ≤ 126
          rw [mz_wI_at, if_neg (by omega), mz_wI_at]
          by_cases e2 : k = T.length
          · subst e2
            have e3 : (T ++ [v.toInt.toNat]).getD T.length 0 = v.toInt.toNat := by
              rw [List.getD_eq_getElem?_getD, List.getElem?_append_right (by omega), Nat.sub_self]; rfl
            rw [e3, if_pos ⟨rfl, rfl⟩]
            exact ⟨es_nIof (by omega), by omega, by omega⟩
          · have e3 : (T ++ [v.toInt.toNat]).getD k 0 = T.getD k 0 := by
              rw [List.getD_eq_getElem?_getD, List.getElem?_append_left (by omega), ← List.getD_eq_getElem?_getD]
            rw [e3, if_neg (fun z => e2 z.2)]
            exact t3 k (by omega)
        · rw [(hf 145 (by omega)).1]
          exact a5
  · have q2 := es_nlen 126 (by omega) q2
    unfold es_type
    rw [if_pos (by omega)]
    exact ⟨rfl, h⟩
def es_d1 (A : es_A) : es_A := (es_td A.1, (A.1 :: A.2.1).take 6, A.2.2)
def es_dn (A : es_A) : Nat → es_A
  | 0 => A
  | n + 1 => es_d1 (es_dn A n)
def es_drift (A : es_A) (n : Int32) : Int32 × es_A := if n.toInt < 1 ∨ 40 < n.toInt then (-1000001, A) else (es_pr (es_dn A n.toInt.toNat).1 4, es_dn A n.toInt.toNat)
theorem c_drift (d : Nat) {μ : mz_M} {A : es_A} (h : es_C μ A) (n : Int32) : es_I (d + 5) n_ES_drift [mz_R 0 0, mz_I n] μ (es_ans (es_drift A n)) := by
  refine es_I.mk (w_ES_drift_0 0 n μ (es_br (fun q => es_rI ?_) (fun q => es_br (fun q2 => ?_) (fun q2 => es_rI ?_))))
  · have q := (es_ltn 1 (by omega)).mp q
    unfold es_drift
    rw [if_pos (by omega)]
    exact ⟨rfl, h⟩
  · have q := es_nltn 1 (by omega) q
    have q2 := (es_len 40 (by omega)).mp q2
    unfold es_drift
    rw [if_neg (by omega)]
    obtain ⟨m, hm, rfl⟩ : ∃ m : Nat, m ≤ 40 ∧ n = nI m := ⟨n.toInt.toNat, by omega, es_nIof (by omega)⟩
    rw [nI_toInt (by omega)]
    show v_ES_drift (es_R (d + 4)) (es_qI (es_ans (es_pr (es_dn A m).1 4, es_dn A m))) _
    have key : ∀ (g k : Nat) (μ' : mz_M), m - k ≤ g → k ≤ m → es_C μ' (es_dn A k) → v_ES_drift (es_R (d + 4)) (es_qI (es_ans (es_pr (es_dn A m).1 4, es_dn A m))) (16, [(0, mz_R 0 0), (1, mz_I (nI m)), (2, mz_I (nI k))], [], μ') := by
      have stop : ∀ (k : Nat) (μ' : mz_M), k = m → es_C μ' (es_dn A k) → v_ES_drift (es_R (d + 4)) (es_qI (es_ans (es_pr (es_dn A m).1 4, es_dn A m))) (16, [(0, mz_R 0 0), (1, mz_I (nI m)), (2, mz_I (nI k))], [], μ') := by
        intro k μ' hk hc
        subst hk
        exact w_ES_drift_16 0 _ _ μ' (es_t (nI_le (by omega) (by omega)) ⟨_, _, es_pure (s_present (d + 3) hc.1), es_rI ⟨rfl, hc⟩⟩)
      intro g
      induction g with
      | zero => exact fun k μ' hg hk hc => stop k μ' (by omega) hc
      | succ g ih =>
        intro k μ' hg hk hc
        by_cases e : k = m
        · exact stop k μ' e hc
        · refine w_ES_drift_16 0 _ _ μ' (es_f (nI_ge (by omega) (by omega)) ?_)
          obtain ⟨μ1, hC, hf1, hu⟩ := s_remember (d + 1) (P := 11) (q := 1) hc.2.1 hc.1 (by omega)
          refine ⟨_, hC, ?_⟩
          obtain ⟨μ2, hD, hf2, hs2⟩ := s_turnDraw d (hc.1.kept hf1 (fun z a b c => by unfold es_bk at c; omega))
          refine ⟨_, hD, ?_⟩
          rw [nI_1]
          refine ih (k + 1) μ2 (by omega) (by omega) ?_
          refine hc.chg ((hf1.mono (fun z hz => ?_)).tr (hf2.mono (fun z hz => ?_))) hs2 (hu.kept hf2 (fun z a b c => by unfold es_bk at c; omega))
          · unfold es_bk at hz; unfold es_wk; omega
          · unfold es_bk at hz; unfold es_wk; omega
    exact key m 0 μ (by omega) (by omega) h
  · have q2 := es_nlen 40 (by omega) q2
    unfold es_drift
    rw [if_pos (by omega)]
    exact ⟨rfl, h⟩
/-- the first place at which two lists differ -/
def es_fu (l1 l2 : List Int) : Option Nat := es_fs (fun k => decide (l1.getD k 0 ≠ l2.getD k 0)) (min l1.length l2.length) 0
theorem s_firstUnlike (d : Nat) {p q : Nat} {μ : mz_M} {l1 l2 : List Int} (h1 : es_row μ p l1) (h2 : es_row μ q l2) : es_I (d + 2) n_ES_firstUnlike [mz_R 3 p, mz_R 3 q] μ (fun r μ' => μ' = μ ∧ r = es_lvI (es_fu l1 l2)) := by
  have c1 := h1.1.1
  have c2 := h2.1.1
  refine es_I.mk (w_ES_firstUnlike_0 p q μ ?_)
  rw [h1.2.1, h2.2.1]
  refine ⟨_, _, es_pure (s_min_n d (by omega) (by omega) μ), ?_⟩
  unfold es_fu
  generalize hn : min l1.length l2.length = n
  have key : ∀ (g k : Nat), k + g = n → es_fs (fun k => decide (l1.getD k 0 ≠ l2.getD k 0)) n 0 = es_fs (fun k => decide (l1.getD k 0 ≠ l2.getD k 0)) g k → v_ES_firstUnlike (es_R (d + 1)) (es_qI (fun r μ' => μ' = μ ∧ r = es_lvI (es_fs (fun k => decide (l1.getD k 0 ≠ l2.getD k 0)) n 0))) (14, [(0, mz_R 3 p), (1, mz_R 3 q), (2, mz_I (nI n)), (3, mz_I (nI k))], [], μ) := by
    intro g
    induction g with
    | zero =>
      intro k hk he
      refine w_ES_firstUnlike_14 p q _ _ μ (es_t (nI_le (by omega) (by omega)) (es_rI ⟨rfl, ?_⟩))
      rw [he]; rfl
    | succ g ih =>
      intro k hk he
      refine w_ES_firstUnlike_14 p q _ _ μ (es_f (nI_ge (by omega) (by omega)) ?_)
      obtain ⟨a, hA, ha⟩ := es_pur (s_at_n d (k := k) h1 (by omega))
      obtain ⟨b, hB, hb⟩ := es_pur (s_at_n d (k := k) h2 (by omega))
      refine ⟨_, _, hA, _, _, hB, es_br (fun c => ?_) (fun c => es_rI ⟨rfl, ?_⟩)⟩
      · rw [nI_1]
        refine ih (k + 1) (by omega) ?_
        rw [he]
        show (if decide (l1.getD k 0 ≠ l2.getD k 0) = true then some k else es_fs _ g (k + 1)) = _
        rw [if_neg]
        rw [decide_eq_true_eq, ← ha, ← hb, c]
        exact fun z => z rfl
      · rw [he]
        show nI k = es_lvI (if decide (l1.getD k 0 ≠ l2.getD k 0) = true then some k else es_fs _ g (k + 1))
        rw [if_pos]
        · rfl
        · rw [decide_eq_true_eq, ← ha, ← hb]
          exact es_neq c
  exact key n 0 (by omega) rfl
def es_first (A : es_A) (a b : Int32) : Int32 := if es_4ok a = true ∧ es_4ok b = true then (if es_sl A a = [] ∨ es_sl A b = [] then -1000011 else es_lvI (es_fu (es_sl A a) (es_sl A b))) else -1000001
theorem c_first (d : Nat) {μ : mz_M} {A : es_A} (h : es_C μ A) (a b : Int32) : es_I (d + 3) n_ES_first [mz_R 0 0, mz_I a, mz_I b] μ (es_ans (es_first A a b, A)) := by
  refine es_I.mk (w_ES_first_0 0 a b μ ?_)
  have bad : ¬ (es_4ok a = true ∧ es_4ok b = true) → es_qI (es_ans (es_first A a b, A)) (some (mz_I (-1000001))) μ := by
    intro z
    unfold es_first
    rw [if_neg z]
    exact es_rI ⟨rfl, h⟩
  refine ⟨_, _, es_pure (s_isFour (d + 1) a μ), es_br (fun q => bad (fun z => es_bf q (of_decide_eq_true z.1))) (fun q => ?_)⟩
  refine ⟨_, _, es_pure (s_isFour (d + 1) b μ), es_br (fun q => bad (fun z => es_bf q (of_decide_eq_true z.2))) (fun q2 => ?_)⟩
  have b1 := es_bt q
  have b2 := es_bt q2
  have hall : es_4ok a = true ∧ es_4ok b = true := ⟨decide_eq_true b1, decide_eq_true b2⟩
  unfold es_first
  rw [if_pos hall]
  refine ⟨_, _, es_pure (s_missing d h.1 b1.1 b1.2), es_br (fun q5 => ?_) (fun q5 => es_rI ⟨?_, h⟩)⟩
  · have q5 := es_bf q5
    refine ⟨_, _, es_pure (s_missing d h.1 b2.1 b2.2), es_br (fun q6 => ⟨es_in b1.1 b1.2, es_in b2.1 b2.2, ?_⟩) (fun q6 => es_rI ⟨?_, h⟩)⟩
    · have q6 := es_bf q6
      refine ⟨_, _, es_pure (s_firstUnlike d (h.row b1.1 b1.2) (h.row b2.1 b2.2)), es_rI ⟨?_, h⟩⟩
      rw [if_neg (show ¬ (es_sl A a = [] ∨ es_sl A b = []) from fun z => z.elim q5 q6)]
    · rw [if_pos (show es_sl A a = [] ∨ es_sl A b = [] from Or.inr (es_bt q6))]
  · rw [if_pos (show es_sl A a = [] ∨ es_sl A b = [] from Or.inl (es_bt q5))]
/-- the first place of a step at which a list doesn't fit -/
def es_mp (l : List Int) (m r by_ : Nat) (k : Nat) : Bool := decide (k % m = r ∧ ¬ l.getD k 0 % (by_ : Int) = 0)
def es_mf (l : List Int) (m r by_ : Nat) : Option Nat := es_fs (es_mp l m r by_) l.length 0
theorem es_fs_skip {P : Nat → Bool} : ∀ {t g N : Nat}, (∀ j, N ≤ j → j < N + t → P j = false) → es_fs P (t + g) N = es_fs P g (N + t)
  | 0, g, N, _ => by rw [Nat.zero_add]; rfl
  | t + 1, g, N, h => by
    rw [show t + 1 + g = (t + g) + 1 by omega]
    show (if P N = true then some N else es_fs P (t + g) (N + 1)) = _
    rw [if_neg (by rw [h N (by omega) (by omega)]; decide), es_fs_skip (fun j h1 h2 => h j (by omega) (by omega))]
    congr 1
    omega
theorem es_fs_none {P : Nat → Bool} {g N : Nat} (h : ∀ j, N ≤ j → j < N + g → P j = false) : es_fs P g N = none := by
  have := es_fs_skip (P := P) (t := g) (g := 0) (N := N) h
  rw [Nat.add_zero] at this
  rw [this]; rfl
theorem s_firstMisfit (d : Nat) {p m r b : Nat} {μ : mz_M} {l : List Int} (h : es_row μ p l) (hm : 1 ≤ m) (hm2 : m ≤ 8) (hr : r < m) (hb : 1 ≤ b) (hb2 : b ≤ 9) : es_I (d + 2) n_ES_firstMisfit [mz_R 3 p, mz_I (nI m), mz_I (nI r), mz_I (nI b)] μ (fun x μ' => μ' = μ ∧ x = es_lvI (es_mf l m r b)) := by
  have c1 := h.1.1
  refine es_I.mk (w_ES_firstMisfit_0 p _ _ _ μ (es_f (nI_nlt (b := 1) (by omega) (by omega)) (es_t (nI_le (a := 1) (by omega) (by omega)) ?_)))
  have hbi : (nI b).toInt = b := nI_toInt (by omega)
  have key : ∀ (g k : Nat), l.length + 8 - k ≤ g → k ≤ l.length + 8 → k % m = r → (∀ j, j < k → es_mp l m r b j = false) → v_ES_firstMisfit (es_R (d + 1)) (es_qI (fun x μ' => μ' = μ ∧ x = es_lvI (es_mf l m r b))) (16, [(0, mz_R 3 p), (1, mz_I (nI m)), (3, mz_I (nI b)), (4, mz_I (nI k))], [], μ) := by
    have stop : ∀ k, l.length ≤ k → k ≤ l.length + 8 → (∀ j, j < k → es_mp l m r b j = false) → v_ES_firstMisfit (es_R (d + 1)) (es_qI (fun x μ' => μ' = μ ∧ x = es_lvI (es_mf l m r b))) (16, [(0, mz_R 3 p), (1, mz_I (nI m)), (3, mz_I (nI b)), (4, mz_I (nI k))], [], μ) := by
      intro k hk hk2 hj
      refine w_ES_firstMisfit_16 p _ _ _ μ (es_t (by rw [h.2.1]; exact nI_le hk (by omega)) (es_rI ⟨rfl, ?_⟩))
      unfold es_mf
      rw [es_fs_none (fun j _ h2 => hj j (by omega))]; rfl
    intro g
    induction g with
    | zero => exact fun k hg hk hkm hj => stop k (by omega) hk hj
    | succ g ih =>
      intro k hg hk hkm hj
      by_cases e : l.length ≤ k
      · exact stop k e hk hj
      · refine w_ES_firstMisfit_16 p _ _ _ μ (es_f (by rw [h.2.1]; exact nI_ge (by omega) (by omega)) ?_)
        obtain ⟨a, hA, ha⟩ := es_pur (s_at_n d (k := k) h (by omega))
        refine ⟨_, _, hA, nI_ne0 (by omega) (by omega), es_br (fun c => ?_) (fun c => es_rI ⟨rfl, ?_⟩)⟩
        · rw [es_rem (by omega), ha, hbi] at c
          rw [nI_add]
          refine ih (k + m) (by omega) (by omega) (by rw [Nat.add_mod_right]; exact hkm) (fun j hj2 => ?_)
          by_cases e1 : j < k
          · exact hj j e1
          · by_cases e2 : j = k
            · subst e2
              exact decide_eq_false (fun z => z.2 c)
            · refine decide_eq_false (fun z => ?_)
              have z1 := z.1
              obtain ⟨t, rfl⟩ : ∃ t, j = k + t := ⟨j - k, by omega⟩
              have ht : 0 < t ∧ t < m := by omega
              have q1 : (k + t) % m = k % m := by rw [z1, hkm]
              have q2 : (k + t) % m = (k % m + t) % m := by rw [Nat.add_mod, Nat.mod_eq_of_lt ht.2]
              rw [hkm] at q1 q2
              rw [q1] at q2
              by_cases e3 : r + t < m
              · rw [Nat.mod_eq_of_lt e3] at q2
                omega
              · have q3 : (r + t) % m = r + t - m := by
                  rw [Nat.mod_eq_sub_mod (by omega), Nat.mod_eq_of_lt (by omega)]
                omega
        · rw [es_rem (by omega), ha, hbi] at c
          unfold es_mf
          have e9 : l.length = k + ((l.length - k - 1) + 1) := by omega
          rw [e9, es_fs_skip (fun j _ h2 => hj j (by omega)), Nat.zero_add]
          show nI k = es_lvI (if es_mp l m r b k = true then some k else _)
          rw [if_pos (show es_mp l m r b k = true from decide_eq_true ⟨hkm, c⟩)]; rfl
  refine key (l.length + 8) r (by omega) (by omega) (Nat.mod_eq_of_lt hr) (fun j hj => decide_eq_false (fun z => ?_))
  have := z.1
  rw [Nat.mod_eq_of_lt (by omega)] at this
  omega
def es_fits (A : es_A) (s m r b w : Int32) : Int32 := if es_4ok s = true ∧ es_stp m r = true ∧ (2 ≤ b.toInt ∧ b.toInt ≤ 9) ∧ (0 ≤ w.toInt ∧ w.toInt ≤ 1) then (if es_sl A s = [] then -1000011 else if w.toInt = 1 then es_lvI (es_mf (es_sl A s) m.toInt.toNat r.toInt.toNat b.toInt.toNat) else if es_mf (es_sl A s) m.toInt.toNat r.toInt.toNat b.toInt.toNat = none then 1 else 0) else -1000001
theorem es_lvI_n {o : Option Nat} (h : ∀ k, o = some k → k < 2000000) : es_lvI o = -1000004 ↔ o = none := by
  cases o with
  | none => exact ⟨fun _ => rfl, fun _ => rfl⟩
  | some k =>
    have hk := h k rfl
    constructor
    · intro z
      have := congrArg Int32.toInt (show nI k = -1000004 from z)
      rw [nI_toInt (by omega), show (-1000004 : Int32).toInt = -1000004 by decide +kernel] at this
      omega
    · intro z; cases z
theorem c_fits (d : Nat) {μ : mz_M} {A : es_A} (h : es_C μ A) (s m r b w : Int32) : es_I (d + 3) n_ES_fits [mz_R 0 0, mz_I s, mz_I m, mz_I r, mz_I b, mz_I w] μ (es_ans (es_fits A s m r b w, A)) := by
  have bad : ¬ (es_4ok s = true ∧ es_stp m r = true ∧ (2 ≤ b.toInt ∧ b.toInt ≤ 9) ∧ (0 ≤ w.toInt ∧ w.toInt ≤ 1)) → es_qI (es_ans (es_fits A s m r b w, A)) (some (mz_I (-1000001))) μ := by
    intro z
    unfold es_fits
    rw [if_neg z]
    exact es_rI ⟨rfl, h⟩
  refine es_I.mk (w_ES_fits_0 0 s m r b w μ (es_br (fun c => ?_) (fun c => es_br (fun c2 => ?_) (fun c2 => ?_))))
  · have c := (es_ltn 2 (by omega)).mp c
    have bd := bad (fun z => by have := z.2.2.1.1; omega)
    exact ⟨_, _, es_pure (s_isFour (d + 1) s μ), es_br (fun _ => bd) (fun _ => ⟨_, _, es_pure (s_isStep (d + 1) m r μ), es_br (fun _ => bd) (fun _ => es_t rfl bd)⟩)⟩
  · have c2 := (es_gtn 9 (by omega)).mp c2
    have bd := bad (fun z => by have := z.2.2.1.2; omega)
    exact ⟨_, _, es_pure (s_isFour (d + 1) s μ), es_br (fun _ => bd) (fun _ => ⟨_, _, es_pure (s_isStep (d + 1) m r μ), es_br (fun _ => bd) (fun _ => es_t rfl bd)⟩)⟩
  · have c := es_nltn 2 (by omega) c
    have c2 := es_ngtn 9 (by omega) c2
    refine ⟨_, _, es_pure (s_isFour (d + 1) s μ), es_br (fun q => bad (fun z => es_bf q (of_decide_eq_true z.1))) (fun q => ?_)⟩
    have b1 := es_bt q
    refine ⟨_, _, es_pure (s_isStep (d + 1) m r μ), es_br (fun q => bad (fun z => by rw [es_b_0] at q; rw [q] at z; cases z.2.1)) (fun q2 => es_f (by decide +kernel) ?_)⟩
    have k1 : es_stp m r = true := Bool.of_not_eq_false (fun z => q2 (es_b_0.mpr z))
    have k2 := of_decide_eq_true k1
    refine ⟨_, _, es_pure (s_isWithin (d + 1) w (m := 1) (by omega) μ), es_br (fun q => bad (fun z => es_bf q z.2.2.2)) (fun q3 => ?_)⟩
    have b3 := es_bt q3
    unfold es_fits
    rw [if_pos ⟨decide_eq_true b1, k1, ⟨by omega, by omega⟩, b3⟩]
    refine ⟨_, _, es_pure (s_missing d h.1 b1.1 b1.2), es_br (fun q5 => ⟨es_in b1.1 b1.2, ?_⟩) (fun q5 => es_rI ⟨?_, h⟩)⟩
    · have q5 := es_bf q5
      rw [if_neg (show ¬ es_sl A s = [] from q5)]
      have hrow := h.row b1.1 b1.2
      have h40 := hrow.1.1
      obtain ⟨mn, hmn, rfl⟩ : ∃ mn : Nat, (1 ≤ mn ∧ mn ≤ 8) ∧ m = nI mn := ⟨m.toInt.toNat, by omega, es_nIof (by omega)⟩
      have hmi : (nI mn).toInt = mn := nI_toInt (by omega)
      rw [hmi] at k2
      obtain ⟨rn, hrn, rfl⟩ : ∃ rn : Nat, rn < mn ∧ r = nI rn := ⟨r.toInt.toNat, by omega, es_nIof (by omega)⟩
      obtain ⟨bn, hbn, rfl⟩ : ∃ bn : Nat, (2 ≤ bn ∧ bn ≤ 9) ∧ b = nI bn := ⟨b.toInt.toNat, by omega, es_nIof (by omega)⟩
      have hri : (nI rn).toInt = rn := nI_toInt (by omega)
      have hbi : (nI bn).toInt = bn := nI_toInt (by omega)
      rw [hmi, hri, hbi]
      simp only [Int.toNat_natCast]
      show ∃ (r30 : Int32) (μ29 : mz_M), es_R (d + 2) n_ES_firstMisfit [mz_R 3 (3 + 2 * s.toNatClampNeg), mz_I (nI mn), mz_I (nI rn), mz_I (nI bn)] μ (some (mz_I r30)) μ29 ∧ _
      have hlt : ∀ k, es_mf (es_sl A s) mn rn bn = some k → k < 2000000 := fun k hk => by
        have := es_fs_bd hk
        omega
      refine ⟨_, _, es_pure (s_firstMisfit d hrow hmn.1 hmn.2 hrn (by omega) hbn.2), es_br (fun c5 => es_rI ⟨?_, h⟩) (fun c5 => es_br (fun c6 => es_rI ⟨?_, h⟩) (fun c6 => es_rI ⟨?_, h⟩))⟩
      · have c5 := (es_eqn 1 (by omega)).mp c5
        rw [if_pos (by omega)]
      · have c5 := es_neqn 1 (by omega) c5
        rw [es_lvI_n hlt] at c6
        rw [if_neg (by omega), if_pos c6]
      · have c5 := es_neqn 1 (by omega) c5
        rw [es_lvI_n hlt] at c6
        rw [if_neg (by omega), if_neg c6]
    · rw [if_pos (show es_sl A s = [] from es_bt q5)]
