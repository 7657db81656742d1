/-! The reference: its state, and its simple methods. -/
def mo_f (X : Nat → Nat → Prop) (Y : Nat → Prop) (μ μ' : mz_M) : Prop := (∀ q k, ¬ X q k → μ'.1 q k = μ.1 q k) ∧ ∀ q, ¬ Y q → μ'.2 q = μ.2 q
theorem mo_f.rf {X : Nat → Nat → Prop} {Y : Nat → Prop} {μ : mz_M} : mo_f X Y μ μ := ⟨fun _ _ _ => rfl, fun _ _ => rfl⟩
theorem mo_f.tr {X : Nat → Nat → Prop} {Y : Nat → Prop} {μ1 μ2 μ3 : mz_M} (h1 : mo_f X Y μ1 μ2) (h2 : mo_f X Y μ2 μ3) : mo_f X Y μ1 μ3 := ⟨fun q k h => (h2.1 q k h).trans (h1.1 q k h), fun q h => (h2.2 q h).trans (h1.2 q h)⟩
theorem mo_f.mono {X X' : Nat → Nat → Prop} {Y Y' : Nat → Prop} {μ1 μ2 : mz_M} (h : mo_f X Y μ1 μ2) (hx : ∀ q k, X q k → X' q k) (hy : ∀ q, Y q → Y' q) : mo_f X' Y' μ1 μ2 := ⟨fun q k z => h.1 q k (fun c => z (hx q k c)), fun q z => h.2 q (fun c => z (hy q c))⟩
theorem mo_f.wI {X : Nat → Nat → Prop} {Y : Nat → Prop} {μ μ' : mz_M} {p k : Nat} {x : Int32} (h : mo_f X Y μ μ') (hx : X p k) : mo_f X Y μ (mz_wI μ' p k x) := ⟨fun q j z => by
  rw [mz_wI_at, if_neg (fun c => z (by rw [c.1, c.2]; exact hx))]; exact h.1 q j z, h.2⟩
theorem mo_f.wL {X : Nat → Nat → Prop} {Y : Nat → Prop} {μ μ' : mz_M} {p k : Nat} {x : Int64} (h : mo_f X Y μ μ') (hy : Y p) : mo_f X Y μ (mz_wL μ' p k x) := ⟨h.1, fun q z => by
  show (if q = p then vp_updL (μ'.2 p) k x else μ'.2 q) = _
  rw [if_neg (fun c : q = p => z (c ▸ hy))]; exact h.2 q z⟩
def mo_N : Nat → Prop := fun _ => False
/-- a state of series in a row -/
def mo_sn (f : Nat → Int32) (S : es_Sn) : Prop := f 0 = nI S.2.1 ∧ f 1 = S.2.2 ∧ (4 ≤ S.2.1 ∧ S.2.1 ≤ 40) ∧ 0 ≤ S.2.2.toInt ∧ ∀ s, s < 4 → es_ok (S.1 s) ∧ f (2 + s) = nI (S.1 s).length ∧ ∀ k, k < (S.1 s).length → (f (6 + 40 * s + k)).toInt = (S.1 s).getD k 0
theorem mo_sn.cong {f g : Nat → Int32} {S : es_Sn} (h : mo_sn f S) (hfg : ∀ k, k < 166 → g k = f k) : mo_sn g S := by
  obtain ⟨a, b, c, e, h5⟩ := h
  refine ⟨by rw [hfg 0 (by omega)]; exact a, by rw [hfg 1 (by omega)]; exact b, c, e, fun s hs => ?_⟩
  obtain ⟨p, q, r⟩ := h5 s hs
  refine ⟨p, by rw [hfg _ (by omega)]; exact q, fun k hk => ?_⟩
  have := p.1
  rw [hfg _ (by omega)]; exact r k hk
def mo_ah (f : Nat → Int32) (u : Int32) (U : List es_Sn) : Prop := U.length ≤ 6 ∧ u = nI U.length ∧ ∀ j S, U[j]? = some S → mo_sn (fun k => f (166 * (U.length - 1 - j) + k)) S
theorem mo_ah.cong {f g : Nat → Int32} {u : Int32} {U : List es_Sn} (h : mo_ah f u U) (hfg : ∀ k, k < 996 → g k = f k) : mo_ah g u U := by
  obtain ⟨a, b, c⟩ := h
  refine ⟨a, b, fun j S hj => (c j S hj).cong (fun k hk => hfg _ ?_)⟩
  have : j < U.length := by
    by_cases e : j < U.length
    · exact e
    · rw [List.getElem?_eq_none (by omega)] at hj; cases hj
  omega
def mo_im (μ : mz_M) (K : Option (es_Sn × List es_Sn)) : Prop := match K with
  | none => (μ.1 0 23).toInt < 0
  | some q => mo_sn (μ.1 11) q.1 ∧ mo_ah (μ.1 12) (μ.1 0 23) q.2
def mo_tp (μ : mz_M) (T : List Nat) : Prop := T.length ≤ 60 ∧ μ.1 0 10 = nI T.length ∧ ∀ k, k < T.length → μ.1 6 k = nI (T.getD k 0) ∧ 32 ≤ T.getD k 0 ∧ T.getD k 0 ≤ 126
def mo_lf (μ : mz_M) (s : Nat) (o : es_L) : Prop := match o with
  | none => (μ.1 13 s).toInt < 0
  | some q => q.1 < 4 ∧ μ.1 13 s = nI q.1 ∧ q.2.length ≤ 40 ∧ μ.1 14 s = nI q.2.length ∧ ∀ k, k < q.2.length → μ.2 15 (40 * s + k) = q.2.getD k 0
def es_M (μ : mz_M) (A : es_A) : Prop := mo_sn (μ.1 1) A.1 ∧ mo_ah (μ.1 5) (μ.1 0 8) A.2.1 ∧ mo_im μ A.2.2.1 ∧ mo_tp μ A.2.2.2.1 ∧ (μ.1 0 12 = A.2.2.2.2.1.1 ∧ μ.1 0 13 = A.2.2.2.2.1.2) ∧ ∀ k, k < 4 → mo_lf μ k (A.2.2.2.2.2 k)
def mo_ans (o : Int32 × es_A) (r : Int32) (μ : mz_M) : Prop := r = o.1 ∧ es_M μ o.2
/-- what is only for work; the same with series and past -/
def mo_X : Nat → Nat → Prop := fun q k => (q = 0 ∧ (k = 2 ∨ k = 4 ∨ k = 6 ∨ k = 11 ∨ k = 14 ∨ k = 15 ∨ k = 20)) ∨ q = 9 ∨ q = 10
def mo_XN : Nat → Nat → Prop := fun q k => (q = 0 ∧ (k = 2 ∨ k = 4 ∨ k = 6 ∨ k = 11 ∨ k = 14 ∨ k = 15 ∨ k = 20)) ∨ q = 9 ∨ q = 10 ∨ q = 1 ∨ q = 5 ∨ (q = 0 ∧ k = 8)
def mo_Y : Nat → Prop := fun q => q = 2 ∨ q = 3 ∨ q = 4 ∨ q = 7 ∨ q = 8 ∨ q = 16
theorem mo_lf.kept {X : Nat → Nat → Prop} {Y : Nat → Prop} {μ μ' : mz_M} {s : Nat} {o : es_L} (h : mo_lf μ s o) (hf : mo_f X Y μ μ') (h1 : ¬ X 13 s) (h2 : ¬ X 14 s) (h3 : ¬ Y 15) : mo_lf μ' s o := by
  cases o with
  | none =>
    show (μ'.1 13 s).toInt < 0
    rw [hf.1 13 s h1]; exact h
  | some q =>
    obtain ⟨a, b, c, e, f⟩ := h
    exact ⟨a, by rw [hf.1 13 s h1]; exact b, c, by rw [hf.1 14 s h2]; exact e, fun k hk => by rw [hf.2 15 h3]; exact f k hk⟩
theorem mo_im.kept {X : Nat → Nat → Prop} {Y : Nat → Prop} {μ μ' : mz_M} {K : Option (es_Sn × List es_Sn)} (h : mo_im μ K) (hf : mo_f X Y μ μ') (h1 : ¬ X 0 23) (h2 : ∀ k, ¬ X 11 k) (h3 : ∀ k, ¬ X 12 k) : mo_im μ' K := by
  cases K with
  | none =>
    show (μ'.1 0 23).toInt < 0
    rw [hf.1 0 23 h1]; exact h
  | some q =>
    refine ⟨h.1.cong (fun k _ => hf.1 11 k (h2 k)), ?_⟩
    rw [hf.1 0 23 h1]
    exact h.2.cong (fun k _ => hf.1 12 k (h3 k))
theorem mo_tp.kept {X : Nat → Nat → Prop} {Y : Nat → Prop} {μ μ' : mz_M} {T : List Nat} (h : mo_tp μ T) (hf : mo_f X Y μ μ') (h1 : ¬ X 0 10) (h2 : ∀ k, ¬ X 6 k) : mo_tp μ' T := by
  obtain ⟨a, b, c⟩ := h
  exact ⟨a, by rw [hf.1 0 10 h1]; exact b, fun k hk => by rw [hf.1 6 k (h2 k)]; exact c k hk⟩
theorem es_M.chg {μ μ' : mz_M} {A : es_A} {S : es_Sn} {U : List es_Sn} (h : es_M μ A) (hf : mo_f mo_XN mo_Y μ μ') (h1 : mo_sn (μ'.1 1) S) (h2 : mo_ah (μ'.1 5) (μ'.1 0 8) U) : es_M μ' (S, U, A.2.2) := by
  obtain ⟨-, -, a3, a4, a5, a6⟩ := h
  refine ⟨h1, h2, a3.kept hf (by unfold mo_XN; omega) (fun k => by unfold mo_XN; omega) (fun k => by unfold mo_XN; omega), a4.kept hf (by unfold mo_XN; omega) (fun k => by unfold mo_XN; omega), ⟨?_, ?_⟩, fun k hk => (a6 k hk).kept hf (by unfold mo_XN; omega) (by unfold mo_XN; omega) (by unfold mo_Y; omega)⟩
  · rw [hf.1 0 12 (by unfold mo_XN; omega)]; exact a5.1
  · rw [hf.1 0 13 (by unfold mo_XN; omega)]; exact a5.2
theorem mo_X_N : ∀ q k, mo_X q k → mo_XN q k := fun q k h => by unfold mo_X at h; unfold mo_XN; omega
theorem es_M.scr {μ μ' : mz_M} {A : es_A} (h : es_M μ A) (hf : mo_f mo_X mo_Y μ μ') : es_M μ' A := by
  refine h.chg (hf.mono mo_X_N (fun _ z => z)) (h.1.cong (fun k _ => hf.1 1 k (by unfold mo_X; omega))) ?_
  rw [hf.1 0 8 (by unfold mo_X; omega)]
  exact h.2.1.cong (fun k _ => hf.1 5 k (by unfold mo_X; omega))
theorem r_in (d : Nat) (v lo hi : Int64) (μ : mz_M) : es_I (d + 1) n_Mo_in [mz_L v, mz_L lo, mz_L hi] μ (fun r μ' => μ' = μ ∧ r = es_b (decide (lo.toInt ≤ v.toInt ∧ v.toInt ≤ hi.toInt))) := by
  refine es_I.mk (w_Mo_in_0 v lo hi μ (es_br (fun q => ⟨Or.inl rfl, es_rI ⟨rfl, ?_⟩⟩) (fun q => es_br (fun q2 => ⟨Or.inl rfl, es_rI ⟨rfl, ?_⟩⟩) (fun q2 => ⟨Or.inr rfl, es_rI ⟨rfl, ?_⟩⟩))))
  · rw [es_cmp_neg] at q
    rw [decide_eq_false (by omega)]; rfl
  · rw [es_cmp_pos] at q2
    rw [decide_eq_false (by omega)]; rfl
  · rw [es_cmp_neg] at q
    rw [es_cmp_pos] at q2
    rw [decide_eq_true (by omega)]; rfl
theorem r_inn (d : Nat) (x : Int32) (a b : Nat) (ha : a < 2147483648) (hb : b < 2147483648) (μ : mz_M) : es_I (d + 1) n_Mo_in [mz_L x.toInt64, mz_L (lN a), mz_L (lN b)] μ (fun r μ' => μ' = μ ∧ r = es_b (decide ((a : Int) ≤ x.toInt ∧ x.toInt ≤ b))) := by
  refine (r_in d _ _ _ μ).mono (fun r μ' h => ⟨h.1, ?_⟩)
  rw [h.2, es_i2l, lN_toInt (by omega), lN_toInt (by omega)]
theorem r_inL (d : Nat) (v : Int64) (a b : Nat) (ha : a < 2147483648) (hb : b < 2147483648) (μ : mz_M) : es_I (d + 1) n_Mo_in [mz_L v, mz_L (lN a), mz_L (lN b)] μ (fun r μ' => μ' = μ ∧ r = es_b (decide ((a : Int) ≤ v.toInt ∧ v.toInt ≤ b))) := by
  refine (r_in d _ _ _ μ).mono (fun r μ' h => ⟨h.1, ?_⟩)
  rw [h.2, lN_toInt (by omega), lN_toInt (by omega)]
theorem es_4ok_3 (x : Int32) : decide (((0 : Nat) : Int) ≤ x.toInt ∧ x.toInt ≤ (3 : Nat)) = es_4ok x := by
  unfold es_4ok
  by_cases e : 0 ≤ x.toInt ∧ x.toInt < 4
  · rw [decide_eq_true e, decide_eq_true (by omega)]
  · rw [decide_eq_false e, decide_eq_false (by omega)]
theorem r_in3 (d : Nat) (x : Int32) (μ : mz_M) : es_I (d + 1) n_Mo_in [mz_L x.toInt64, mz_L 0, mz_L 3] μ (fun r μ' => μ' = μ ∧ r = es_b (es_4ok x)) := by
  rw [← es_4ok_3]
  exact r_inn d x 0 3 (by omega) (by omega) μ
theorem r_isSeries (d : Nat) (x : Int32) (μ : mz_M) : es_I (d + 2) n_Mo_isSeries [mz_I x] μ (fun r μ' => μ' = μ ∧ r = es_b (es_4ok x)) :=
  es_I.mk (w_Mo_isSeries_0 x μ ⟨_, _, es_pure (r_in3 d x μ), es_b01 _, es_rI ⟨rfl, rfl⟩⟩)
theorem r_isSheet (d : Nat) (x : Int32) (μ : mz_M) : es_I (d + 2) n_Mo_isSheet [mz_I x] μ (fun r μ' => μ' = μ ∧ r = es_b (es_4ok x)) :=
  es_I.mk (w_Mo_isSheet_0 x μ ⟨_, _, es_pure (r_in3 d x μ), es_b01 _, es_rI ⟨rfl, rfl⟩⟩)
theorem r_many (d : Nat) {S : es_Sn} {μ : mz_M} {s : Nat} (h : mo_sn (μ.1 1) S) (hs : s < 4) : es_I (d + 1) n_Mo_many [mz_R 16 0, mz_I (nI s)] μ (fun r μ' => μ' = μ ∧ r = nI (S.1 s).length) := by
  refine es_I.mk (w_Mo_many_0 0 _ μ ?_)
  rw [show (2 : Int32) = nI 2 from rfl, nI_add, es_clamp (by omega)]
  exact ⟨vp_in_nI (by omega) (by omega), es_rI ⟨rfl, (h.2.2.2.2 s hs).2.1⟩⟩
theorem r_termOf (d : Nat) {S : es_Sn} {μ : mz_M} {s k : Nat} (h : mo_sn (μ.1 1) S) (hs : s < 4) (hk : k < (S.1 s).length) : es_I (d + 1) n_Mo_termOf [mz_R 16 0, mz_I (nI s), mz_I (nI k)] μ (fun r μ' => μ' = μ ∧ r.toInt = (S.1 s).getD k 0) := by
  have h40 := (h.2.2.2.2 s hs).1.1
  refine es_I.mk (w_Mo_termOf_0 0 _ _ μ ?_)
  rw [show (6 : Int32) = nI 6 from rfl, show (40 : Int32) = nI 40 from rfl, pk_mul, nI_add, nI_add, es_clamp (by omega)]
  exact ⟨vp_in_nI (by omega) (by omega), es_rI ⟨rfl, (h.2.2.2.2 s hs).2.2 k hk⟩⟩
theorem r_isKind (d : Nat) (k x : Int32) (μ : mz_M) : es_I (d + 2) n_Mo_isKind [mz_I k, mz_I x] μ (fun r μ' => μ' = μ ∧ r = es_b (es_kn k x)) := by
  refine es_I.mk (w_Mo_isKind_0 k x μ (es_br (fun q => ?_) (fun q => es_br (fun q2 => ?_) (fun q2 => ?_))))
  · have q := (es_eqn 0 (by omega)).mp q
    refine es_br (fun c => ⟨Or.inr rfl, es_rI ⟨rfl, ?_⟩⟩) (fun c => ⟨Or.inl rfl, es_rI ⟨rfl, ?_⟩⟩)
    · have c := (es_eqn 0 (by omega)).mp c
      unfold es_kn
      rw [decide_eq_true (by omega)]; rfl
    · have c := es_neqn 0 (by omega) c
      unfold es_kn
      rw [decide_eq_false (by omega)]; rfl
  · have q2 := (es_eqn 4 (by omega)).mp q2
    refine ⟨_, _, es_pure (r_inn d x 0 39 (by omega) (by omega) μ), es_b01 _, es_rI ⟨rfl, ?_⟩⟩
    unfold es_kn
    congr 1
    by_cases e : 0 ≤ x.toInt ∧ x.toInt ≤ 39
    · rw [decide_eq_true (by omega), decide_eq_true (by omega)]
    · rw [decide_eq_false (by omega), decide_eq_false (by omega)]
  · have q := es_neqn 0 (by omega) q
    have q2 := es_neqn 4 (by omega) q2
    refine ⟨_, _, es_pure (r_inn d k 1 3 (by omega) (by omega) μ), es_br (fun c => ⟨Or.inl rfl, es_rI ⟨rfl, ?_⟩⟩) (fun c => ⟨_, _, es_pure (r_inn d x 1 9 (by omega) (by omega) μ), es_br (fun c2 => ⟨Or.inl rfl, es_rI ⟨rfl, ?_⟩⟩) (fun c2 => ⟨Or.inr rfl, es_rI ⟨rfl, ?_⟩⟩)⟩)⟩
    · have c := es_bf c
      unfold es_kn
      rw [decide_eq_false (by omega)]; rfl
    · have c2 := es_bf c2
      unfold es_kn
      rw [decide_eq_false (by omega)]; rfl
    · have c := es_bt c
      have c2 := es_bt c2
      unfold es_kn
      rw [decide_eq_true (by omega)]; rfl
theorem r_isStep (d : Nat) (m r : Int32) (μ : mz_M) : es_I (d + 2) n_Mo_isStep [mz_I m, mz_I r] μ (fun x μ' => μ' = μ ∧ x = es_b (es_stp m r)) := by
  refine es_I.mk (w_Mo_isStep_0 m r μ ⟨_, _, es_pure (r_inn d m 1 8 (by omega) (by omega) μ), es_br (fun c => ⟨Or.inl rfl, es_rI ⟨rfl, ?_⟩⟩) (fun c => ?_)⟩)
  · have c := es_bf c
    unfold es_stp
    rw [decide_eq_false (by omega)]; rfl
  · have c := es_bt c
    obtain ⟨mn, h1, h2, rfl⟩ : ∃ mn : Nat, 1 ≤ mn ∧ mn ≤ 8 ∧ m = nI mn := ⟨m.toInt.toNat, by omega, by omega, es_nIof (by omega)⟩
    have em : (nI mn).toInt = mn := nI_toInt (by omega)
    rw [show (1 : Int32) = nI 1 from rfl, pk_sub h1, nI_l (by omega)]
    refine ⟨_, _, es_pure (r_inn d r 0 (mn - 1) (by omega) (by omega) μ), es_br (fun c2 => ⟨Or.inl rfl, es_rI ⟨rfl, ?_⟩⟩) (fun c2 => ⟨Or.inr rfl, es_rI ⟨rfl, ?_⟩⟩)⟩
    · have c2 := es_bf c2
      unfold es_stp
      rw [decide_eq_false (by omega)]; rfl
    · have c2 := es_bt c2
      unfold es_stp
      rw [decide_eq_true (by omega)]; rfl
/-- the past takes what is -/
theorem mo_ah_lt {U : List es_Sn} {j : Nat} {S : es_Sn} (h : U[j]? = some S) : j < U.length := by
  by_cases e : j < U.length
  · exact e
  · rw [List.getElem?_eq_none (by omega)] at h; cases h
theorem r_notes (d : Nat) {S : es_Sn} {U : List es_Sn} {μ : mz_M} (h : mo_sn (μ.1 1) S) (hU : mo_ah (μ.1 5) (μ.1 0 8) U) : es_V (d + 1) n_Mo_notes [mz_R 16 0] μ (fun μ' => mo_f (fun q k => q = 5 ∨ (q = 0 ∧ k = 8)) mo_N μ μ' ∧ mo_ah (μ'.1 5) (μ'.1 0 8) ((S :: U).take 6)) := by
  obtain ⟨u1, u2, u3⟩ := hU
  have put : ∀ (V : List es_Sn) (μ0 : mz_M), V.length < 6 → mo_f (fun q k => q = 5 ∨ (q = 0 ∧ k = 8)) mo_N μ μ0 → μ0.1 0 8 = nI V.length → (∀ j S, V[j]? = some S → mo_sn (fun k => μ0.1 5 (166 * (V.length - 1 - j) + k)) S) → (S :: U).take 6 = S :: V → v_Mo_notes (es_R d) (es_qV (fun μ' => mo_f (fun q k => q = 5 ∨ (q = 0 ∧ k = 8)) mo_N μ μ' ∧ mo_ah (μ'.1 5) (μ'.1 0 8) ((S :: U).take 6))) (49, [(0, mz_R 16 0), (1, mz_I 0)], [], μ0) := by
    intro V μ0 hV hf0 h8 hV2 he
    have key : ∀ (g k : Nat) (μ' : mz_M), k + g = 166 → mo_f (fun q k => q = 5 ∨ (q = 0 ∧ k = 8)) mo_N μ μ' → μ'.1 0 8 = nI V.length → (∀ j, μ'.1 5 j = if 166 * V.length ≤ j ∧ j < 166 * V.length + k then μ.1 1 (j - 166 * V.length) else μ0.1 5 j) → v_Mo_notes (es_R d) (es_qV (fun μ' => mo_f (fun q k => q = 5 ∨ (q = 0 ∧ k = 8)) mo_N μ μ' ∧ mo_ah (μ'.1 5) (μ'.1 0 8) ((S :: U).take 6))) (49, [(0, mz_R 16 0), (1, mz_I (nI k))], [], μ') := by
      intro g
      induction g with
      | zero =>
        intro k μ' hk hf h8' hc
        refine w_Mo_notes_49 0 _ μ' (es_t (nI_le (a := 166) (by omega) (by omega)) (es_rV ⟨hf.wI (Or.inr ⟨rfl, rfl⟩), ?_⟩))
        rw [h8', nI_1, he]
        refine ⟨by show V.length + 1 ≤ 6; omega, by rw [mz_wI_at, if_pos ⟨rfl, rfl⟩]; rfl, fun j S' hj => ?_⟩
        have hc2 : ∀ i, (mz_wI μ' 0 8 (nI (V.length + 1))).1 5 i = μ'.1 5 i := fun i => by rw [mz_wI_at, if_neg (by omega)]
        cases j with
        | zero =>
          cases hj
          refine h.cong (fun i hi => ?_)
          show (mz_wI μ' 0 8 (nI (V.length + 1))).1 5 (166 * (V.length + 1 - 1 - 0) + i) = _
          rw [hc2, hc, if_pos (by omega)]
          exact congrArg (μ.1 1) (by omega)
        | succ j =>
          have hj : V[j]? = some S' := hj
          have hjl := mo_ah_lt hj
          refine (hV2 j S' hj).cong (fun i hi => ?_)
          show (mz_wI μ' 0 8 (nI (V.length + 1))).1 5 (166 * (V.length + 1 - 1 - (j + 1)) + i) = μ0.1 5 (166 * (V.length - 1 - j) + i)
          rw [hc2, hc, if_neg (by omega)]
          exact congrArg (μ0.1 5) (by omega)
      | succ g ih =>
        intro k μ' hk hf h8' hc
        refine w_Mo_notes_49 0 _ μ' (es_f (nI_ge (b := 166) (by omega) (by omega)) ?_)
        rw [h8', show (166 : Int32) = nI 166 from rfl, pk_mul, nI_add, es_clamp (by omega), es_clamp (by omega), nI_1]
        refine ⟨vp_in_nI (by omega) (by omega), vp_in_nI (by omega) (by omega), ih (k + 1) _ (by omega) (hf.wI (Or.inl rfl)) (by rw [mz_wI_at, if_neg (by omega)]; exact h8') (fun j => ?_)⟩
        rw [mz_wI_at, hc]
        by_cases e : j = 166 * V.length + k
        · rw [if_pos ⟨rfl, e⟩, if_pos (by omega), hf.1 1 k (by omega), e]
          exact congrArg (μ.1 1) (by omega)
        · rw [if_neg (fun z => e z.2)]
          by_cases e2 : 166 * V.length ≤ j ∧ j < 166 * V.length + k
          · rw [if_pos e2, if_pos (by omega)]
          · rw [if_neg e2, if_neg (by omega)]
    exact key 166 0 μ0 (by omega) hf0 h8 (fun j => by rw [if_neg (by omega)])
  refine es_V.mk (w_Mo_notes_0 0 μ (es_br (fun q => ?_) (fun q => ?_)))
  · rw [u2] at q
    have q := (nI_eq (b := 6) (by omega) (by omega)).mp q
    have key : ∀ (g k : Nat) (μ' : mz_M), k + g = 996 → 166 ≤ k → mo_f (fun q k => q = 5 ∨ (q = 0 ∧ k = 8)) mo_N μ μ' → (∀ j, μ'.1 5 j = if j + 166 < k then μ.1 5 (j + 166) else μ.1 5 j) → v_Mo_notes (es_R d) (es_qV (fun μ' => mo_f (fun q k => q = 5 ∨ (q = 0 ∧ k = 8)) mo_N μ μ' ∧ mo_ah (μ'.1 5) (μ'.1 0 8) ((S :: U).take 6))) (13, [(0, mz_R 16 0), (1, mz_I (nI k))], [], μ') := by
      intro g
      induction g with
      | zero =>
        intro k μ' hk h166 hf hc
        refine w_Mo_notes_13 0 _ μ' (es_t (nI_le (a := 996) (by omega) (by omega)) ?_)
        refine put (U.take 5) _ (by rw [List.length_take]; omega) (hf.wI (Or.inr ⟨rfl, rfl⟩)) ?_ (fun j S' hj => ?_) ?_
        · rw [mz_wI_at, if_pos ⟨rfl, rfl⟩, List.length_take, q]; rfl
        · have hjl := mo_ah_lt hj
          rw [List.length_take] at hjl ⊢
          rw [List.getElem?_take_of_lt (by omega)] at hj
          refine (u3 j S' hj).cong (fun i hi => ?_)
          show (mz_wI μ' 0 8 5).1 5 (166 * (min 5 U.length - 1 - j) + i) = μ.1 5 (166 * (U.length - 1 - j) + i)
          rw [mz_wI_at, if_neg (by omega), hc, if_pos (by omega)]
          exact congrArg (μ.1 5) (by omega)
        · rfl
      | succ g ih =>
        intro k μ' hk h166 hf hc
        refine w_Mo_notes_13 0 _ μ' (es_f (nI_ge (b := 996) (by omega) (by omega)) ?_)
        rw [show (166 : Int32) = nI 166 from rfl, pk_sub h166, es_clamp (by omega), es_clamp (by omega), nI_1]
        refine ⟨vp_in_nI (by omega) (by omega), vp_in_nI (by omega) (by omega), ih (k + 1) _ (by omega) (by omega) (hf.wI (Or.inl rfl)) (fun j => ?_)⟩
        rw [mz_wI_at, hc, hc, if_neg (show ¬ k + 166 < k by omega)]
        by_cases e : j = k - 166
        · rw [if_pos ⟨rfl, e⟩, if_pos (by omega)]
          exact congrArg (μ.1 5) (by omega)
        · rw [if_neg (fun z => e z.2)]
          by_cases e2 : j + 166 < k
          · rw [if_pos e2, if_pos (by omega)]
          · rw [if_neg e2, if_neg (by omega)]
    exact key 830 166 μ (by omega) (by omega) mo_f.rf (fun j => by rw [if_neg (by omega)])
  · rw [u2] at q
    have q : ¬ U.length = 6 := fun z => q (by rw [z]; rfl)
    refine put U μ (by omega) mo_f.rf u2 u3 ?_
    rw [List.take_of_length_le (by show U.length + 1 ≤ 6; omega)]
/-- a list in a row of longs -/
def mo_ls (μ : mz_M) (p f : Nat) (l : List Int) : Prop := l.length ≤ 40 ∧ μ.1 0 f = nI l.length ∧ ∀ k, k < l.length → (μ.2 p k).toInt = l.getD k 0
theorem mo_ls.kept {X : Nat → Nat → Prop} {Y : Nat → Prop} {μ μ' : mz_M} {p f : Nat} {l : List Int} (h : mo_ls μ p f l) (hf : mo_f X Y μ μ') (h1 : ¬ X 0 f) (h2 : ¬ Y p) : mo_ls μ' p f l := ⟨h.1, by rw [hf.1 0 f h1]; exact h.2.1, fun k hk => by rw [hf.2 p h2]; exact h.2.2 k hk⟩
theorem r_keeps (d : Nat) {A : es_A} {μ : mz_M} {s : Nat} {l : List Int} (h : es_M μ A) (hl : mo_ls μ 4 6 l) (hok : es_ok l) (hs : s < 4) : es_I (d + 2) n_Mo_keeps [mz_R 16 0, mz_I (nI s)] μ (mo_ans (nI l.length, es_kp A s l)) := by
  obtain ⟨l1, l2, l3⟩ := hl
  refine es_I.mk (w_Mo_keeps_0 0 _ μ ?_)
  obtain ⟨μ1, hC, hf1, hah⟩ := r_notes d h.1 h.2.1
  refine ⟨_, hC, ?_⟩
  have e6 : μ1.1 0 6 = nI l.length := by rw [hf1.1 0 6 (by omega)]; exact l2
  have e4 : μ1.2 4 = μ.2 4 := hf1.2 4 (by unfold mo_N; exact id)
  have e1 : ∀ j, μ1.1 1 j = μ.1 1 j := fun j => hf1.1 1 j (by omega)
  rw [show (2 : Int32) = nI 2 from rfl, nI_add, es_clamp (by omega), e6]
  refine ⟨vp_in_nI (by omega) (by omega), ?_⟩
  have key : ∀ (g k : Nat) (μ' : mz_M), k + g = 40 → mo_f (fun q _ => q = 1) mo_N μ1 μ' → (∀ j, μ'.1 1 j = if j = 2 + s then nI l.length else if 6 + 40 * s ≤ j ∧ j < 6 + 40 * s + k then (if j - (6 + 40 * s) < l.length then (μ.2 4 (j - (6 + 40 * s))).toInt32 else 0) else μ.1 1 j) → v_Mo_keeps (es_R (d + 1)) (es_qI (mo_ans (nI l.length, es_kp A s l))) (18, [(0, mz_R 16 0), (1, mz_I (nI s)), (2, mz_I (nI k))], [], μ') := by
    intro g
    induction g with
    | zero =>
      intro k μ' hk hf hc
      refine w_Mo_keeps_18 0 _ _ μ' (es_t (nI_le (a := 40) (by omega) (by omega)) (es_rI ⟨?_, ?_⟩))
      · rw [hf.1 0 6 (by omega)]; exact e6
      · refine h.chg ((hf1.mono (fun q k z => by unfold mo_XN; omega) (fun q z => absurd z id)).tr (hf.mono (fun q k z => by unfold mo_XN; omega) (fun q z => absurd z id))) ?_ ?_
        · obtain ⟨a, b, c, e, f⟩ := h.1
          refine ⟨?_, ?_, c, e, fun s2 hs2 => ?_⟩
          · rw [hc, if_neg (by omega), if_neg (by omega)]; exact a
          · rw [hc, if_neg (by omega), if_neg (by omega)]; exact b
          · show es_ok (if s2 = s then l else A.1.1 s2) ∧ μ'.1 1 (2 + s2) = nI (if s2 = s then l else A.1.1 s2).length ∧ ∀ k, k < (if s2 = s then l else A.1.1 s2).length → (μ'.1 1 (6 + 40 * s2 + k)).toInt = (if s2 = s then l else A.1.1 s2).getD k 0
            by_cases e2 : s2 = s
            · subst e2
              rw [if_pos rfl]
              refine ⟨hok, by rw [hc, if_pos rfl], fun i hi => ?_⟩
              rw [hc, if_neg (by omega), if_pos (by omega), if_pos (by omega), show 6 + 40 * s2 + i - (6 + 40 * s2) = i by omega]
              have bd := hok.2 i hi
              rw [es_l2i (by rw [l3 i hi]; omega) (by rw [l3 i hi]; omega), l3 i hi]
            · rw [if_neg e2]
              obtain ⟨f1, f2, f3⟩ := f s2 hs2
              have := f1.1
              refine ⟨f1, by rw [hc, if_neg (by omega), if_neg (by omega)]; exact f2, fun i hi => ?_⟩
              rw [hc, if_neg (by omega), if_neg (by omega)]
              exact f3 i hi
        · rw [hf.1 0 8 (by omega)]
          exact hah.cong (fun i _ => hf.1 5 i (by omega))
    | succ g ih =>
      intro k μ' hk hf hc
      refine w_Mo_keeps_18 0 _ _ μ' (es_f (nI_ge (b := 40) (by omega) (by omega)) ?_)
      rw [hf.1 0 6 (by omega), e6, hf.2 4 (by unfold mo_N; exact id), e4, show (6 : Int32) = nI 6 from rfl, show (40 : Int32) = nI 40 from rfl, pk_mul, nI_add, nI_add, es_clamp (show 6 + 40 * s + k < 2147483648 by omega), es_clamp (show k < 2147483648 by omega), nI_1]
      refine es_br (fun c => ⟨vp_in_nI (by omega) (by omega), ih (k + 1) _ (by omega) (hf.wI rfl) (fun j => ?_)⟩) (fun c => ⟨vp_in_nI (by omega) (by omega), vp_in_nI (by omega) (by omega), ih (k + 1) _ (by omega) (hf.wI rfl) (fun j => ?_)⟩)
      · have c := (nI_leI (by omega) (by omega)).mp c
        rw [mz_wI_at, hc]
        by_cases e : j = 6 + 40 * s + k
        · rw [if_pos ⟨rfl, e⟩, if_neg (by omega), if_pos (by omega), if_neg (by omega)]
        · rw [if_neg (fun z => e z.2)]
          by_cases e2 : j = 2 + s
          · rw [if_pos e2, if_pos e2]
          · rw [if_neg e2, if_neg e2]
            by_cases e3 : 6 + 40 * s ≤ j ∧ j < 6 + 40 * s + k
            · rw [if_pos e3, if_pos (show 6 + 40 * s ≤ j ∧ j < 6 + 40 * s + (k + 1) by omega)]
            · rw [if_neg e3, if_neg (show ¬ (6 + 40 * s ≤ j ∧ j < 6 + 40 * s + (k + 1)) by omega)]
      · have c : ¬ l.length ≤ k := fun z => c (nI_le z (by omega))
        rw [mz_wI_at, hc]
        by_cases e : j = 6 + 40 * s + k
        · rw [if_pos ⟨rfl, e⟩, if_neg (by omega), if_pos (by omega), if_pos (by omega), e, show 6 + 40 * s + k - (6 + 40 * s) = k by omega]
        · rw [if_neg (fun z => e z.2)]
          by_cases e2 : j = 2 + s
          · rw [if_pos e2, if_pos e2]
          · rw [if_neg e2, if_neg e2]
            by_cases e3 : 6 + 40 * s ≤ j ∧ j < 6 + 40 * s + k
            · rw [if_pos e3, if_pos (show 6 + 40 * s ≤ j ∧ j < 6 + 40 * s + (k + 1) by omega)]
            · rw [if_neg e3, if_neg (show ¬ (6 + 40 * s ≤ j ∧ j < 6 + 40 * s + (k + 1)) by omega)]
  refine key 40 0 _ (by omega) (mo_f.rf.wI rfl) (fun j => ?_)
  rw [mz_wI_at, e1]
  by_cases e : j = 2 + s
  · rw [if_pos ⟨rfl, e⟩, if_pos e]
  · rw [if_neg (fun z => e z.2), if_neg e, if_neg (by omega)]
