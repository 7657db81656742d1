/-! The reference reads texts. -/
def mo_pl (μ : mz_M) (T : List Nat) (p : Nat) : Prop := mo_tp μ T ∧ μ.1 0 11 = nI p
def mo_xt : Nat → Nat → Prop := fun q k => q = 0 ∧ (k = 11 ∨ k = 14 ∨ k = 15)
theorem mo_pl.set {μ : mz_M} {T : List Nat} {p : Nat} (h : mo_pl μ T p) (q : Nat) : mo_pl (mz_wI μ 0 11 (nI q)) T q := by
  obtain ⟨⟨a, b, c⟩, -⟩ := h
  refine ⟨⟨a, ?_, fun k hk => ?_⟩, ?_⟩
  · rw [mz_wI_at, if_neg (by omega)]; exact b
  · rw [mz_wI_at, if_neg (by omega)]; exact c k hk
  · rw [mz_wI_at, if_pos ⟨rfl, rfl⟩]
theorem mo_pl.oth {μ : mz_M} {T : List Nat} {p k : Nat} {x : Int32} (h : mo_pl μ T p) (hk : k = 14 ∨ k = 15) : mo_pl (mz_wI μ 0 k x) T p := by
  obtain ⟨⟨a, b, c⟩, e⟩ := h
  refine ⟨⟨a, ?_, fun j hj => ?_⟩, ?_⟩
  · rw [mz_wI_at, if_neg (by omega)]; exact b
  · rw [mz_wI_at, if_neg (by omega)]; exact c j hj
  · rw [mz_wI_at, if_neg (by omega)]; exact e
theorem mo_pl.small {μ : mz_M} {T : List Nat} {p : Nat} (h : mo_pl μ T p) (q : Nat) : T.getD q 0 ≤ 126 := by
  by_cases e : q < T.length
  · exact (h.1.2.2 q e).2.2
  · rw [tx_out (by omega)]; omega
theorem mo_x11_t : ∀ q k, mo_x1 11 q k → mo_xt q k := fun q k h => by unfold mo_x1 at h; unfold mo_xt; omega
theorem mo_11w {μ : mz_M} {x : Int32} : mo_f (mo_x1 11) mo_N μ (mz_wI μ 0 11 x) := mo_f.rf.wI (X := mo_x1 11) ⟨rfl, rfl⟩
theorem r_here (d : Nat) {μ : mz_M} {T : List Nat} {p : Nat} (h : mo_pl μ T p) (hp : p ≤ T.length) : es_I (d + 1) n_Mo_here [mz_R 16 0] μ (fun r μ' => mo_f (mo_x1 11) mo_N μ μ' ∧ r = nI (T.getD (tx_sk T p) 0) ∧ mo_pl μ' T (tx_sk T p)) := by
  have h60 := h.1.1
  refine es_I.mk ?_
  have key : ∀ (g q : Nat) (μ' : mz_M), T.length ≤ q + g → q ≤ T.length → tx_sk T q = tx_sk T p → mo_f (mo_x1 11) mo_N μ μ' → mo_pl μ' T q → v_Mo_here (es_R d) (es_qI (fun r μ' => mo_f (mo_x1 11) mo_N μ μ' ∧ r = nI (T.getD (tx_sk T p) 0) ∧ mo_pl μ' T (tx_sk T p))) (0, [(0, mz_R 16 0)], [], μ') := by
    have stop : ∀ (q : Nat) (μ' : mz_M), T.length = q → tx_sk T q = tx_sk T p → mo_f (mo_x1 11) mo_N μ μ' → mo_pl μ' T q → v_Mo_here (es_R d) (es_qI (fun r μ' => mo_f (mo_x1 11) mo_N μ μ' ∧ r = nI (T.getD (tx_sk T p) 0) ∧ mo_pl μ' T (tx_sk T p))) (0, [(0, mz_R 16 0)], [], μ') := by
      intro q μ' hq he hf hl
      have c : (μ'.1 0 10 : Int32) ≤ (μ'.1 0 11 : Int32) := by rw [hl.1.2.1, hl.2]; exact nI_le (by omega) (by omega)
      have e0 : T.getD q 0 = 0 := tx_out (by omega)
      rw [← he, tx_sk_id (by rw [e0]; decide)]
      refine w_Mo_here_0 0 μ' (es_t c (es_t c (es_rI ⟨hf, ?_, hl⟩)))
      rw [e0]; rfl
    intro g
    induction g with
    | zero => exact fun q μ' hg hq he hf hl => stop q μ' (by omega) he hf hl
    | succ g ih =>
      intro q μ' hg hq he hf hl
      by_cases e : T.length = q
      · exact stop q μ' e he hf hl
      · have c : ¬ (μ'.1 0 10 : Int32) ≤ (μ'.1 0 11 : Int32) := by rw [hl.1.2.1, hl.2]; exact nI_ge (by omega) (by omega)
        have hc := (hl.1.2.2 q (by omega)).1
        have hs := hl.small q
        have hv : vp_in (μ'.1 0 11) 60 := by rw [hl.2]; exact vp_in_nI (by omega) (by omega)
        refine w_Mo_here_0 0 μ' (es_f c ⟨hv, es_br (fun q2 => ?_) (fun q2 => es_f c ⟨hv, es_rI ⟨hf, ?_, ?_⟩⟩)⟩)
        · rw [hl.2, es_clamp (by omega), hc] at q2
          have q2 := (nI_eq (b := 32) (by omega) (by omega)).mp q2
          rw [hl.2, nI_1]
          exact ih (q + 1) _ (by omega) (by omega) (by rw [← he]; exact (tx_sk_blank h60 q2).symm) (hf.wI ⟨rfl, rfl⟩) (hl.set (q + 1))
        · rw [hl.2, es_clamp (by omega), hc] at q2
          have q2 : ¬ T.getD q 0 = 32 := fun z => q2 (by rw [z]; rfl)
          rw [hl.2, es_clamp (by omega), hc, ← he, tx_sk_id q2]
        · rw [hl.2, es_clamp (by omega), hc] at q2
          have q2 : ¬ T.getD q 0 = 32 := fun z => q2 (by rw [z]; rfl)
          rw [← he, tx_sk_id q2]
          exact hl
  exact key T.length p μ (by omega) hp rfl mo_f.rf h
theorem r_has (d : Nat) {c : Nat} (hc : c < 1000) {μ : mz_M} {T : List Nat} {p : Nat} (h : mo_pl μ T p) (hp : p ≤ T.length) : es_I (d + 2) n_Mo_has [mz_R 16 0, mz_I (nI c)] μ (fun r μ' => mo_f (mo_x1 11) mo_N μ μ' ∧ ((T.getD (tx_sk T p) 0 = c ∧ r = 1 ∧ mo_pl μ' T (tx_sk T p + 1)) ∨ (¬ T.getD (tx_sk T p) 0 = c ∧ r = 0 ∧ mo_pl μ' T (tx_sk T p)))) := by
  obtain ⟨r, μ1, hC, hf, rfl, hl⟩ := r_here d h hp
  have hs := h.small (tx_sk T p)
  refine es_I.mk (w_Mo_has_0 0 _ μ ⟨_, _, hC, es_br (fun q => ⟨Or.inr rfl, es_rI ?_⟩) (fun q => ⟨Or.inl rfl, es_rI ?_⟩)⟩)
  · have q := (nI_eq (by omega) (by omega)).mp q
    rw [hl.2, nI_1]
    exact ⟨hf.wI ⟨rfl, rfl⟩, Or.inl ⟨q, rfl, hl.set _⟩⟩
  · have q : ¬ T.getD (tx_sk T p) 0 = c := fun z => q (by rw [z])
    exact ⟨hf, Or.inr ⟨q, rfl, hl⟩⟩
theorem tx_dgI {c : Nat} (hc : c ≤ 126) : decide (((48 : Nat) : Int) ≤ (nI c).toInt ∧ (nI c).toInt ≤ (57 : Nat)) = tx_dg c := by
  unfold tx_dg
  rw [nI_toInt (by omega)]
  by_cases e : 48 ≤ c ∧ c ≤ 57
  · rw [decide_eq_true e, decide_eq_true (by omega)]
  · rw [decide_eq_false e, decide_eq_false (by omega)]
theorem r_digit (d : Nat) {c : Nat} (hc : c ≤ 126) (μ : mz_M) : es_I (d + 1) n_Mo_in [mz_L (nI c).toInt64, mz_L 48, mz_L 57] μ (fun r μ' => μ' = μ ∧ r = es_b (tx_dg c)) := by
  rw [← tx_dgI hc]
  exact r_inn d (nI c) 48 57 (by omega) (by omega) μ
theorem r_number (d : Nat) {μ : mz_M} {T : List Nat} {p : Nat} (h : mo_pl μ T p) (hp : p ≤ T.length) : es_I (d + 2) n_Mo_number [mz_R 16 0] μ (fun r μ' => mo_f (mo_x1 11) mo_N μ μ' ∧ ((tx_dg (T.getD (tx_sk T p) 0) = true ∧ r = nI (tx_nv T (tx_sk T p)) ∧ mo_pl μ' T (tx_np T (tx_sk T p))) ∨ (tx_dg (T.getD (tx_sk T p) 0) = false ∧ r = -1 ∧ mo_pl μ' T (tx_sk T p)))) := by
  have h60 := h.1.1
  obtain ⟨r, μ1, hC, hf, rfl, hl⟩ := r_here d h hp
  generalize tx_sk T p = q at *
  have hs := h.small q
  refine es_I.mk (w_Mo_number_0 0 μ ⟨_, _, hC, _, _, es_pure (r_digit d hs μ1), es_br (fun c => es_rI ?_) (fun c => ?_)⟩)
  · rw [es_b_0] at c
    exact ⟨hf, Or.inr ⟨c, rfl, hl⟩⟩
  · have c := Bool.of_not_eq_false (fun z => c (es_b_0.mpr z))
    have g1 := tx_dg_i c
    have lq := tx_lt rfl (show T.getD q 0 ≠ 0 by omega)
    have h2 := hl.set (q + 1)
    have f2 : mo_f (mo_x1 11) mo_N μ (mz_wI μ1 0 11 (nI (q + 1))) := hf.wI ⟨rfl, rfl⟩
    rw [hl.2, nI_1, h2.1.2.1, h2.2, es_clamp (show q < 2147483648 by omega), (hl.1.2.2 q lq).1, es_clamp (show q + 1 < 2147483648 by omega)]
    have e1 : nI (T.getD q 0) - 48 = nI (T.getD q 0 - 48) := by rw [show (48 : Int32) = nI 48 from rfl, pk_sub g1.1]
    rw [e1]
    have hs2 := h.small (q + 1)
    have no : tx_dg (T.getD (q + 1) 0) = false → es_qI (fun r μ' => mo_f (mo_x1 11) mo_N μ μ' ∧ ((tx_dg (T.getD q 0) = true ∧ r = nI (tx_nv T q) ∧ mo_pl μ' T (tx_np T q)) ∨ (tx_dg (T.getD q 0) = false ∧ r = -1 ∧ mo_pl μ' T q))) (some (mz_I (nI (T.getD q 0 - 48)))) (mz_wI μ1 0 11 (nI (q + 1))) := by
      intro z
      refine es_rI ⟨f2, Or.inl ⟨c, ?_, ?_⟩⟩
      · unfold tx_nv
        rw [z, if_neg (by decide)]
      · unfold tx_np
        rw [z, if_neg (by decide)]
        exact h2
    refine ⟨vp_in_nI (by omega) (by omega), es_br (fun c2 => no ?_) (fun c2 => ?_)⟩
    · have c2 := (nI_leI (by omega) (by omega)).mp c2
      rw [tx_out c2]; rfl
    · have c2 : ¬ T.length ≤ q + 1 := fun z => c2 (nI_le z (by omega))
      rw [(h2.1.2.2 (q + 1) (by omega)).1]
      refine ⟨vp_in_nI (by omega) (by omega), _, _, es_pure (r_digit d hs2 _), es_br (fun c3 => no (es_b_0.mp c3)) (fun c3 => ?_)⟩
      have c3 := Bool.of_not_eq_false (fun z => c3 (es_b_0.mpr z))
      have g2 := tx_dg_i c3
      rw [h2.2, nI_1, es_clamp (show q + 1 < 2147483648 by omega), (h2.1.2.2 (q + 1) (by omega)).1]
      have e2 : ((10 * nI (T.getD q 0 - 48)) + nI (T.getD (q + 1) 0)) - 48 = nI (10 * (T.getD q 0 - 48) + (T.getD (q + 1) 0 - 48)) := by
        rw [show (10 : Int32) = nI 10 from rfl, pk_mul, nI_add, show (48 : Int32) = nI 48 from rfl, pk_sub (by omega)]
        congr 1
        omega
      rw [e2]
      refine ⟨vp_in_nI (by omega) (by omega), es_rI ⟨f2.wI ⟨rfl, rfl⟩, Or.inl ⟨c, ?_, ?_⟩⟩⟩
      · unfold tx_nv
        rw [if_pos c3]
      · unfold tx_np
        rw [if_pos c3]
        exact h2.set (q + 1 + 1)
theorem r_kindOf (d : Nat) {c : Nat} (hc : c < 1000) (μ : mz_M) : es_I (d + 1) n_Mo_kindOf [mz_I (nI c)] μ (fun r μ' => μ' = μ ∧ r = if tx_fam c = true then nI (tx_kd c) else -1) := by
  have q : ∀ b : Nat, b < 1000 → (nI c = nI b ↔ c = b) := fun b hb => nI_eq (by omega) (by omega)
  unfold tx_fam tx_kd
  refine es_I.mk (w_Mo_kindOf_0 _ μ (es_br (fun h => es_rI ⟨rfl, ?_⟩) (fun h => es_br (fun h2 => es_rI ⟨rfl, ?_⟩) (fun h2 => es_br (fun h3 => es_rI ⟨rfl, ?_⟩) (fun h3 => es_br (fun h4 => es_rI ⟨rfl, ?_⟩) (fun h4 => es_rI ⟨rfl, ?_⟩))))))
  · have h := (q 116 (by omega)).mp h
    subst h; rfl
  · have h := (q 115 (by omega)).mp h2
    subst h; rfl
  · have h := (q 101 (by omega)).mp h3
    subst h; rfl
  · have h := (q 113 (by omega)).mp h4
    subst h; rfl
  · have a1 : ¬ c = 116 := fun z => h ((q 116 (by omega)).mpr z)
    have a2 : ¬ c = 115 := fun z => h2 ((q 115 (by omega)).mpr z)
    have a3 : ¬ c = 101 := fun z => h3 ((q 101 (by omega)).mpr z)
    have a4 : ¬ c = 113 := fun z => h4 ((q 113 (by omega)).mpr z)
    rw [decide_eq_false (by omega)]; rfl
def mo_ra (T : List Nat) (N : tx_N) (μ : mz_M) (r : Int32) (μ' : mz_M) : Prop := mo_f mo_xt mo_N μ μ' ∧ match N with
  | .inl q => r = 0 ∧ mo_pl μ' T q
  | .inr w => r = 1 ∧ mo_pl μ' T w.1.2.2 ∧ μ'.1 0 14 = (if w.2.1 = 48 then 0 else nI (tx_kd w.2.1)) ∧ μ'.1 0 15 = nI w.2.2
theorem es_kn_m1 {k : Nat} (hk : k ≤ 4) : es_kn (nI k) (-1) = false := by
  unfold es_kn
  have : (-1 : Int32).toInt = -1 := by decide +kernel
  exact decide_eq_false (by omega)
theorem r_readsAtom (d : Nat) {μ : mz_M} {T : List Nat} {p o : Nat} (h : mo_pl μ T p) (hp : p ≤ T.length) (hc : T.getD (tx_sk T p) 0 ≠ 40) : es_I (d + 3) n_Mo_readsAtom [mz_R 16 0] μ (mo_ra T (tx_due T o (tx_sk T p)) μ) := by
  have h60 := h.1.1
  obtain ⟨r, μ1, hC, hf1, rfl, hl1⟩ := r_here (d + 1) h hp
  have s0 := tx_sk_len hp
  have nb0 := tx_sk_nb h60 p
  generalize tx_sk T p = p0 at *
  have hs := h.small p0
  refine es_I.mk (w_Mo_readsAtom_0 0 μ ⟨_, _, hC, _, _, es_pure (r_kindOf (d + 1) (c := T.getD p0 0) (by omega) μ1), ?_⟩)
  rw [show ∀ x, (mz_wI μ1 0 14 x).1 0 14 = x from fun x => by rw [mz_wI_at, if_pos ⟨rfl, rfl⟩]]
  unfold tx_due
  rw [if_neg hc]
  have hf1' := hf1.mono mo_x11_t (fun _ z => z)
  by_cases e1 : tx_fam (T.getD p0 0) = true
  · rw [if_pos e1, if_pos e1]
    have hfam := of_decide_eq_true e1
    have l1 := tx_lt rfl (show T.getD p0 0 ≠ 0 by omega)
    have k4 := tx_kd_i (T.getD p0 0)
    have hl2 : mo_pl (mz_wI μ1 0 14 (nI (tx_kd (T.getD p0 0)))) T p0 := hl1.oth (Or.inl rfl)
    have f14 : (mz_wI μ1 0 14 (nI (tx_kd (T.getD p0 0)))).1 0 14 = nI (tx_kd (T.getD p0 0)) := by rw [mz_wI_at, if_pos ⟨rfl, rfl⟩]
    have hf2 : mo_f mo_xt mo_N μ (mz_wI μ1 0 14 (nI (tx_kd (T.getD p0 0)))) := hf1'.wI ⟨rfl, Or.inr (Or.inl rfl)⟩
    generalize mz_wI μ1 0 14 (nI (tx_kd (T.getD p0 0))) = μ2 at *
    refine es_t (show (0 : Int32) ≤ nI (tx_kd (T.getD p0 0)) from nI_le (a := 0) (b := tx_kd (T.getD p0 0)) (by omega) (by omega)) ?_
    rw [hl2.2, nI_1]
    have hl3 := hl2.set (p0 + 1)
    obtain ⟨r3, μ3, hC3, hf3, hh⟩ := r_has (d) (c := 40) (by omega) hl3 (by omega)
    have hf3' : mo_f mo_xt mo_N μ μ3 := (hf2.wI ⟨rfl, Or.inl rfl⟩).tr (hf3.mono mo_x11_t (fun _ z => z))
    have g14 : μ3.1 0 14 = nI (tx_kd (T.getD p0 0)) := by rw [hf3.1 0 14 (by unfold mo_x1; omega), mz_wI_at, if_neg (by omega)]; exact f14
    have s1 := tx_sk_len (T := T) (p := p0 + 1) (by omega)
    refine ⟨_, _, hC3, ?_⟩
    unfold tx_fm1
    generalize tx_sk T (p0 + 1) = p1 at *
    rcases hh with ⟨e2, rfl, hl4⟩ | ⟨e2, rfl, hl4⟩
    · rw [if_pos e2]
      refine es_f (by decide +kernel) ?_
      have l2 := tx_lt e2 (by decide)
      obtain ⟨r4, μ4, hC4, hf4, rfl, hl5⟩ := r_here (d + 1) hl4 (by omega)
      have hf4' : mo_f mo_xt mo_N μ μ4 := hf3'.tr (hf4.mono mo_x11_t (fun _ z => z))
      have i14 : μ4.1 0 14 = nI (tx_kd (T.getD p0 0)) := by rw [hf4.1 0 14 (by unfold mo_x1; omega)]; exact g14
      have s2 := tx_sk_len (T := T) (p := p1 + 1) (by omega)
      have nb := tx_sk_nb h60 (p1 + 1)
      unfold tx_fm2
      refine ⟨_, _, hC4, ?_⟩
      generalize tx_sk T (p1 + 1) = p2 at *
      have hs2 := h.small p2
      refine ⟨_, _, es_pure (r_digit (d + 1) hs2 μ4), es_br (fun c => ?_) (fun c => ?_)⟩
      · rw [es_b_0] at c
        rw [c, if_neg (by decide)]
        have j14 : (mz_wI μ4 0 15 (-1)).1 0 14 = nI (tx_kd (T.getD p0 0)) := by rw [mz_wI_at, if_neg (by omega)]; exact i14
        have j15 : (mz_wI μ4 0 15 (-1)).1 0 15 = -1 := by rw [mz_wI_at, if_pos ⟨rfl, rfl⟩]
        rw [j14, j15, hl5.2]
        refine ⟨_, _, es_pure (r_isKind d _ _ _), es_t (by rw [es_kn_m1 k4.2]; rfl) ⟨Or.inl rfl, es_rI ⟨?_, rfl, ?_⟩⟩⟩
        · exact (hf4'.wI ⟨rfl, Or.inr (Or.inr rfl)⟩).wI ⟨rfl, Or.inl rfl⟩
        · exact (hl5.oth (Or.inr rfl)).set p2
      · have c := Bool.of_not_eq_false (fun z => c (es_b_0.mpr z))
        rw [if_pos c]
        obtain ⟨r5, μ5, hC5, hf5, hn⟩ := r_number d hl5 s2
        have hf5' : mo_f mo_xt mo_N μ μ5 := hf4'.tr (hf5.mono mo_x11_t (fun _ z => z))
        rw [tx_sk_id nb] at hn
        have np := tx_np_i c
        rcases hn with ⟨-, rfl, hl6⟩ | ⟨c2, -, -⟩
        · refine ⟨_, _, hC5, ?_⟩
          have j14 : (mz_wI μ5 0 15 (nI (tx_nv T p2))).1 0 14 = nI (tx_kd (T.getD p0 0)) := by
            rw [mz_wI_at, if_neg (by omega), hf5.1 0 14 (by unfold mo_x1; omega)]; exact i14
          have j15 : (mz_wI μ5 0 15 (nI (tx_nv T p2))).1 0 15 = nI (tx_nv T p2) := by rw [mz_wI_at, if_pos ⟨rfl, rfl⟩]
          have hl7 : mo_pl (mz_wI μ5 0 15 (nI (tx_nv T p2))) T (tx_np T p2) := hl6.oth (Or.inr rfl)
          have hf6 : mo_f mo_xt mo_N μ (mz_wI μ5 0 15 (nI (tx_nv T p2))) := hf5'.wI ⟨rfl, Or.inr (Or.inr rfl)⟩
          generalize mz_wI μ5 0 15 (nI (tx_nv T p2)) = μ6 at *
          rw [j14, j15, hl5.2]
          refine ⟨_, _, es_pure (r_isKind d _ _ μ6), ?_⟩
          rw [tx_kn k4.1 k4.2 np.2.2]
          refine es_br (fun c3 => ⟨Or.inl rfl, es_rI ?_⟩) (fun c3 => ?_)
          · rw [es_b_0] at c3
            rw [c3, if_neg (by decide)]
            exact ⟨hf6.wI ⟨rfl, Or.inl rfl⟩, rfl, hl7.set p2⟩
          · have c3 := Bool.of_not_eq_false (fun z => c3 (es_b_0.mpr z))
            rw [if_pos c3]
            obtain ⟨r7, μ7, hC7, hf7, hh7⟩ := r_has d (c := 41) (by omega) hl7 (by omega)
            refine ⟨_, _, hC7, ?_⟩
            unfold tx_fm3
            have hf7' : mo_f mo_xt mo_N μ μ7 := hf6.tr (hf7.mono mo_x11_t (fun _ z => z))
            rcases hh7 with ⟨e4, rfl, hl8⟩ | ⟨e4, rfl, hl8⟩
            · rw [if_pos e4]
              refine ⟨Or.inr rfl, es_rI ⟨hf7', rfl, hl8, ?_, ?_⟩⟩
              · rw [if_neg (show ¬ T.getD p0 0 = 48 by omega), hf7.1 0 14 (by unfold mo_x1; omega)]; exact j14
              · rw [hf7.1 0 15 (by unfold mo_x1; omega)]; exact j15
            · rw [if_neg e4]
              exact ⟨Or.inl rfl, es_rI ⟨hf7', rfl, hl8⟩⟩
        · rw [c] at c2; cases c2
    · rw [if_neg e2]
      exact es_t rfl ⟨Or.inl rfl, es_rI ⟨hf3', rfl, hl4⟩⟩
  · rw [if_neg e1, if_neg e1]
    refine es_f (by decide +kernel) ?_
    have hl2 : mo_pl (mz_wI (mz_wI μ1 0 14 (-1)) 0 14 0) T p0 := (hl1.oth (Or.inl rfl)).oth (Or.inl rfl)
    have hf2 : mo_f mo_xt mo_N μ (mz_wI (mz_wI μ1 0 14 (-1)) 0 14 0) := (hf1'.wI ⟨rfl, Or.inr (Or.inl rfl)⟩).wI ⟨rfl, Or.inr (Or.inl rfl)⟩
    have f14 : (mz_wI (mz_wI μ1 0 14 (-1)) 0 14 0).1 0 14 = 0 := by rw [mz_wI_at, if_pos ⟨rfl, rfl⟩]
    generalize mz_wI (mz_wI μ1 0 14 (-1)) 0 14 0 = μ2 at *
    obtain ⟨r5, μ5, hC5, hf5, hn⟩ := r_number d hl2 s0
    have hf5' : mo_f mo_xt mo_N μ μ5 := hf2.tr (hf5.mono mo_x11_t (fun _ z => z))
    rw [tx_sk_id nb0] at hn
    have w15 : ∀ x, (mz_wI μ5 0 15 x).1 0 15 = x := fun x => by rw [mz_wI_at, if_pos ⟨rfl, rfl⟩]
    refine ⟨_, _, hC5, ?_⟩
    rw [w15]
    rcases hn with ⟨c, rfl, hl6⟩ | ⟨c, rfl, hl6⟩
    · rw [if_pos c]
      have np := tx_np_i c
      refine es_f (nI_pos (by omega)) ⟨Or.inr rfl, es_rI ⟨hf5'.wI ⟨rfl, Or.inr (Or.inr rfl)⟩, rfl, hl6.oth (Or.inr rfl), ?_, w15 _⟩⟩
      rw [mz_wI_at, if_neg (by omega), hf5.1 0 14 (by unfold mo_x1; omega)]
      exact f14
    · rw [if_neg (show ¬ tx_dg (T.getD p0 0) = true by rw [c]; decide)]
      exact es_t (by decide +kernel) ⟨Or.inl rfl, es_rI ⟨hf5'.wI ⟨rfl, Or.inr (Or.inr rfl)⟩, rfl, hl6.oth (Or.inr rfl)⟩⟩
/-- a fault's place is no blank -/
theorem tx_step_nb {T : List Nat} (hT : T.length ≤ 60) {st o p q : Nat} (h : tx_step T st o p = .inl q) : T.getD q 0 ≠ 32 := by
  have s0 := tx_sk_nb hT p
  unfold tx_step at h
  generalize tx_sk T p = p0 at s0 h
  by_cases e0 : st = 1
  · rw [if_pos e0] at h
    unfold tx_due at h
    by_cases e1 : T.getD p0 0 = 40
    · rw [if_pos e1] at h
      by_cases e2 : o < 6
      · rw [if_pos e2] at h; cases h
      · rw [if_neg e2] at h; cases h; exact s0
    · rw [if_neg e1] at h
      by_cases e2 : tx_fam (T.getD p0 0) = true
      · rw [if_pos e2] at h
        have s1 := tx_sk_nb hT (p0 + 1)
        unfold tx_fm1 at h
        generalize tx_sk T (p0 + 1) = p1 at s1 h
        by_cases f1 : T.getD p1 0 = 40
        · rw [if_pos f1] at h
          have s2 := tx_sk_nb hT (p1 + 1)
          unfold tx_fm2 at h
          generalize tx_sk T (p1 + 1) = p2 at s2 h
          by_cases f2 : tx_dg (T.getD p2 0) = true
          · rw [if_pos f2] at h
            by_cases f3 : tx_kok (tx_kd (T.getD p0 0)) (tx_nv T p2) = true
            · rw [if_pos f3] at h
              have s4 := tx_sk_nb hT (tx_np T p2)
              unfold tx_fm3 at h
              generalize tx_sk T (tx_np T p2) = p4 at s4 h
              by_cases f4 : T.getD p4 0 = 41
              · rw [if_pos f4] at h; cases h
              · rw [if_neg f4] at h; cases h; exact s4
            · rw [if_neg f3] at h; cases h; exact s2
          · rw [if_neg f2] at h; cases h; exact s2
        · rw [if_neg f1] at h; cases h; exact s1
      · rw [if_neg e2] at h
        by_cases e3 : tx_dg (T.getD p0 0) = true
        · rw [if_pos e3] at h; cases h
        · rw [if_neg e3] at h; cases h; exact s0
  · rw [if_neg e0] at h
    unfold tx_beh at h
    by_cases e1 : T.getD p0 0 = 94 ∧ st = 2
    · rw [if_pos e1] at h
      have s1 := tx_sk_nb hT (p0 + 1)
      unfold tx_fig at h
      generalize tx_sk T (p0 + 1) = p1 at s1 h
      by_cases e2 : 48 ≤ T.getD p1 0 ∧ T.getD p1 0 ≤ 56
      · rw [if_pos e2] at h; cases h
      · rw [if_neg e2] at h; cases h; exact s1
    · rw [if_neg e1] at h
      by_cases e2 : tx_opl (T.getD p0 0) = true
      · rw [if_pos e2] at h; cases h
      · rw [if_neg e2] at h
        by_cases e3 : T.getD p0 0 = 41 ∧ 0 < o
        · rw [if_pos e3] at h; cases h
        · rw [if_neg e3] at h; cases h; exact s0
