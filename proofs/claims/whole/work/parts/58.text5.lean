/-! The reference works a text out. -/
theorem tx_sk_sk {T : List Nat} (h : T.length ≤ 60) (p : Nat) : tx_sk T (tx_sk T p) = tx_sk T p := tx_sk_id (tx_sk_nb h p)
theorem tx_run_sk {T : List Nat} (h : T.length ≤ 60) {g st o p : Nat} : tx_run T (g + 1) st o (tx_sk T p) = tx_run T (g + 1) st o p := by
  have e : tx_step T st o (tx_sk T p) = tx_step T st o p := by unfold tx_step; rw [tx_sk_sk h]
  show (if st ≠ 1 ∧ o = 0 ∧ T.length ≤ tx_sk T (tx_sk T p) then Sum.inr [] else match tx_step T st o (tx_sk T p) with
    | .inl q => .inl q
    | .inr w => tx_cons w.2 (tx_run T g w.1.1 w.1.2.1 w.1.2.2)) = _
  rw [e, tx_sk_sk h]
  rfl
theorem tx_run_inv {T : List Nat} {g st o p : Nat} {ts : List (Nat × Nat)} (h : tx_run T g st o p = .inr ts) (hne : ¬ (st ≠ 1 ∧ o = 0 ∧ T.length ≤ tx_sk T p)) : ∃ g' st' o' p' t us, g = g' + 1 ∧ tx_step T st o p = .inr ((st', o', p'), t) ∧ tx_run T g' st' o' p' = .inr us ∧ ts = t :: us := by
  cases g with
  | zero => cases h
  | succ g =>
    cases hs : tx_step T st o p with
    | inl q =>
      rw [tx_run_l hne hs] at h
      cases h
    | inr w =>
      obtain ⟨⟨st', o', p'⟩, t⟩ := w
      rw [tx_run_r hne hs] at h
      obtain ⟨us, h1, h2⟩ := tx_cons_r h
      exact ⟨g, st', o', p', t, us, rfl, rfl, h1, h2⟩
/-- behind a value: what comes next -/
theorem tx_run_94 {T : List Nat} {g o p : Nat} {us : List (Nat × Nat)} (h : tx_run T g 2 o p = .inr us) (h94 : T.getD (tx_sk T p) 0 = 94) : (48 ≤ T.getD (tx_sk T (tx_sk T p + 1)) 0 ∧ T.getD (tx_sk T (tx_sk T p + 1)) 0 ≤ 56) ∧ ∃ g' vs, g = g' + 1 ∧ us = (94, T.getD (tx_sk T (tx_sk T p + 1)) 0 - 48) :: vs ∧ tx_run T g' 3 o (tx_sk T (tx_sk T p + 1) + 1) = .inr vs := by
  have lt := tx_lt h94 (by decide)
  obtain ⟨g', st', o', p', t, vs, rfl, hs, hr, rfl⟩ := tx_run_inv h (fun z => by omega)
  have e : tx_step T 2 o p = tx_fig T o (tx_sk T (tx_sk T p + 1)) := by
    unfold tx_step tx_beh
    rw [if_neg (by decide), if_pos ⟨h94, rfl⟩]
  rw [e] at hs
  unfold tx_fig at hs
  by_cases c : 48 ≤ T.getD (tx_sk T (tx_sk T p + 1)) 0 ∧ T.getD (tx_sk T (tx_sk T p + 1)) 0 ≤ 56
  · rw [if_pos c] at hs
    cases hs
    exact ⟨c, g', vs, rfl, rfl, hr⟩
  · rw [if_neg c] at hs; cases hs
theorem tx_beh_t {T : List Nat} {st o p0 st' o' p' : Nat} {t : Nat × Nat} (h94 : st = 2 → T.getD p0 0 ≠ 94) (hst : st = 2 ∨ st = 3) (h : tx_beh T st o p0 = .inr ((st', o', p'), t)) : (tx_opl (T.getD p0 0) = true ∧ st' = 1 ∧ o' = o ∧ p' = p0 + 1 ∧ t = (T.getD p0 0, 0)) ∨ (T.getD p0 0 = 41 ∧ 0 < o ∧ st' = 2 ∧ o' = o - 1 ∧ p' = p0 + 1 ∧ t = (41, 0)) := by
  unfold tx_beh at h
  rw [if_neg (fun z => h94 z.2 z.1)] at h
  by_cases e2 : tx_opl (T.getD p0 0) = true
  · rw [if_pos e2] at h
    cases h
    exact Or.inl ⟨e2, rfl, rfl, rfl, rfl⟩
  · rw [if_neg e2] at h
    by_cases e3 : T.getD p0 0 = 41 ∧ 0 < o
    · rw [if_pos e3] at h
      cases h
      exact Or.inr ⟨e3.1, e3.2, rfl, rfl, rfl, rfl⟩
    · rw [if_neg e3] at h; cases h
theorem tx_run_np94 {T : List Nat} {g o p : Nat} {us : List (Nat × Nat)} (h : tx_run T g 2 o p = .inr us) (h94 : T.getD (tx_sk T p) 0 ≠ 94) : tx_np94 us := by
  intro t vs he
  by_cases hne : (2 : Nat) ≠ 1 ∧ o = 0 ∧ T.length ≤ tx_sk T p
  · cases g with
    | zero => cases h
    | succ g =>
      rw [tx_run_end hne] at h
      cases h
      cases he
  · obtain ⟨g', st', o', p', t', vs', rfl, hs, hr, e2⟩ := tx_run_inv h hne
    rw [e2] at he
    cases he
    have e : tx_step T 2 o p = tx_beh T 2 o (tx_sk T p) := by unfold tx_step; rw [if_neg (by decide)]
    rw [e] at hs
    rcases tx_beh_t (fun _ => h94) (Or.inl rfl) hs with ⟨a, -, -, -, rfl⟩ | ⟨-, -, -, -, -, rfl⟩
    · exact h94
    · decide
def mo_ws (μ0 : mz_M) (n : Nat) (R : tx_R) (r : Int32) (μ' : mz_M) : Prop := match R with
  | .inl w => mo_brk μ0 w.1 w.2.1 w.2.2 r μ'
  | .inr l => r = 0 ∧ mo_f mo_X mo_Y μ0 μ' ∧ mo_ls μ' 4 6 l ∧ es_ok l ∧ l.length = n
theorem es_neg_0 {c : Int32} (h : c.toInt < 0) : ¬ c = 0 := fun z => by rw [z, es_i0] at h; omega
theorem mo_wl {μ μ' : mz_M} (h : mo_f mo_x3 (mo_yp 7) μ μ') : mo_f mo_X mo_Y μ μ' := h.mono mo_x3_X (mo_yp_Y (Or.inl rfl))
set_option maxHeartbeats 1000000 in
theorem r_works (d : Nat) {μ : mz_M} {T : List Nat} {n : Nat} {ts : List (Nat × Nat)} (h : mo_tp μ T) (hn1 : 1 ≤ n) (hn40 : n ≤ 40) (hN : μ.1 1 0 = nI n) (hts : tx_prs T = .inr ts) : es_I (d + 7) n_Mo_works [mz_R 16 0] μ (mo_ws μ n (tx_ev n ts tx_0 [] none)) := by
  have h60 := h.1
  generalize hR : tx_ev n ts tx_0 [] none = R0
  have one0 : ¬ (1 : Int32) = 0 := by decide +kernel
  have stop : ∀ (x1 x2 : Int32) (μ' : mz_M), ¬ x1 = 0 → mo_ws μ n R0 x1 μ' → v_Mo_works (es_R (d + 6)) (es_qI (mo_ws μ n R0)) (18, [(0, mz_R 16 0), (1, mz_I x1), (2, mz_I x2)], [], μ') := by
    intro x1 x2 μ' hx hm
    exact w_Mo_works_18 0 x1 x2 μ' (es_f hx (es_f hx (es_rI hm)))
  have key : ∀ (gg g : Nat), g ≤ gg →
      (∀ (p : Nat) (μ' : mz_M) (F : tx_F) (G : List tx_F) (us : List (Nat × Nat)), mo_f mo_X mo_Y μ μ' → mo_pl μ' T p → p ≤ T.length → mo_wk μ' n F G False → tx_run T g 1 G.length p = .inr us → R0 = tx_ev n us F G none → v_Mo_works (es_R (d + 6)) (es_qI (mo_ws μ n R0)) (18, [(0, mz_R 16 0), (1, mz_I 0), (2, mz_I 1)], [], μ')) ∧
      (∀ (st p : Nat) (μ' : mz_M) (F : tx_F) (G : List tx_F) (us : List (Nat × Nat)), (st = 2 ∨ st = 3) → (st = 2 → T.getD (tx_sk T p) 0 ≠ 94) → mo_f mo_X mo_Y μ μ' → mo_pl μ' T p → p ≤ T.length → mo_wk μ' n F G True → tx_run T g st G.length p = .inr us → R0 = tx_ev n us F G (some none) → v_Mo_works (es_R (d + 6)) (es_qI (mo_ws μ n R0)) (18, [(0, mz_R 16 0), (1, mz_I 0), (2, mz_I 0)], [], μ')) := by
    intro gg
    induction gg with
    | zero =>
      intro g hg
      have : g = 0 := by omega
      subst this
      exact ⟨fun p μ' F G us _ _ _ _ hr _ => (by cases hr), fun st p μ' F G us _ _ _ _ _ _ hr _ => (by cases hr)⟩
    | succ gg ih =>
      intro g hg
      -- behind a value
      have val : ∀ (g2 p : Nat) (μ2 μ3 : mz_M) (F : tx_F) (G : List tx_F) (us : List (Nat × Nat)) (l : List Int) (r : Int32), g2 ≤ gg → mo_f mo_X mo_Y μ μ2 → p ≤ T.length → tx_run T g2 2 G.length p = .inr us → R0 = tx_ev n us F G (some (some l)) → mo_va μ2 T p n F G l r μ3 → v_Mo_works (es_R (d + 6)) (es_qI (mo_ws μ n R0)) (18, [(0, mz_R 16 0), (1, mz_I r), (2, mz_I 0)], [], μ3) := by
        intro g2 p μ2 μ3 F G us l r hg2 hf2 hp hrun hR0 hva
        have s0 := tx_sk_len hp
        rcases hva with ⟨e, ho⟩ | ⟨e, ho⟩
        · obtain ⟨hv, g3, vs, rfl, rfl, hr3⟩ := tx_run_94 hrun e
          have lt := tx_lt e (by decide)
          have s1 := tx_sk_len (T := T) (p := tx_sk T p + 1) (by omega)
          generalize tx_sk T (tx_sk T p + 1) = p1 at *
          have lt1 := tx_lt rfl (show T.getD p1 0 ≠ 0 by omega)
          rw [tx_ev_pow rfl] at hR0
          have ho := ho.base hf2
          cases hpw : tx_pw l (T.getD p1 0 - 48) with
          | inl c =>
            rw [hpw] at ho hR0
            have hb : mo_brk μ c G.length 94 r μ3 := ho
            have hR0 : R0 = .inl (c, G.length, 94) := hR0
            refine stop r _ μ3 (by rw [hb.2.1]; exact es_neg_0 hb.2.2.1) ?_
            rw [hR0]
            exact hb
          | inr l2 =>
            rw [hpw] at ho hR0
            cases hjp : tx_jp F l2 with
            | inl c =>
              have hR0 : R0 = tx_or (tx_jp F l2) G.length F.2.2 (fun l2 => tx_ev n vs (F.1, (l2, F.2.2)) G (some none)) := hR0
              have ho : mo_out μ T (p1 + 1) n F G (tx_or (tx_jp F l2) G.length F.2.2 .inr) r μ3 := ho
              rw [hjp] at ho hR0
              have hb : mo_brk μ c G.length F.2.2 r μ3 := ho
              have hR0 : R0 = .inl (c, G.length, F.2.2) := hR0
              refine stop r _ μ3 (by rw [hb.2.1]; exact es_neg_0 hb.2.2.1) ?_
              rw [hR0]
              exact hb
            | inr l3 =>
              have hR0 : R0 = tx_or (tx_jp F l2) G.length F.2.2 (fun l2 => tx_ev n vs (F.1, (l2, F.2.2)) G (some none)) := hR0
              have ho : mo_out μ T (p1 + 1) n F G (tx_or (tx_jp F l2) G.length F.2.2 .inr) r μ3 := ho
              rw [hjp] at ho hR0
              obtain ⟨rfl, b1, b2, b3⟩ := ho
              exact (ih g3 (by omega)).2 3 (p1 + 1) μ3 (F.1, (l3, F.2.2)) G vs (Or.inr rfl) (fun z => by omega) b1 b2 (by omega) b3 hr3 hR0
        · have hnp := tx_run_np94 hrun e
          rw [tx_ev_val hnp] at hR0
          have ho := ho.base hf2
          cases hjp : tx_jp F l with
          | inl c =>
            rw [hjp] at ho hR0
            have hb : mo_brk μ c G.length F.2.2 r μ3 := ho
            have hR0 : R0 = .inl (c, G.length, F.2.2) := hR0
            refine stop r _ μ3 (by rw [hb.2.1]; exact es_neg_0 hb.2.2.1) ?_
            rw [hR0]
            exact hb
          | inr l3 =>
            rw [hjp] at ho hR0
            obtain ⟨rfl, b1, b2, b3⟩ := ho
            refine (ih g2 hg2).2 2 (tx_sk T p) μ3 (F.1, (l3, F.2.2)) G us (Or.inl rfl) (fun _ => by rw [tx_sk_sk h60]; exact e) b1 b2 s0 b3 ?_ hR0
            cases g2 with
            | zero => cases hrun
            | succ g2 => rw [tx_run_sk h60]; exact hrun
      refine ⟨?_, ?_⟩
      · intro p μ' F G us hf hl hp hw hrun hR0
        have hne : ¬ ((1 : Nat) ≠ 1 ∧ G.length = 0 ∧ T.length ≤ tx_sk T p) := fun z => z.1 rfl
        obtain ⟨g', st', o', p', t, vs, rfl, hs, hr, rfl⟩ := tx_run_inv hrun hne
        have stp : tx_step T 1 G.length p = tx_due T G.length (tx_sk T p) := by unfold tx_step; rw [if_pos rfl]
        obtain ⟨i1, i2, -, -, -⟩ := tx_step_i (Or.inl rfl) hp hs
        rw [stp] at hs
        obtain ⟨r1, μ1, hC1, hf1, rfl, hl1⟩ := r_here (d + 5) hl hp
        have s0 := tx_sk_len hp
        have nb := tx_sk_nb h60 p
        have sm := hl.small (tx_sk T p)
        obtain ⟨r2, μ2, hC2, hf2, er2, hl2⟩ := r_here (d + 5) hl1 s0
        rw [tx_sk_id nb] at er2 hl2
        subst er2
        have hf2X : mo_f (mo_x1 11) mo_N μ' μ2 := hf1.tr hf2
        have hf2' : mo_f mo_X mo_Y μ μ2 := hf.tr (hf2X.mono mo_x11_X mo_N_Y)
        have kw : mo_wk μ2 n F G False := hw.kept hf2X (by unfold mo_x1; omega) (fun k => by unfold mo_x1; omega) (fun k => by unfold mo_x1; omega) (by unfold mo_N; exact id) (by unfold mo_N; exact id)
        have kN : μ2.1 1 0 = nI n := by rw [hf2'.1 1 0 (by unfold mo_X; omega)]; exact hN
        have hrne : ¬ nI (T.getD (tx_sk T p) 0) = (0 : Int32) := by
          intro z
          have z := (nI_eq (b := 0) (by omega) (by omega)).mp z
          unfold tx_due at hs
          rw [z, if_neg (by decide), if_neg (by decide), if_neg (by decide)] at hs
          cases hs
        refine w_Mo_works_18 0 _ _ μ' (es_t rfl ⟨_, _, hC1, es_f hrne ⟨_, _, hC2, es_f one0 (es_br (fun q => ?_) (fun q => es_f one0 ?_))⟩⟩)
        · have q := (nI_eq (b := 40) (by omega) (by omega)).mp q
          unfold tx_due at hs
          rw [if_pos q] at hs
          by_cases ho : G.length < 6
          · rw [if_pos ho] at hs
            cases hs
            rw [tx_ev_open rfl] at hR0
            have w15 : (mz_wI μ2 0 11 ((μ2.1 0 11) + 1)).1 0 20 = nI G.length := by rw [mz_wI_at, if_neg (by omega)]; exact kw.1.2
            rw [w15, hl2.2, nI_1, nI_1]
            generalize tx_sk T p = p0 at *
            have hl3 := hl2.set (p0 + 1)
            have hB : es_V (d + 6) n_Mo_begins [mz_R 16 0] (mz_wI (mz_wI μ2 0 11 (nI (p0 + 1))) 0 20 (nI (G.length + 1))) (fun μ' => μ' = mz_wI (mz_wI (mz_wI (mz_wI μ2 0 11 (nI (p0 + 1))) 0 20 (nI (G.length + 1))) 9 (G.length + 1) 0) 10 (G.length + 1) 0) := by
              refine es_V.mk (w_Mo_begins_0 0 _ ?_)
              have e1 : (mz_wI (mz_wI μ2 0 11 (nI (p0 + 1))) 0 20 (nI (G.length + 1))).1 0 20 = nI (G.length + 1) := by rw [mz_wI_at, if_pos ⟨rfl, rfl⟩]
              rw [e1, es_clamp (by omega)]
              have e2 : (mz_wI (mz_wI (mz_wI μ2 0 11 (nI (p0 + 1))) 0 20 (nI (G.length + 1))) 9 (G.length + 1) 0).1 0 20 = nI (G.length + 1) := by rw [mz_wI_at, if_neg (by omega)]; exact e1
              rw [e2, es_clamp (by omega)]
              exact ⟨es_v7 (by omega), es_v7 (by omega), es_rV rfl⟩
            obtain ⟨μ4, hC4, rfl⟩ := hB
            refine ⟨_, hC4, (ih g' (by omega)).1 (p0 + 1) _ tx_0 (F :: G) vs ?_ ?_ i2 ?_ hr hR0⟩
            · exact (((hf2'.wI (Or.inl ⟨rfl, by omega⟩)).wI (Or.inl ⟨rfl, by omega⟩)).wI (Or.inr (Or.inl rfl))).wI (Or.inr (Or.inr rfl))
            · have hff : mo_f (fun q k => (q = 0 ∧ k = 20) ∨ q = 9 ∨ q = 10) mo_N (mz_wI μ2 0 11 (nI (p0 + 1))) (mz_wI (mz_wI (mz_wI (mz_wI μ2 0 11 (nI (p0 + 1))) 0 20 (nI (G.length + 1))) 9 (G.length + 1) 0) 10 (G.length + 1) 0) := ((mo_f.rf.wI (Or.inl ⟨rfl, rfl⟩)).wI (Or.inr (Or.inl rfl))).wI (Or.inr (Or.inr rfl))
              exact hl3.kept hff (by omega) (fun k => by omega) (by omega)
            · obtain ⟨⟨a, b⟩, c, e⟩ := kw
              have n9 : ∀ k, k ≠ G.length + 1 → (mz_wI (mz_wI (mz_wI (mz_wI μ2 0 11 (nI (p0 + 1))) 0 20 (nI (G.length + 1))) 9 (G.length + 1) 0) 10 (G.length + 1) 0).1 9 k = μ2.1 9 k := fun k hk => by rw [mz_wI_at, if_neg (by omega), mz_wI_at, if_neg (by omega), mz_wI_at, if_neg (by omega), mz_wI_at, if_neg (by omega)]
              have n10 : ∀ k, k ≠ G.length + 1 → (mz_wI (mz_wI (mz_wI (mz_wI μ2 0 11 (nI (p0 + 1))) 0 20 (nI (G.length + 1))) 9 (G.length + 1) 0) 10 (G.length + 1) 0).1 10 k = μ2.1 10 k := fun k hk => by rw [mz_wI_at, if_neg (by omega), mz_wI_at, if_neg (by omega), mz_wI_at, if_neg (by omega), mz_wI_at, if_neg (by omega)]
              refine ⟨⟨by show G.length + 1 ≤ 6; omega, ?_⟩, ⟨?_, ?_, by decide, by decide, fun z => absurd rfl z, fun z => z.elim (fun z => absurd rfl z) (fun z => z.elim)⟩, fun j F' hj => ?_⟩
              · show _ = nI (G.length + 1)
                rw [mz_wI_at, if_neg (by omega), mz_wI_at, if_neg (by omega), mz_wI_at, if_pos ⟨rfl, rfl⟩]
              · show (mz_wI (mz_wI (mz_wI (mz_wI μ2 0 11 (nI (p0 + 1))) 0 20 (nI (G.length + 1))) 9 (G.length + 1) 0) 10 (G.length + 1) 0).1 9 (G.length + 1) = nI 0
                rw [mz_wI_at, if_neg (by omega), mz_wI_at, if_pos ⟨rfl, rfl⟩]; rfl
              · show (mz_wI (mz_wI (mz_wI (mz_wI μ2 0 11 (nI (p0 + 1))) 0 20 (nI (G.length + 1))) 9 (G.length + 1) 0) 10 (G.length + 1) 0).1 10 (G.length + 1) = nI 0
                rw [mz_wI_at, if_pos ⟨rfl, rfl⟩]; rfl
              · have hjl := mo_ah_lt' hj
                have hjl : j < G.length + 1 := hjl
                show mo_fr _ n (G.length + 1 - 1 - j) F' False
                cases j with
                | zero =>
                  cases hj
                  rw [show G.length + 1 - 1 - 0 = G.length by omega]
                  exact c.kept (n9 _ (by omega)) (n10 _ (by omega)) (fun _ _ => rfl) (fun _ _ => rfl)
                | succ j =>
                  have hj : G[j]? = some F' := hj
                  rw [show G.length + 1 - 1 - (j + 1) = G.length - 1 - j by omega]
                  exact (e j F' hj).kept (n9 _ (by omega)) (n10 _ (by omega)) (fun _ _ => rfl) (fun _ _ => rfl)
          · rw [if_neg ho] at hs; cases hs
        · have q : ¬ T.getD (tx_sk T p) 0 = 40 := fun z => q (by rw [z]; rfl)
          obtain ⟨rfl, rfl, hat⟩ := tx_due_2 q hs
          have ht40 : ¬ t.1 = 40 := by
            rcases hat with ⟨z, -⟩ | ⟨z, -⟩
            · omega
            · have := of_decide_eq_true z
              omega
          rw [tx_ev_atom ht40] at hR0
          obtain ⟨r5, μ5, hC5, hva⟩ := r_makesAtom d (T := T) (p := tx_sk T p) (t := t) hl2 s0 (by rw [tx_sk_sk h60]; exact q) (by rw [tx_sk_sk h60]; exact hs) i2 kw hn1 hn40 kN (fun z => (tx_run_94 hr z).1)
          exact ⟨_, _, hC5, val g' p' μ2 μ5 F G vs _ r5 (by omega) hf2' i2 hr hR0 hva⟩
      · intro st p μ' F G us hst h94 hf hl hp hw hrun hR0
        obtain ⟨r1, μ1, hC1, hf1, rfl, hl1⟩ := r_here (d + 5) hl hp
        have s0 := tx_sk_len hp
        have nb := tx_sk_nb h60 p
        have sm := hl.small (tx_sk T p)
        have hf1' : mo_f mo_X mo_Y μ μ1 := hf.tr (hf1.mono mo_x11_X mo_N_Y)
        have kw1 : mo_wk μ1 n F G True := hw.kept hf1 (by unfold mo_x1; omega) (fun k => by unfold mo_x1; omega) (fun k => by unfold mo_x1; omega) (by unfold mo_N; exact id) (by unfold mo_N; exact id)
        have kN1 : μ1.1 1 0 = nI n := by rw [hf1'.1 1 0 (by unfold mo_X; omega)]; exact hN
        refine w_Mo_works_18 0 _ _ μ' (es_t rfl ⟨_, _, hC1, es_br (fun q => es_t rfl ?_) (fun q => ?_)⟩)
        · have q := (nI_eq (b := 0) (by omega) (by omega)).mp q
          have hend : T.length ≤ tx_sk T p := by
            refine Nat.le_of_not_lt (fun z => ?_)
            have := (hl.1.2.2 _ z).2.1
            omega
          have hus : us = [] ∧ G.length = 0 := by
            by_cases hne : st ≠ 1 ∧ G.length = 0 ∧ T.length ≤ tx_sk T p
            · cases g with
              | zero => cases hrun
              | succ g =>
                rw [tx_run_end hne] at hrun
                cases hrun
                exact ⟨rfl, hne.2.1⟩
            · obtain ⟨g', st', o', p', t, vs, rfl, hs, hr, rfl⟩ := tx_run_inv hrun hne
              exfalso
              have e : tx_step T st G.length p = tx_beh T st G.length (tx_sk T p) := by unfold tx_step; rw [if_neg (by omega)]
              rw [e] at hs
              rcases tx_beh_t h94 hst hs with ⟨a, -⟩ | ⟨a, -⟩
              · rw [q] at a
                exact absurd a (by decide)
              · omega
          obtain ⟨rfl, hG⟩ := hus
          rw [tx_ev_sum (fun t us z => by cases z)] at hR0
          obtain ⟨r3, μ3, hC3, hj⟩ := r_joinsSum (d + 2) kw1 hn1 kN1
          refine ⟨_, _, hC3, es_rI ?_⟩
          cases hjs : tx_js F with
          | inl c =>
            rw [hjs] at hj hR0
            have hR0 : R0 = .inl (c, G.length, F.1.2) := hR0
            rw [hR0]
            exact mo_brk.base hf1' hj
          | inr s =>
            rw [hjs] at hj hR0
            have hR0 : R0 = .inr s := hR0
            rw [hR0]
            exact ⟨hj.1, hf1'.tr (mo_wl hj.2.1), hj.2.2.1, hj.2.2.2.1, hj.2.2.2.2.1⟩
        · have q : ¬ T.getD (tx_sk T p) 0 = 0 := fun z => q (by rw [z]; rfl)
          have lt := tx_lt rfl q
          have hne : ¬ (st ≠ 1 ∧ G.length = 0 ∧ T.length ≤ tx_sk T p) := fun z => by omega
          obtain ⟨g', st', o', p', t, vs, rfl, hs, hr, rfl⟩ := tx_run_inv hrun hne
          have stp : tx_step T st G.length p = tx_beh T st G.length (tx_sk T p) := by unfold tx_step; rw [if_neg (by omega)]
          rw [stp] at hs
          obtain ⟨r2, μ2, hC2, hf2, er2, hl2⟩ := r_here (d + 5) hl1 s0
          rw [tx_sk_id nb] at er2 hl2
          subst er2
          have hf2' : mo_f mo_X mo_Y μ μ2 := hf1'.tr (hf2.mono mo_x11_X mo_N_Y)
          have kw : mo_wk μ2 n F G True := kw1.kept hf2 (by unfold mo_x1; omega) (fun k => by unfold mo_x1; omega) (fun k => by unfold mo_x1; omega) (by unfold mo_N; exact id) (by unfold mo_N; exact id)
          have kN : μ2.1 1 0 = nI n := by rw [hf2'.1 1 0 (by unfold mo_X; omega)]; exact hN
          have tb := tx_beh_t h94 hst hs
          clear hC1 hl1 hf1 hf1' kw1 kN1 hs stp hrun hne
          generalize tx_sk T p = p0 at *
          have cq : ∀ b : Nat, b < 1000 → (nI (T.getD p0 0) = nI b ↔ T.getD p0 0 = b) := fun b hb => nI_eq (by omega) (by omega)
          have mul : (T.getD p0 0 = 42 ∨ T.getD p0 0 = 47) → vp_in (μ2.1 0 20) 7 ∧ v_Mo_works (es_R (d + 6)) (es_qI (mo_ws μ n R0)) (18, [(0, mz_R 16 0), (1, mz_I 0), (2, mz_I 1)], [], mz_wI (mz_wI μ2 10 (μ2.1 0 20 : Int32).toNatClampNeg (nI (T.getD p0 0))) 0 11 (((mz_wI μ2 10 (μ2.1 0 20 : Int32).toNatClampNeg (nI (T.getD p0 0))).1 0 11) + 1)) := by
            intro hc
            rcases tb with ⟨a, rfl, rfl, rfl, rfl⟩ | ⟨a, -⟩
            · rw [tx_ev_mul hc] at hR0
              obtain ⟨⟨w1, w2⟩, c, e⟩ := kw
              rw [w2, es_clamp (by omega)]
              have e11 : (mz_wI μ2 10 G.length (nI (T.getD p0 0))).1 0 11 = nI p0 := by rw [mz_wI_at, if_neg (by omega)]; exact hl2.2
              rw [e11, nI_1]
              have hffl : mo_f (fun q _ => q = 10) mo_N μ2 (mz_wI μ2 10 G.length (nI (T.getD p0 0))) := mo_f.rf.wI rfl
              refine ⟨es_v7 w1, (ih g' (by omega)).1 (p0 + 1) _ (F.1, (F.2.1, T.getD p0 0)) G vs ((hf2'.wI (Or.inr (Or.inr rfl))).wI (Or.inl ⟨rfl, by omega⟩)) ((hl2.kept hffl (by omega) (fun k => by omega) (by omega)).set (p0 + 1)) (by omega) ⟨⟨w1, ?_⟩, ?_, fun j F' hj => ?_⟩ hr hR0⟩
              · rw [mz_wI_at, if_neg (by omega), mz_wI_at, if_neg (by omega)]; exact w2
              · obtain ⟨f1, f2, f3, f4, f5, f6⟩ := c
                refine ⟨?_, ?_, f3, by show T.getD p0 0 < 1000; omega, f5, fun _ => f6 (Or.inr trivial)⟩
                · rw [mz_wI_at, if_neg (by omega), mz_wI_at, if_neg (by omega)]; exact f1
                · rw [mz_wI_at, if_neg (by omega), mz_wI_at, if_pos ⟨rfl, rfl⟩]
              · have := mo_ah_lt' hj
                refine (e j F' hj).kept ?_ ?_ (fun _ _ => rfl) (fun _ _ => rfl)
                · rw [mz_wI_at, if_neg (by omega), mz_wI_at, if_neg (by omega)]
                · rw [mz_wI_at, if_neg (by omega), mz_wI_at, if_neg (by omega)]
            · omega
          refine ⟨_, _, hC2, es_t rfl (es_t rfl (es_br (fun q2 => mul (Or.inl ((cq 42 (by omega)).mp q2))) (fun q2 => es_br (fun q3 => mul (Or.inr ((cq 47 (by omega)).mp q3))) (fun q3 => ?_))))⟩
          have q2 : ¬ T.getD p0 0 = 42 := fun z => q2 ((cq 42 (by omega)).mpr z)
          have q3 : ¬ T.getD p0 0 = 47 := fun z => q3 ((cq 47 (by omega)).mpr z)
          have hnpm : tx_npm (t :: vs) := by
            intro t2 us2 he
            cases he
            rcases tb with ⟨a, -, -, -, rfl⟩ | ⟨-, -, -, -, -, rfl⟩
            · have a := of_decide_eq_true a
              show T.getD p0 0 ≠ 94 ∧ T.getD p0 0 ≠ 42 ∧ T.getD p0 0 ≠ 47
              omega
            · decide
          rw [tx_ev_sum hnpm] at hR0
          obtain ⟨r3, μ3, hC3, hj⟩ := r_joinsSum (d + 2) kw hn1 kN
          refine ⟨_, _, hC3, ?_⟩
          cases hjs : tx_js F with
          | inl c =>
            rw [hjs] at hj hR0
            have hR0 : R0 = .inl (c, G.length, F.1.2) := hR0
            have hb : mo_brk μ c G.length F.1.2 r3 μ3 := mo_brk.base hf2' hj
            have hr0 : ¬ r3 = 0 := by rw [hb.2.1]; exact es_neg_0 hb.2.2.1
            have go : ∀ x2, v_Mo_works (es_R (d + 6)) (es_qI (mo_ws μ n R0)) (18, [(0, mz_R 16 0), (1, mz_I r3), (2, mz_I x2)], [], mz_wI μ3 0 11 ((μ3.1 0 11) + 1)) := by
              intro x2
              refine stop r3 x2 _ hr0 ?_
              rw [hR0]
              refine ⟨hb.1.wI (Or.inl (Or.inl ⟨rfl, by omega⟩)), hb.2.1, hb.2.2.1, ?_, ?_⟩
              · rw [mz_wI_at, if_neg (by omega)]; exact hb.2.2.2.1
              · rw [mz_wI_at, if_neg (by omega)]; exact hb.2.2.2.2
            exact es_br (fun _ => es_f hr0 (es_f hr0 (go _))) (fun _ => es_f hr0 (es_f hr0 (go _)))
          | inr s =>
            rw [hjs] at hj hR0
            have hR0 : R0 = tx_aft n (t :: vs) s G := hR0
            obtain ⟨ks, kG⟩ := mo_jn.sum kw hj
            obtain ⟨rfl, hf3, hs4, sok, slen, -⟩ := hj
            have hf3' : mo_f mo_X mo_Y μ μ3 := hf2'.tr (mo_wl hf3)
            have e20 : μ3.1 0 20 = nI G.length := by rw [hf3.1 0 20 (by unfold mo_x3; omega)]; exact kw.1.2
            have hl3 : mo_pl μ3 T p0 := hl2.kept hf3 (by unfold mo_x3; omega) (fun k => by unfold mo_x3; omega) (by unfold mo_x3; omega)
            have kN3 : μ3.1 1 0 = nI n := by rw [hf3'.1 1 0 (by unfold mo_X; omega)]; exact hN
            have e20' : (mz_wI μ3 0 11 (nI (p0 + 1))).1 0 20 = nI G.length := by rw [mz_wI_at, if_neg (by omega)]; exact e20
            rw [hl3.2, nI_1, e20']
            have hl4 := hl3.set (p0 + 1)
            have hf4 : mo_f mo_X mo_Y μ (mz_wI μ3 0 11 (nI (p0 + 1))) := hf3'.wI (Or.inl ⟨rfl, by omega⟩)
            refine es_br (fun q4 => es_t rfl (es_t rfl (es_t rfl ?_))) (fun q4 => es_t rfl (es_f one0 ?_))
            · have q4 := (cq 41 (by omega)).mp q4
              rcases tb with ⟨a, -⟩ | ⟨-, ho, rfl, rfl, rfl, rfl⟩
              · have a := of_decide_eq_true a
                omega
              · cases G with
                | nil => exact absurd ho (Nat.lt_irrefl 0)
                | cons F2 G2 =>
                  have hR0 : R0 = tx_ev n vs F2 G2 (some (some s)) := hR0
                  have hr : tx_run T g' 2 G2.length (p0 + 1) = .inr vs := hr
                  have e21 : nI (F2 :: G2).length - 1 = nI G2.length := by
                    rw [es_m1]
                    exact pk_m1 G2.length
                  rw [e21]
                  have w6 : G2.length + 1 ≤ 6 := kw.1.1
                  have hff : mo_f (fun q k => q = 0 ∧ (k = 11 ∨ k = 20)) mo_N μ3 (mz_wI (mz_wI μ3 0 11 (nI (p0 + 1))) 0 20 (nI G2.length)) := (mo_f.rf.wI (X := fun q k => q = 0 ∧ (k = 11 ∨ k = 20)) ⟨rfl, Or.inl rfl⟩).wI ⟨rfl, Or.inr rfl⟩
                  have hff2 : mo_f (fun q k => q = 0 ∧ k = 20) mo_N (mz_wI μ3 0 11 (nI (p0 + 1))) (mz_wI (mz_wI μ3 0 11 (nI (p0 + 1))) 0 20 (nI G2.length)) := mo_f.rf.wI ⟨rfl, rfl⟩
                  have hl5 := hl4.kept hff2 (by omega) (fun k => by omega) (by omega)
                  have hw5 : mo_wk (mz_wI (mz_wI μ3 0 11 (nI (p0 + 1))) 0 20 (nI G2.length)) n F2 G2 False := by
                    have fk : ∀ lv F3, mo_fr μ3 n lv F3 False → mo_fr (mz_wI (mz_wI μ3 0 11 (nI (p0 + 1))) 0 20 (nI G2.length)) n lv F3 False := fun lv F3 z => z.kept (hff.1 9 lv (by omega)) (hff.1 10 lv (by omega)) (fun _ _ => rfl) (fun _ _ => rfl)
                    refine ⟨⟨by omega, by rw [mz_wI_at, if_pos ⟨rfl, rfl⟩]⟩, ?_, fun j F' hj => ?_⟩
                    · have := kG 0 F2 rfl
                      rw [show (F2 :: G2).length - 1 - 0 = G2.length from rfl] at this
                      exact fk _ _ this
                    · have := kG (j + 1) F' hj
                      rw [show (F2 :: G2).length - 1 - (j + 1) = G2.length - 1 - j by show G2.length + 1 - 1 - (j + 1) = _; omega] at this
                      exact fk _ _ this
                  obtain ⟨r5, μ5, hC5, hva⟩ := r_joinsAtom (d + 1) hl5 (by omega) hw5 (hs4.kept hff (by omega) (by unfold mo_N; exact id)) sok slen hn1 (by rw [hff.1 1 0 (by omega)]; exact kN3) (fun z => (tx_run_94 hr z).1)
                  exact ⟨_, _, hC5, val g' (p0 + 1) _ μ5 F2 G2 vs s r5 (by omega) (hf4.wI (Or.inl ⟨rfl, by omega⟩)) (by omega) hr hR0 hva⟩
            · have q4 : ¬ T.getD p0 0 = 41 := fun z => q4 ((cq 41 (by omega)).mpr z)
              rcases tb with ⟨a, rfl, rfl, rfl, rfl⟩ | ⟨a, -⟩
              · have hR0 : R0 = tx_ev n vs ((s, T.getD p0 0), ([], 0)) G none := by
                  rw [hR0]
                  show (if T.getD p0 0 = 41 then _ else _) = _
                  rw [if_neg q4]
                have w6 : G.length ≤ 6 := kw.1.1
                rw [es_clamp (show G.length < 2147483648 by omega)]
                have e22 : (mz_wI (mz_wI μ3 0 11 (nI (p0 + 1))) 9 G.length (nI (T.getD p0 0))).1 0 20 = nI G.length := by rw [mz_wI_at, if_neg (by omega)]; exact e20'
                rw [e22, es_clamp (show G.length < 2147483648 by omega)]
                have hff : mo_f (fun q _ => q = 9 ∨ q = 10) mo_N (mz_wI μ3 0 11 (nI (p0 + 1))) (mz_wI (mz_wI (mz_wI μ3 0 11 (nI (p0 + 1))) 9 G.length (nI (T.getD p0 0))) 10 G.length 0) := (mo_f.rf.wI (X := fun q _ => q = 9 ∨ q = 10) (Or.inl rfl)).wI (Or.inr rfl)
                refine ⟨es_v7 w6, es_v7 w6, (ih g' (by omega)).1 (p0 + 1) _ ((s, T.getD p0 0), ([], 0)) G vs ((hf4.wI (Or.inr (Or.inl rfl))).wI (Or.inr (Or.inr rfl))) (hl4.kept hff (by omega) (fun k => by omega) (by omega)) (by omega) ⟨⟨w6, ?_⟩, ?_, fun j F' hj => ?_⟩ hr hR0⟩
                · rw [mz_wI_at, if_neg (by omega)]; exact e22
                · refine ⟨?_, ?_, by show T.getD p0 0 < 1000; omega, by show (0 : Nat) < 1000; decide, fun _ => ks, fun z => z.elim (fun z => absurd rfl z) (fun z => z.elim)⟩
                  · rw [mz_wI_at, if_neg (by omega), mz_wI_at, if_pos ⟨rfl, rfl⟩]
                  · rw [mz_wI_at, if_pos ⟨rfl, rfl⟩]; rfl
                · have := mo_ah_lt' hj
                  refine (kG j F' hj).kept ?_ ?_ (fun _ _ => rfl) (fun _ _ => rfl)
                  · rw [mz_wI_at, if_neg (by omega), mz_wI_at, if_neg (by omega), mz_wI_at, if_neg (by omega)]
                  · rw [mz_wI_at, if_neg (by omega), mz_wI_at, if_neg (by omega), mz_wI_at, if_neg (by omega)]
              · omega
  refine es_I.mk (w_Mo_works_0 0 μ ?_)
  have hB : es_V (d + 6) n_Mo_begins [mz_R 16 0] (mz_wI (mz_wI μ 0 11 0) 0 20 0) (fun μ' => μ' = mz_wI (mz_wI (mz_wI (mz_wI μ 0 11 0) 0 20 0) 9 0 0) 10 0 0) := by
    refine es_V.mk (w_Mo_begins_0 0 _ ?_)
    have e1 : (mz_wI (mz_wI μ 0 11 0) 0 20 0).1 0 20 = nI 0 := by rw [mz_wI_at, if_pos ⟨rfl, rfl⟩]; rfl
    rw [e1, es_clamp (by omega)]
    have e2 : (mz_wI (mz_wI (mz_wI μ 0 11 0) 0 20 0) 9 0 0).1 0 20 = nI 0 := by rw [mz_wI_at, if_neg (by omega)]; exact e1
    rw [e2, es_clamp (by omega)]
    exact ⟨es_v7 (by omega), es_v7 (by omega), es_rV rfl⟩
  obtain ⟨μ4, hC4, rfl⟩ := hB
  refine ⟨_, hC4, (key (T.length + 1) (T.length + 1) (Nat.le_refl _)).1 0 _ tx_0 [] ts ?_ ?_ (Nat.zero_le _) ?_ hts hR.symm⟩
  · exact (((mo_f.rf.wI (X := mo_X) (Or.inl ⟨rfl, by omega⟩)).wI (Or.inl ⟨rfl, by omega⟩)).wI (Or.inr (Or.inl rfl))).wI (Or.inr (Or.inr rfl))
  · have hff : mo_f (fun q k => (q = 0 ∧ (k = 11 ∨ k = 20)) ∨ q = 9 ∨ q = 10) mo_N μ (mz_wI (mz_wI (mz_wI (mz_wI μ 0 11 0) 0 20 0) 9 0 0) 10 0 0) := (((mo_f.rf.wI (X := fun q k => (q = 0 ∧ (k = 11 ∨ k = 20)) ∨ q = 9 ∨ q = 10) (Or.inl ⟨rfl, Or.inl rfl⟩)).wI (Or.inl ⟨rfl, Or.inr rfl⟩)).wI (Or.inr (Or.inl rfl))).wI (Or.inr (Or.inr rfl))
    refine ⟨h.kept hff (by omega) (fun k => by omega), ?_⟩
    rw [mz_wI_at, if_neg (by omega), mz_wI_at, if_neg (by omega), mz_wI_at, if_neg (by omega), mz_wI_at, if_pos ⟨rfl, rfl⟩]; rfl
  · refine ⟨⟨Nat.zero_le _, ?_⟩, ⟨?_, ?_, by decide, by decide, fun z => absurd rfl z, fun z => z.elim (fun z => absurd rfl z) (fun z => z.elim)⟩, fun j F' hj => ?_⟩
    · show _ = nI 0
      rw [mz_wI_at, if_neg (by omega), mz_wI_at, if_neg (by omega), mz_wI_at, if_pos ⟨rfl, rfl⟩]; rfl
    · show (mz_wI (mz_wI (mz_wI (mz_wI μ 0 11 0) 0 20 0) 9 0 0) 10 0 0).1 9 0 = nI 0
      rw [mz_wI_at, if_neg (by omega), mz_wI_at, if_pos ⟨rfl, rfl⟩]; rfl
    · show (mz_wI (mz_wI (mz_wI (mz_wI μ 0 11 0) 0 20 0) 9 0 0) 10 0 0).1 10 0 = nI 0
      rw [mz_wI_at, if_pos ⟨rfl, rfl⟩]; rfl
    · cases hj
