/-! The reference works a text out: values. -/
theorem mo_ah_lt' {α : Type} {U : List α} {j : Nat} {S : α} (h : U[j]? = some S) : j < U.length := by
  by_cases e : j < U.length
  · exact e
  · rw [List.getElem?_eq_none (by omega)] at h; cases h
theorem tx_kd0 {n k : Nat} (hk : k < n) (h0 : ¬ k = 0) : (es_kd 0 0 n).getD k 0 = 0 := by
  unfold es_kd
  rw [es_ls_at _ hk, es_bp0]
  simp [es_pt]
  omega
theorem tx_num_ok {n v : Nat} (hv : v ≤ 99) (hn : n ≤ 40) : es_ok (es_ls n (fun k => if k = 0 then (v : Int) else 0)) := by
  refine ⟨by rw [es_ls_len]; exact hn, fun k hk => ?_⟩
  rw [es_ls_len] at hk
  rw [es_ls_at _ hk]
  by_cases e : k = 0
  · rw [if_pos e]; omega
  · rw [if_neg e]; omega
theorem mo_jn.part {μ μ' : mz_M} {n : Nat} {F : tx_F} {G : List tx_F} {l2 : List Int} {r : Int32} (hw : mo_wk μ n F G False) (h : mo_jn μ 8 G.length F.2.2 n (.inr l2) r μ') : mo_wk μ' n (F.1, (l2, F.2.2)) G True := by
  obtain ⟨-, hf, hl, ok, hn, h8⟩ := h
  obtain ⟨⟨a, b⟩, ⟨f1, f2, f3, f4, f5, f6⟩, c⟩ := hw
  have h40 := ok.1
  have e9 : ∀ k, μ'.1 9 k = μ.1 9 k := fun k => hf.1 9 k (by unfold mo_x3; omega)
  have e10 : ∀ k, μ'.1 10 k = μ.1 10 k := fun k => hf.1 10 k (by unfold mo_x3; omega)
  have e7 : μ'.2 7 = μ.2 7 := hf.2 7 (by unfold mo_yp mo_y3; omega)
  refine ⟨⟨a, (hf.1 0 20 (by unfold mo_x3; omega)).trans b⟩, ⟨(e9 _).trans f1, (e10 _).trans f2, f3, f4, fun z => (f5 z).kept (fun k _ => by rw [e7]), fun _ => ⟨ok, hn, fun k hk => ?_⟩⟩, fun j F' hj => ?_⟩
  · rw [h8, if_pos (by omega), show 40 * G.length + k - 40 * G.length = k by omega]
    exact hl.2.2 k (by omega)
  · have : j < G.length := mo_ah_lt' hj
    exact (c j F' hj).kept (e9 _) (e10 _) (fun k _ => by rw [e7]) (fun k hk => by rw [h8, if_neg (by omega)])
theorem mo_jn.sum {μ μ' : mz_M} {n : Nat} {F : tx_F} {G : List tx_F} {s : List Int} {r : Int32} (hw : mo_wk μ n F G True) (h : mo_jn μ 7 G.length F.1.2 n (.inr s) r μ') : mo_lst μ' 7 G.length n s ∧ ∀ j F', G[j]? = some F' → mo_fr μ' n (G.length - 1 - j) F' False := by
  obtain ⟨-, hf, hl, ok, hn, h7⟩ := h
  obtain ⟨⟨a, b⟩, -, c⟩ := hw
  have h40 := ok.1
  have e8 : μ'.2 8 = μ.2 8 := hf.2 8 (by unfold mo_yp mo_y3; omega)
  refine ⟨⟨ok, hn, fun k hk => ?_⟩, fun j F' hj => ?_⟩
  · rw [h7, if_pos (by omega), show 40 * G.length + k - 40 * G.length = k by omega]
    exact hl.2.2 k (by omega)
  · have : j < G.length := mo_ah_lt' hj
    exact (c j F' hj).kept (hf.1 9 _ (by unfold mo_x3; omega)) (hf.1 10 _ (by unfold mo_x3; omega)) (fun k hk => by rw [h7, if_neg (by omega)]) (fun k _ => by rw [e8])
theorem mo_yp_Y {p : Nat} (hp : p = 7 ∨ p = 8) : ∀ q, mo_yp p q → mo_Y q := fun q h => by unfold mo_yp mo_y3 at h; unfold mo_Y; omega
def mo_out (μ0 : mz_M) (T : List Nat) (p n : Nat) (F : tx_F) (G : List tx_F) (R : tx_R) (r : Int32) (μ' : mz_M) : Prop := match R with
  | .inl w => mo_brk μ0 w.1 w.2.1 w.2.2 r μ'
  | .inr l2 => r = 0 ∧ mo_f mo_X mo_Y μ0 μ' ∧ mo_pl μ' T p ∧ mo_wk μ' n (F.1, (l2, F.2.2)) G True
theorem mo_out.base {μ0 μ1 μ' : mz_M} {T : List Nat} {p n : Nat} {F : tx_F} {G : List tx_F} {R : tx_R} {r : Int32} (hf : mo_f mo_X mo_Y μ0 μ1) (h : mo_out μ1 T p n F G R r μ') : mo_out μ0 T p n F G R r μ' := by
  cases R with
  | inl w => exact mo_brk.base hf h
  | inr l2 => exact ⟨h.1, hf.tr h.2.1, h.2.2⟩
theorem mo_pl.kept {X : Nat → Nat → Prop} {Y : Nat → Prop} {μ μ' : mz_M} {T : List Nat} {p : Nat} (h : mo_pl μ T p) (hf : mo_f X Y μ μ') (h1 : ¬ X 0 10) (h2 : ∀ k, ¬ X 6 k) (h3 : ¬ X 0 11) : mo_pl μ' T p := ⟨h.1.kept hf h1 h2, (hf.1 0 11 h3).trans h.2⟩
/-- a value comes to its part -/
theorem r_value (d : Nat) {μ0 μ : mz_M} {T : List Nat} {p n : Nat} {F : tx_F} {G : List tx_F} {l : List Int} (hf : mo_f mo_X mo_Y μ0 μ) (hpl : mo_pl μ T p) (hw : mo_wk μ n F G False) (hl : mo_ls μ 4 6 l) (ok : es_ok l) (hn : l.length = n) (hn1 : 1 ≤ n) (hN : μ.1 1 0 = nI n) : ∃ (r : Int32) (μ' : mz_M), es_R (d + 4) n_Mo_joinsPart [mz_R 16 0] μ (some (mz_I r)) μ' ∧ es_qI (mo_out μ0 T p n F G (tx_or (tx_jp F l) G.length F.2.2 .inr)) (some (mz_I r)) μ' := by
  obtain ⟨r, μ', hC, hj⟩ := r_joinsPart d hw hl ok hn hn1 hN
  refine ⟨r, μ', hC, es_rI ?_⟩
  cases ho : tx_jp F l with
  | inl c =>
    rw [ho] at hj
    exact mo_brk.base hf hj
  | inr l2 =>
    rw [ho] at hj
    have hwk := mo_jn.part hw hj
    obtain ⟨rfl, hf2, -⟩ := hj
    exact ⟨rfl, hf.tr (hf2.mono mo_x3_X (mo_yp_Y (Or.inr rfl))), hpl.kept hf2 (by unfold mo_x3; omega) (fun k => by unfold mo_x3; omega) (by unfold mo_x3; omega), hwk⟩
def mo_va (μ0 : mz_M) (T : List Nat) (p n : Nat) (F : tx_F) (G : List tx_F) (l : List Int) (r : Int32) (μ' : mz_M) : Prop :=
  (T.getD (tx_sk T p) 0 = 94 ∧ mo_out μ0 T (tx_sk T (tx_sk T p + 1) + 1) n F G (tx_or (tx_pw l (T.getD (tx_sk T (tx_sk T p + 1)) 0 - 48)) G.length 94 (fun l => tx_or (tx_jp F l) G.length F.2.2 .inr)) r μ') ∨ (¬ T.getD (tx_sk T p) 0 = 94 ∧ mo_out μ0 T (tx_sk T p) n F G (tx_or (tx_jp F l) G.length F.2.2 .inr) r μ')
theorem mo_va.base {μ0 μ1 μ' : mz_M} {T : List Nat} {p n : Nat} {F : tx_F} {G : List tx_F} {l : List Int} {r : Int32} (hf : mo_f mo_X mo_Y μ0 μ1) (h : mo_va μ1 T p n F G l r μ') : mo_va μ0 T p n F G l r μ' := by
  rcases h with ⟨a, b⟩ | ⟨a, b⟩
  · exact Or.inl ⟨a, b.base hf⟩
  · exact Or.inr ⟨a, b.base hf⟩
theorem mo_x11_X : ∀ q k, mo_x1 11 q k → mo_X q k := fun q k h => by unfold mo_x1 at h; unfold mo_X; omega
theorem mo_N_Y : ∀ q, mo_N q → mo_Y q := fun q h => absurd h id
theorem r_joinsAtom (d : Nat) {μ : mz_M} {T : List Nat} {p n : Nat} {F : tx_F} {G : List tx_F} {l : List Int} (hpl : mo_pl μ T p) (hp : p ≤ T.length) (hw : mo_wk μ n F G False) (hl : mo_ls μ 4 6 l) (ok : es_ok l) (hn : l.length = n) (hn1 : 1 ≤ n) (hN : μ.1 1 0 = nI n) (h94 : T.getD (tx_sk T p) 0 = 94 → 48 ≤ T.getD (tx_sk T (tx_sk T p + 1)) 0 ∧ T.getD (tx_sk T (tx_sk T p + 1)) 0 ≤ 56) : es_I (d + 5) n_Mo_joinsAtom [mz_R 16 0] μ (mo_va μ T p n F G l) := by
  have hne : l ≠ [] := fun z => by rw [z] at hn; simp only [List.length_nil] at hn; omega
  obtain ⟨r, μ1, hC1, hf1, hh⟩ := r_has (d + 2) (c := 94) (by omega) hpl hp
  have s0 := tx_sk_len hp
  have hf1X := hf1.mono mo_x11_X mo_N_Y
  have kw : mo_wk μ1 n F G False := hw.kept hf1 (by unfold mo_x1; omega) (fun k => by unfold mo_x1; omega) (fun k => by unfold mo_x1; omega) (by unfold mo_N; exact id) (by unfold mo_N; exact id)
  have kl : mo_ls μ1 4 6 l := hl.kept hf1 (by unfold mo_x1; omega) (by unfold mo_N; exact id)
  have kN : μ1.1 1 0 = nI n := by rw [hf1.1 1 0 (by unfold mo_x1; omega)]; exact hN
  refine es_I.mk (w_Mo_joinsAtom_0 0 μ ⟨_, _, hC1, ?_⟩)
  rcases hh with ⟨e, rfl, hl1⟩ | ⟨e, rfl, hl1⟩
  · refine es_f (by decide +kernel) ?_
    have lt := tx_lt e (by decide)
    have hv := h94 e
    obtain ⟨r2, μ2, hC2, hf2, rfl, hl2⟩ := r_here (d + 3) hl1 (by omega)
    refine ⟨_, _, hC2, ?_⟩
    have post : ∀ r μ', mo_out μ T (tx_sk T (tx_sk T p + 1) + 1) n F G (tx_or (tx_pw l (T.getD (tx_sk T (tx_sk T p + 1)) 0 - 48)) G.length 94 (fun l => tx_or (tx_jp F l) G.length F.2.2 .inr)) r μ' → mo_va μ T p n F G l r μ' := fun r μ' z => Or.inl ⟨e, z⟩
    generalize tx_sk T (tx_sk T p + 1) = p1 at *
    rw [hl2.2, nI_1, show (48 : Int32) = nI 48 from rfl, pk_sub hv.1]
    have hl3 := hl2.set (p1 + 1)
    have hf3 : mo_f (mo_x1 11) mo_N μ1 (mz_wI μ2 0 11 (nI (p1 + 1))) := hf2.wI ⟨rfl, rfl⟩
    have kl3 : mo_ls (mz_wI μ2 0 11 (nI (p1 + 1))) 4 6 l := kl.kept hf3 (by unfold mo_x1; omega) (by unfold mo_N; exact id)
    have kw3 : mo_wk (mz_wI μ2 0 11 (nI (p1 + 1))) n F G False := kw.kept hf3 (by unfold mo_x1; omega) (fun k => by unfold mo_x1; omega) (fun k => by unfold mo_x1; omega) (by unfold mo_N; exact id) (by unfold mo_N; exact id)
    have kN3 : (mz_wI μ2 0 11 (nI (p1 + 1))).1 1 0 = nI n := by rw [hf3.1 1 0 (by unfold mo_x1; omega)]; exact kN
    have hf3X : mo_f mo_X mo_Y μ (mz_wI μ2 0 11 (nI (p1 + 1))) := hf1X.tr (hf3.mono mo_x11_X mo_N_Y)
    generalize mz_wI μ2 0 11 (nI (p1 + 1)) = μ3 at *
    obtain ⟨r4, μ4, hC4, hf4, hm⟩ := r_powers d (v := T.getD p1 0 - 48) kl3 ok hne (by omega)
    have hf4X : mo_f mo_X mo_Y μ μ4 := hf3X.tr (hf4.mono mo_x3_X mo_y3_Y)
    refine ⟨_, _, hC4, ?_⟩
    cases ho : tx_pw l (T.getD p1 0 - 48) with
    | inl c =>
      rw [ho] at hm post
      obtain ⟨rfl, hc⟩ := hm
      refine es_f (fun z => by have := es_hle z; rw [es_i0] at this; omega) ?_
      obtain ⟨r8, μ7, hC, hb⟩ := r_broke (d + 3) (lv := G.length) (ch := 94) hf4X (by rw [hf4.1 0 20 (by unfold mo_x3; omega)]; exact kw3.1.2) hc
      exact ⟨_, _, hC, es_rI (post _ _ hb)⟩
    | inr l2 =>
      rw [ho] at hm post
      obtain ⟨rfl, hm⟩ := hm
      have k2 := tx_pw_ok ok ho
      refine es_t (by decide +kernel) ?_
      obtain ⟨r9, μ9, hC9, ⟨x, ex, hx⟩⟩ := r_value d hf4X (hl3.kept hf4 (by unfold mo_x3; omega) (fun k => by unfold mo_x3; omega) (by unfold mo_x3; omega)) (kw3.kept hf4 (by unfold mo_x3; omega) (fun k => by unfold mo_x3; omega) (fun k => by unfold mo_x3; omega) (by unfold mo_y3; omega) (by unfold mo_y3; omega)) hm k2.1 (by rw [k2.2, hn]) hn1 (by rw [hf4.1 1 0 (by unfold mo_x3; omega)]; exact kN3)
      cases ex
      exact ⟨_, _, hC9, es_rI (post _ _ hx)⟩
  · refine es_t rfl ?_
    obtain ⟨r9, μ9, hC9, ⟨x, ex, hx⟩⟩ := r_value d hf1X hl1 kw kl ok hn hn1 kN
    cases ex
    exact ⟨_, _, hC9, es_rI (Or.inr ⟨e, hx⟩)⟩
theorem mo_xt_X : ∀ q k, mo_xt q k → mo_X q k := fun q k h => by unfold mo_xt at h; unfold mo_X; omega
theorem r_makesAtom (d : Nat) {μ : mz_M} {T : List Nat} {p p' o n : Nat} {t : Nat × Nat} {F : tx_F} {G : List tx_F} (hpl : mo_pl μ T p) (hp : p ≤ T.length) (hc : T.getD (tx_sk T p) 0 ≠ 40) (hN : tx_due T o (tx_sk T p) = .inr ((2, o, p'), t)) (hp' : p' ≤ T.length) (hw : mo_wk μ n F G False) (hn1 : 1 ≤ n) (hn40 : n ≤ 40) (hnow : μ.1 1 0 = nI n) (h94 : T.getD (tx_sk T p') 0 = 94 → 48 ≤ T.getD (tx_sk T (tx_sk T p' + 1)) 0 ∧ T.getD (tx_sk T (tx_sk T p' + 1)) 0 ≤ 56) : es_I (d + 6) n_Mo_makesAtom [mz_R 16 0] μ (mo_va μ T p' n F G (tx_at n t)) := by
  have rA := r_readsAtom (d + 2) (o := o) hpl hp hc
  rw [hN] at rA
  obtain ⟨-, -, hat⟩ := tx_due_2 hc hN
  obtain ⟨r, μ1, hC1, hf1, rfl, hl1, e14, e15⟩ := rA
  dsimp only at hl1 e14 e15
  have hf1X := hf1.mono mo_xt_X mo_N_Y
  have kw : mo_wk μ1 n F G False := hw.kept hf1 (by unfold mo_xt; omega) (fun k => by unfold mo_xt; omega) (fun k => by unfold mo_xt; omega) (by unfold mo_N; exact id) (by unfold mo_N; exact id)
  have kN : μ1.1 1 0 = nI n := by rw [hf1.1 1 0 (by unfold mo_xt; omega)]; exact hnow
  refine es_I.mk (w_Mo_makesAtom_0 0 μ ⟨_, _, hC1, es_f (by decide +kernel) ?_⟩)
  rw [es_0c, kN, e14]
  obtain ⟨c, v⟩ := t
  dsimp only at e14 e15 ⊢
  have post : ∀ (μ3 : mz_M), mo_f (mo_x1 6) (mo_y1 4) μ1 μ3 → mo_ls μ3 4 6 (tx_at n (c, v)) → es_ok (tx_at n (c, v)) → (tx_at n (c, v)).length = n → ∃ (r5 : Int32) (μ4 : mz_M), es_R (d + 5) n_Mo_joinsAtom [mz_R 16 0] μ3 (some (mz_I r5)) μ4 ∧ es_qI (mo_va μ T p' n F G (tx_at n (c, v))) (some (mz_I r5)) μ4 := by
    intro μ3 hf3 hl3 ok3 hn3
    obtain ⟨r5, μ4, hC4, hv⟩ := r_joinsAtom d (μ := μ3) (hl1.kept hf3 (by unfold mo_x1; omega) (fun k => by unfold mo_x1; omega) (by unfold mo_x1; omega)) hp' (kw.kept hf3 (by unfold mo_x1; omega) (fun k => by unfold mo_x1; omega) (fun k => by unfold mo_x1; omega) (by unfold mo_y1; omega) (by unfold mo_y1; omega)) hl3 ok3 hn3 hn1 (by rw [hf3.1 1 0 (by unfold mo_x1; omega)]; exact kN) h94
    exact ⟨_, _, hC4, es_rI (hv.base (hf1X.tr (hf3.mono (mo_x1_X (by omega)) (mo_y1_Y (by omega)))))⟩
  have v40 : vp_in 0 40 := show vp_in (nI 0) 40 from vp_in_nI (by omega) (by omega)
  have v166 : vp_in 0 166 := es_v166 (n := 0) (by omega)
  by_cases e : c = 48
  · subst e
    have hv99 : v ≤ 99 := by
      rcases hat with ⟨-, z⟩ | ⟨z, -⟩
      · exact z
      · exact absurd (show tx_fam 48 = true from z) (by decide)
    rw [if_pos rfl] at e14 ⊢
    refine es_t (by decide +kernel) ⟨v166, ?_⟩
    obtain ⟨μ3, hC3, hf3, hm3⟩ := r_makes (d + 3) (kind := 0) (d := 0) (Or.inl ⟨rfl, rfl⟩) hn1 hn40 μ1
    refine ⟨_, hC3, es_t (by rw [hf3.1 0 14 (by unfold mo_x1; omega)]; exact e14) ⟨v40, ?_⟩⟩
    rw [hf3.1 0 15 (by unfold mo_x1; omega), e15]
    have kd := es_kd_ok (kind := 0) (d := 0) hn40
    have hat2 : tx_at n (48, v) = es_ls n (fun k => if k = 0 then (v : Int) else 0) := by unfold tx_at; rw [if_pos rfl]
    have hlen : (tx_at n (48, v)).length = n := by rw [hat2]; exact es_ls_len _ _
    refine post _ (hf3.wL rfl) ⟨by rw [hlen]; exact hn40, ?_, fun k hk => ?_⟩ ?_ hlen
    · rw [hlen]
      show μ3.1 0 6 = nI n
      rw [hm3.2.1, kd.2]
    · rw [hlen] at hk
      rw [mz_wL_at, hat2, es_ls_at _ hk]
      by_cases e0 : k = 0
      · rw [if_pos ⟨rfl, e0⟩, if_pos e0, es_i2l, nI_toInt (by omega)]
      · rw [if_neg (fun z => e0 z.2), if_neg e0, hm3.2.2 k (by rw [kd.2]; exact hk)]
        exact tx_kd0 hk e0
    · rw [hat2]
      exact tx_num_ok hv99 hn40
  · have hfam : tx_fam c = true ∧ tx_kok (tx_kd c) v = true := by
      rcases hat with ⟨z, -⟩ | z
      · exact absurd z e
      · exact z
    rw [if_neg e] at e14 ⊢
    have k4 := tx_kd_i c
    have kk := of_decide_eq_true hfam.2
    refine es_f (fun z => ?_) ⟨v166, ?_⟩
    · have := (nI_leI (b := 0) (by omega) (by omega)).mp z
      omega
    · rw [e15]
      obtain ⟨μ3, hC3, hf3, hm3⟩ := r_makes (d + 3) (kind := tx_kd c) (d := v) (by unfold mo_kok; omega) hn1 hn40 μ1
      refine ⟨_, hC3, es_f (fun z => ?_) ⟨v40, v40, ?_⟩⟩
      · rw [hf3.1 0 14 (by unfold mo_x1; omega), e14] at z
        exact absurd ((nI_eq (b := 0) (by omega) (by omega)).mp z) (by omega)
      · have kd := es_kd_ok (kind := tx_kd c) (d := v) hn40
        have hat2 : tx_at n (c, v) = es_kd (tx_kd c) v n := by unfold tx_at; rw [if_neg e]
        rw [hat2] at post ⊢
        refine post _ (hf3.wL rfl) ⟨hm3.1, hm3.2.1, fun k hk => ?_⟩ kd.1 kd.2
        rw [mz_wL_at]
        by_cases e0 : k = 0
        · rw [if_pos ⟨rfl, e0⟩, e0]
          exact hm3.2.2 0 (by omega)
        · rw [if_neg (fun z => e0 z.2)]
          exact hm3.2.2 k hk
