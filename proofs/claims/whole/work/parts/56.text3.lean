/-! The reference works a text out: what its levels hold. -/
def mo_lst (μ : mz_M) (p lv n : Nat) (l : List Int) : Prop := es_ok l ∧ l.length = n ∧ ∀ k, k < n → (μ.2 p (40 * lv + k)).toInt = l.getD k 0
theorem mo_lst.kept {μ μ' : mz_M} {p lv n : Nat} {l : List Int} (h : mo_lst μ p lv n l) (hk : ∀ k, k < 40 → μ'.2 p (40 * lv + k) = μ.2 p (40 * lv + k)) : mo_lst μ' p lv n l := by
  obtain ⟨a, b, c⟩ := h
  have := a.1
  exact ⟨a, b, fun k hk2 => by rw [hk k (by omega)]; exact c k hk2⟩
def mo_fr (μ : mz_M) (n lv : Nat) (F : tx_F) (pm : Prop) : Prop := μ.1 9 lv = nI F.1.2 ∧ μ.1 10 lv = nI F.2.2 ∧ F.1.2 < 1000 ∧ F.2.2 < 1000 ∧ (F.1.2 ≠ 0 → mo_lst μ 7 lv n F.1.1) ∧ (F.2.2 ≠ 0 ∨ pm → mo_lst μ 8 lv n F.2.1)
theorem mo_fr.kept {μ μ' : mz_M} {n lv : Nat} {F : tx_F} {pm : Prop} (h : mo_fr μ n lv F pm) (h9 : μ'.1 9 lv = μ.1 9 lv) (h10 : μ'.1 10 lv = μ.1 10 lv) (h7 : ∀ k, k < 40 → μ'.2 7 (40 * lv + k) = μ.2 7 (40 * lv + k)) (h8 : ∀ k, k < 40 → μ'.2 8 (40 * lv + k) = μ.2 8 (40 * lv + k)) : mo_fr μ' n lv F pm := by
  obtain ⟨a, b, c, e, f, g⟩ := h
  exact ⟨h9.trans a, h10.trans b, c, e, fun z => (f z).kept h7, fun z => (g z).kept h8⟩
def mo_wk (μ : mz_M) (n : Nat) (F : tx_F) (G : List tx_F) (pm : Prop) : Prop := (G.length ≤ 6 ∧ μ.1 0 20 = nI G.length) ∧ mo_fr μ n G.length F pm ∧ ∀ j F', G[j]? = some F' → mo_fr μ n (G.length - 1 - j) F' False
theorem mo_wk.kept {X : Nat → Nat → Prop} {Y : Nat → Prop} {μ μ' : mz_M} {n : Nat} {F : tx_F} {G : List tx_F} {pm : Prop} (h : mo_wk μ n F G pm) (hf : mo_f X Y μ μ') (x1 : ¬ X 0 20) (x2 : ∀ k, ¬ X 9 k) (x3 : ∀ k, ¬ X 10 k) (y1 : ¬ Y 7) (y2 : ¬ Y 8) : mo_wk μ' n F G pm := by
  obtain ⟨⟨a, b⟩, c, e⟩ := h
  have k : ∀ lv F2 pm2, mo_fr μ n lv F2 pm2 → mo_fr μ' n lv F2 pm2 := fun lv F2 pm2 z => z.kept (hf.1 9 lv (x2 lv)) (hf.1 10 lv (x3 lv)) (fun k _ => by rw [hf.2 7 y1]) (fun k _ => by rw [hf.2 8 y2])
  exact ⟨⟨a, (hf.1 0 20 x1).trans b⟩, k _ _ _ c, fun j F' hj => k _ _ _ (e j F' hj)⟩
def mo_XB : Nat → Nat → Prop := fun q k => mo_X q k ∨ (q = 0 ∧ (k = 12 ∨ k = 13))
theorem mo_X_B : ∀ q k, mo_X q k → mo_XB q k := fun q k h => Or.inl h
def mo_brk (μ0 : mz_M) (c : Int32) (lv ch : Nat) (r : Int32) (μ' : mz_M) : Prop := mo_f mo_XB mo_Y μ0 μ' ∧ r = c ∧ c.toInt < 0 ∧ μ'.1 0 12 = nI lv ∧ μ'.1 0 13 = nI ch
theorem mo_brk.base {μ0 μ1 μ' : mz_M} {c r : Int32} {lv ch : Nat} (hf : mo_f mo_X mo_Y μ0 μ1) (h : mo_brk μ1 c lv ch r μ') : mo_brk μ0 c lv ch r μ' := ⟨(hf.mono mo_X_B (fun _ z => z)).tr h.1, h.2⟩
theorem r_broke (d : Nat) {μ0 μ : mz_M} {c : Int32} {lv ch : Nat} (hf : mo_f mo_X mo_Y μ0 μ) (h20 : μ.1 0 20 = nI lv) (hc : c.toInt < 0) : es_I (d + 1) n_Mo_broke [mz_R 16 0, mz_I c, mz_I (nI ch)] μ (mo_brk μ0 c lv ch) := by
  refine es_I.mk (w_Mo_broke_0 0 c _ μ (es_rI ⟨((hf.mono mo_X_B (fun _ z => z)).wI (Or.inr ⟨rfl, Or.inl rfl⟩)).wI (Or.inr ⟨rfl, Or.inr rfl⟩), rfl, hc, ?_, ?_⟩))
  · rw [mz_wI_at, if_neg (by omega), mz_wI_at, if_pos ⟨rfl, rfl⟩]; exact h20
  · rw [mz_wI_at, if_pos ⟨rfl, rfl⟩]
theorem r_lays (d : Nat) {p lv : Nat} {μ : mz_M} {l : List Int} (hp : p = 7 ∨ p = 8) (hlv : lv ≤ 6) (h20 : μ.1 0 20 = nI lv) (h : mo_ls μ 4 6 l) : es_V (d + 1) n_Mo_lays [mz_R 16 0, mz_R 21 p] μ (fun μ' => μ'.1 = μ.1 ∧ (∀ q, q ≠ p → μ'.2 q = μ.2 q) ∧ ∀ j, μ'.2 p j = if 40 * lv ≤ j ∧ j < 40 * lv + l.length then μ.2 4 (j - 40 * lv) else μ.2 p j) := by
  obtain ⟨l1, l2, l3⟩ := h
  refine es_V.mk (w_Mo_lays_0 0 p μ ?_)
  have key : ∀ (g k : Nat) (μ' : mz_M), k + g = l.length → μ'.1 = μ.1 → (∀ q, q ≠ p → μ'.2 q = μ.2 q) → (∀ j, μ'.2 p j = if 40 * lv ≤ j ∧ j < 40 * lv + k then μ.2 4 (j - 40 * lv) else μ.2 p j) → v_Mo_lays (es_R d) (es_qV (fun μ' => μ'.1 = μ.1 ∧ (∀ q, q ≠ p → μ'.2 q = μ.2 q) ∧ ∀ j, μ'.2 p j = if 40 * lv ≤ j ∧ j < 40 * lv + l.length then μ.2 4 (j - 40 * lv) else μ.2 p j)) (2, [(0, mz_R 16 0), (1, mz_R 21 p), (2, mz_I (nI k))], [], μ') := by
    intro g
    induction g with
    | zero =>
      intro k μ' hk h1 h2 h3
      have hk : k = l.length := by omega
      subst hk
      exact w_Mo_lays_2 0 p _ μ' (es_t (by rw [h1, l2]; exact nI_le (by omega) (by omega)) (es_rV ⟨h1, h2, h3⟩))
    | succ g ih =>
      intro k μ' hk h1 h2 h3
      refine w_Mo_lays_2 0 p _ μ' (es_f (by rw [h1, l2]; exact nI_ge (by omega) (by omega)) ?_)
      rw [h1, h20, show (40 : Int32) = nI 40 from rfl, pk_mul, nI_add, es_clamp (show 40 * lv + k < 2147483648 by omega), es_clamp (show k < 2147483648 by omega), nI_1]
      refine ⟨vp_in_nI (by omega) (by omega), vp_in_nI (by omega) (by omega), ih (k + 1) _ (by omega) h1 (fun q hq => ?_) (fun j => ?_)⟩
      · funext j
        rw [mz_wL_at, if_neg (fun z => hq z.1), h2 q hq]
      · rw [mz_wL_at, h3]
        by_cases e : j = 40 * lv + k
        · rw [if_pos ⟨rfl, e⟩, if_pos (by omega), h2 4 (by omega), show j - 40 * lv = k by omega]
        · rw [if_neg (fun z => e z.2)]
          by_cases e2 : 40 * lv ≤ j ∧ j < 40 * lv + k
          · rw [if_pos e2, if_pos (by omega)]
          · rw [if_neg e2, if_neg (by omega)]
  exact key _ 0 μ (Nat.zero_add _) rfl (fun _ _ => rfl) (fun j => by rw [if_neg (by omega)])
theorem r_takesFrom (d : Nat) {p lv n : Nat} {μ : mz_M} {l : List Int} (hp : p = 7 ∨ p = 8) (hlv : lv ≤ 6) (h20 : μ.1 0 20 = nI lv) (hN : μ.1 1 0 = nI n) (h : mo_lst μ p lv n l) : es_V (d + 1) n_Mo_takesFrom [mz_R 16 0, mz_R 21 p] μ (fun μ' => mo_f (mo_x1 2) (mo_y1 2) μ μ' ∧ mo_ls μ' 2 2 l) := by
  obtain ⟨l1, l2, l3⟩ := h
  have h40 := l1.1
  refine es_V.mk (w_Mo_takesFrom_0 0 p μ ⟨es_v166 (n := 0) (by omega), ?_⟩)
  rw [es_0c, hN]
  have key : ∀ (g k : Nat) (μ' : mz_M), k + g = n → mo_f (mo_x1 2) (mo_y1 2) μ μ' → μ'.1 0 2 = nI n → (∀ j, j < k → (μ'.2 2 j).toInt = l.getD j 0) → v_Mo_takesFrom (es_R d) (es_qV (fun μ' => mo_f (mo_x1 2) (mo_y1 2) μ μ' ∧ mo_ls μ' 2 2 l)) (12, [(0, mz_R 16 0), (1, mz_R 21 p), (2, mz_I (nI k))], [], μ') := by
    intro g
    induction g with
    | zero =>
      intro k μ' hk hf h2 hc
      exact w_Mo_takesFrom_12 0 p _ μ' (es_t (by rw [h2]; exact nI_le (by omega) (by omega)) (es_rV ⟨hf, h40, by rw [h2, l2], fun j hj => hc j (by omega)⟩))
    | succ g ih =>
      intro k μ' hk hf h2 hc
      refine w_Mo_takesFrom_12 0 p _ μ' (es_f (by rw [h2]; exact nI_ge (by omega) (by omega)) ?_)
      rw [hf.1 0 20 (by unfold mo_x1; omega), h20, show (40 : Int32) = nI 40 from rfl, pk_mul, nI_add, es_clamp (show 40 * lv + k < 2147483648 by omega), es_clamp (show k < 2147483648 by omega), nI_1]
      refine ⟨vp_in_nI (by omega) (by omega), vp_in_nI (by omega) (by omega), ih (k + 1) _ (by omega) (hf.wL rfl) h2 (fun j hj => ?_)⟩
      rw [mz_wL_at]
      by_cases e : j = k
      · rw [if_pos ⟨rfl, e⟩, hf.2 p (by unfold mo_y1; omega), e]
        exact l3 k (by omega)
      · rw [if_neg (fun z => e z.2)]
        exact hc j (by omega)
  exact key n 0 _ (Nat.zero_add _) (mo_f.rf.wI (X := mo_x1 2) ⟨rfl, rfl⟩) (by rw [mz_wI_at, if_pos ⟨rfl, rfl⟩]) (fun j hj => absurd hj (Nat.not_lt_zero j))
/-- two lists joined at a level -/
def mo_yp (p : Nat) : Nat → Prop := fun q => mo_y3 q ∨ q = p
def mo_jn (μ0 : mz_M) (p lv ch n : Nat) (o : es_RL) (r : Int32) (μ' : mz_M) : Prop := match o with
  | .inl c => mo_brk μ0 c lv ch r μ'
  | .inr l => r = 0 ∧ mo_f mo_x3 (mo_yp p) μ0 μ' ∧ mo_ls μ' 4 6 l ∧ es_ok l ∧ l.length = n ∧ ∀ j, μ'.2 p j = if 40 * lv ≤ j ∧ j < 40 * lv + n then μ'.2 4 (j - 40 * lv) else μ0.2 p j
theorem r_laid (d : Nat) {p lv ch n : Nat} {μ0 μ : mz_M} {l : List Int} (hp : p = 7 ∨ p = 8) (hlv : lv ≤ 6) (hf : mo_f mo_x3 mo_y3 μ0 μ) (h20 : μ0.1 0 20 = nI lv) (h : mo_ls μ 4 6 l) (ok : es_ok l) (hn : l.length = n) : ∃ μ6, es_R (d + 1) n_Mo_lays [mz_R 16 0, mz_R 21 p] μ none μ6 ∧ es_qI (mo_jn μ0 p lv ch n (.inr l)) (some (mz_I 0)) μ6 := by
  obtain ⟨μ6, hC, a, b, c⟩ := r_lays d hp hlv (by rw [hf.1 0 20 (by unfold mo_x3; omega)]; exact h20) h
  refine ⟨_, hC, es_rI ⟨rfl, ⟨fun q k z => by rw [a]; exact hf.1 q k z, fun q z => ?_⟩, ⟨h.1, by rw [a]; exact h.2.1, fun k hk => by rw [b 4 (by omega)]; exact h.2.2 k hk⟩, ok, hn, fun j => ?_⟩⟩
  · rw [b q (fun e => z (Or.inr e))]
    exact hf.2 q (fun e => z (Or.inl e))
  · rw [c, hn, b 4 (by omega), hf.2 p (by unfold mo_y3; omega)]
theorem r_tail (d : Nat) {p lv ch n : Nat} {μ0 μ μ4 : mz_M} {o : es_RL} {r : Int32} (hp : p = 7 ∨ p = 8) (hlv : lv ≤ 6) (hf : mo_f mo_x3 mo_y3 μ0 μ) (h20 : μ0.1 0 20 = nI lv) (hg : mo_got (mo_x1 6) (mo_y1 4) o μ r μ4) (hok : ∀ l, o = .inr l → es_ok l ∧ l.length = n) :
    if (0 : Int32) ≤ r then (∃ μ6, es_R (d + 1) n_Mo_lays [mz_R 16 0, mz_R 21 p] μ4 none μ6 ∧ es_qI (mo_jn μ0 p lv ch n o) (some (mz_I 0)) μ6) else (∃ (r8 : Int32) (μ7 : mz_M), es_R (d + 1) n_Mo_broke [mz_R 16 0, mz_I r, mz_I (nI ch)] μ4 (some (mz_I r8)) μ7 ∧ es_qI (mo_jn μ0 p lv ch n o) (some (mz_I r8)) μ7) := by
  obtain ⟨hf4, hm⟩ := hg
  have hf4' := hf.tr (hf4.mono mo_x3_3 mo_y3_3)
  cases o with
  | inl c =>
    obtain ⟨rfl, hc⟩ := hm
    refine es_f (fun z => ?_) ?_
    · have := es_hle z
      rw [es_i0] at this
      omega
    · obtain ⟨r8, μ7, hC, hb⟩ := r_broke d (ch := ch) (hf4'.mono mo_x3_X mo_y3_Y) (by rw [hf4'.1 0 20 (by unfold mo_x3; omega)]; exact h20) hc
      exact ⟨_, _, hC, es_rI hb⟩
  | inr l =>
    obtain ⟨rfl, hl⟩ := hm
    obtain ⟨k1, k2⟩ := hok l rfl
    exact es_t (by decide +kernel) (r_laid d hp hlv hf4' h20 hl k1 k2)
theorem es_v7 {n : Nat} (h : n ≤ 6) : vp_in (nI n) 7 := vp_in_nI (by omega) (by omega)
theorem tx_jp_ok {F : tx_F} {l l2 : List Int} {n : Nat} (h1 : F.2.2 ≠ 0 → es_ok F.2.1 ∧ F.2.1.length = n) (h2 : es_ok l) (hl : l.length = n) (h : tx_jp F l = .inr l2) : es_ok l2 ∧ l2.length = n := by
  unfold tx_jp at h
  by_cases e : F.2.2 = 0
  · rw [if_pos e] at h
    cases h
    exact ⟨h2, hl⟩
  · rw [if_neg e] at h
    have k := es_jr_ok (h1 e).1.1 h
    refine ⟨k.1, ?_⟩
    rw [k.2, (h1 e).2, hl]
    exact Nat.min_self n
theorem r_joinsPart (d : Nat) {μ : mz_M} {n : Nat} {F : tx_F} {G : List tx_F} {l : List Int} (hw : mo_wk μ n F G False) (hl : mo_ls μ 4 6 l) (ok : es_ok l) (hn : l.length = n) (hn1 : 1 ≤ n) (hN : μ.1 1 0 = nI n) : es_I (d + 4) n_Mo_joinsPart [mz_R 16 0] μ (mo_jn μ 8 G.length F.2.2 n (tx_jp F l)) := by
  obtain ⟨⟨w1, w2⟩, ⟨f1, f2, f3, f4, f5, f6⟩, -⟩ := hw
  have hne : l ≠ [] := fun z => by rw [z] at hn; simp only [List.length_nil] at hn; omega
  refine es_I.mk (w_Mo_joinsPart_0 0 μ ?_)
  rw [w2, es_clamp (by omega), f2]
  refine ⟨es_v7 w1, ?_⟩
  unfold tx_jp
  refine es_br (fun q => ?_) (fun q => ?_)
  · have q := (nI_eq (b := 0) (by omega) (by omega)).mp q
    rw [if_pos q]
    exact r_laid (d + 2) (Or.inr rfl) w1 mo_f.rf w2 hl ok hn
  · have q : ¬ F.2.2 = 0 := fun z => q (by rw [z]; rfl)
    rw [if_neg q]
    obtain ⟨μ2, hC2, hf2, hm2⟩ := r_copiesToTwo (d + 2) hl
    have hlst := f6 (Or.inl q)
    obtain ⟨μ3, hC3, hf3, hm3⟩ := r_takesFrom (d + 2) (μ := μ2) (Or.inr rfl) w1 (by rw [hf2.1 0 20 (by unfold mo_x1; omega)]; exact w2) (by rw [hf2.1 1 0 (by unfold mo_x1; omega)]; exact hN) (hlst.kept (fun k _ => by rw [hf2.2 8 (by unfold mo_y1; omega)]))
    refine ⟨_, hC2, _, hC3, ?_⟩
    have hf3' : mo_f mo_x3 mo_y3 μ μ3 := (hf2.mono mo_x3_2 mo_y3_2).tr (hf3.mono mo_x3_1 mo_y3_1)
    have hm2' := hm2.kept hf3 (by unfold mo_x1; omega) (by unfold mo_y1; omega)
    have okr : ∀ a l2, es_jr a F.2.1 l = .inr l2 → es_ok l2 ∧ l2.length = n := by
      intro a l2 h
      have k := es_jr_ok hlst.1.1 h
      refine ⟨k.1, ?_⟩
      rw [k.2, hlst.2.1, hn]
      exact Nat.min_self n
    refine es_br (fun q2 => ?_) (fun q2 => ?_)
    · have q2 := (nI_eq (b := 42) (by omega) (by omega)).mp q2
      rw [if_pos q2]
      obtain ⟨r, μ4, hC4, hg⟩ := r_joins d (a := 2) (by omega) hm3 hm2' hlst.1 ok hne
      exact ⟨_, _, hC4, r_tail (d + 2) (Or.inr rfl) w1 hf3' w2 hg (okr 2)⟩
    · have q2 : ¬ F.2.2 = 42 := fun z => q2 (by rw [z]; rfl)
      rw [if_neg q2]
      obtain ⟨r, μ4, hC4, hg⟩ := r_joins d (a := 3) (by omega) hm3 hm2' hlst.1 ok hne
      exact ⟨_, _, hC4, r_tail (d + 2) (Or.inr rfl) w1 hf3' w2 hg (okr 3)⟩
theorem r_joinsSum (d : Nat) {μ : mz_M} {n : Nat} {F : tx_F} {G : List tx_F} (hw : mo_wk μ n F G True) (hn1 : 1 ≤ n) (hN : μ.1 1 0 = nI n) : es_I (d + 4) n_Mo_joinsSum [mz_R 16 0] μ (mo_jn μ 7 G.length F.1.2 n (tx_js F)) := by
  obtain ⟨⟨w1, w2⟩, ⟨f1, f2, f3, f4, f5, f6⟩, -⟩ := hw
  have hp := f6 (Or.inr trivial)
  have h40 := hp.1.1
  have hpl := hp.2.1
  have hne : F.2.1 ≠ [] := fun z => by rw [z] at hpl; simp only [List.length_nil] at hpl; omega
  refine es_I.mk (w_Mo_joinsSum_0 0 μ ?_)
  rw [w2, es_clamp (by omega), f1]
  obtain ⟨μ1, hC1, hf1, hm1⟩ := r_takesFrom (d + 2) (Or.inr rfl) w1 w2 hN hp
  have e2 : μ1.1 0 2 = nI n := by rw [hm1.2.1, hpl]
  refine ⟨es_v7 w1, _, hC1, ?_⟩
  rw [e2]
  unfold tx_js
  refine es_br (fun q => ?_) (fun q => ?_)
  · have q := (nI_eq (b := 0) (by omega) (by omega)).mp q
    rw [if_pos q]
    have key : ∀ (g k : Nat) (μ' : mz_M), k + g = n → mo_f mo_x3 mo_y3 μ μ' → mo_ls μ' 2 2 F.2.1 → μ'.1 0 6 = nI n → (∀ j, j < k → (μ'.2 4 j).toInt = F.2.1.getD j 0) → v_Mo_joinsSum (es_R (d + 3)) (es_qI (mo_jn μ 7 G.length F.1.2 n (.inr F.2.1))) (32, [(0, mz_R 16 0), (2, mz_I (nI k))], [], μ') := by
      intro g
      induction g with
      | zero =>
        intro k μ' hk hf hm h6 hc
        exact w_Mo_joinsSum_32 0 _ μ' (es_t (by rw [hm.2.1, hpl]; exact nI_le (by omega) (by omega)) (r_laid (d + 2) (Or.inl rfl) w1 hf w2 ⟨h40, by rw [h6, hpl], fun j hj => hc j (by omega)⟩ hp.1 hpl))
      | succ g ih =>
        intro k μ' hk hf hm h6 hc
        refine w_Mo_joinsSum_32 0 _ μ' (es_f (by rw [hm.2.1, hpl]; exact nI_ge (by omega) (by omega)) ⟨vp_in_nI (by omega) (by omega), vp_in_nI (by omega) (by omega), ?_⟩)
        rw [es_clamp (by omega), nI_1]
        refine ih (k + 1) _ (by omega) (hf.wL (Or.inr (Or.inr rfl))) ⟨h40, hm.2.1, fun j hj => by rw [mz_wL_at, if_neg (by omega)]; exact hm.2.2 j hj⟩ h6 (fun j hj => ?_)
        rw [mz_wL_at]
        by_cases e : j = k
        · rw [if_pos ⟨rfl, e⟩, e]
          exact hm.2.2 k (by omega)
        · rw [if_neg (fun z => e z.2)]
          exact hc j (by omega)
    refine key n 0 _ (Nat.zero_add _) ((hf1.mono mo_x3_1 mo_y3_1).wI ⟨rfl, Or.inr (Or.inr rfl)⟩) ⟨h40, ?_, hm1.2.2⟩ ?_ (fun j hj => absurd hj (Nat.not_lt_zero j))
    · rw [mz_wI_at, if_neg (by omega)]; exact hm1.2.1
    · rw [mz_wI_at, if_pos ⟨rfl, rfl⟩]
  · have q : ¬ F.1.2 = 0 := fun z => q (by rw [z]; rfl)
    rw [if_neg q]
    have hs := f5 q
    have okr : ∀ a l2, es_jr a F.1.1 F.2.1 = .inr l2 → es_ok l2 ∧ l2.length = n := by
      intro a l2 h
      have k := es_jr_ok hs.1.1 h
      refine ⟨k.1, ?_⟩
      rw [k.2, hs.2.1, hpl]
      exact Nat.min_self n
    have key : ∀ (g k : Nat) (μ' : mz_M), k + g = n → mo_f mo_x3 mo_y3 μ μ' → mo_ls μ' 2 2 F.2.1 → μ'.1 0 4 = nI n → (∀ j, j < k → (μ'.2 3 j).toInt = F.2.1.getD j 0) → v_Mo_joinsSum (es_R (d + 3)) (es_qI (mo_jn μ 7 G.length F.1.2 n (es_jr (if F.1.2 = 43 then 0 else 1) F.1.1 F.2.1))) (71, [(0, mz_R 16 0), (1, mz_I (nI F.1.2)), (2, mz_I (nI k))], [], μ') := by
      intro g
      induction g with
      | zero =>
        intro k μ' hk hf hm h4 hc
        have m2 : mo_ls μ' 3 4 F.2.1 := ⟨h40, by rw [h4, hpl], fun j hj => hc j (by omega)⟩
        obtain ⟨μ3, hC3, hf3, hm3⟩ := r_takesFrom (d + 2) (μ := μ') (Or.inl rfl) w1 (by rw [hf.1 0 20 (by unfold mo_x3; omega)]; exact w2) (by rw [hf.1 1 0 (by unfold mo_x3; omega)]; exact hN) (hs.kept (fun k _ => by rw [hf.2 7 (by unfold mo_y3; omega)]))
        have hf3' := hf.tr (hf3.mono mo_x3_1 mo_y3_1)
        have m2' := m2.kept hf3 (by unfold mo_x1; omega) (by unfold mo_y1; omega)
        refine w_Mo_joinsSum_71 0 _ _ μ' (es_t (by rw [hm.2.1, hpl]; exact nI_le (by omega) (by omega)) ⟨_, hC3, es_br (fun q2 => ?_) (fun q2 => ?_)⟩)
        · have q2 := (nI_eq (b := 43) (by omega) (by omega)).mp q2
          rw [if_pos q2]
          obtain ⟨r, μ4, hC4, hg⟩ := r_joins d (a := 0) (by omega) hm3 m2' hs.1 hp.1 hne
          exact ⟨_, _, hC4, r_tail (d + 2) (Or.inl rfl) w1 hf3' w2 hg (okr 0)⟩
        · have q2 : ¬ F.1.2 = 43 := fun z => q2 (by rw [z]; rfl)
          rw [if_neg q2]
          obtain ⟨r, μ4, hC4, hg⟩ := r_joins d (a := 1) (by omega) hm3 m2' hs.1 hp.1 hne
          exact ⟨_, _, hC4, r_tail (d + 2) (Or.inl rfl) w1 hf3' w2 hg (okr 1)⟩
      | succ g ih =>
        intro k μ' hk hf hm h4 hc
        refine w_Mo_joinsSum_71 0 _ _ μ' (es_f (by rw [hm.2.1, hpl]; exact nI_ge (by omega) (by omega)) ⟨vp_in_nI (by omega) (by omega), vp_in_nI (by omega) (by omega), ?_⟩)
        rw [es_clamp (by omega), nI_1]
        refine ih (k + 1) _ (by omega) (hf.wL (Or.inr (Or.inl rfl))) ⟨h40, hm.2.1, fun j hj => by rw [mz_wL_at, if_neg (by omega)]; exact hm.2.2 j hj⟩ h4 (fun j hj => ?_)
        rw [mz_wL_at]
        by_cases e : j = k
        · rw [if_pos ⟨rfl, e⟩, e]
          exact hm.2.2 k (by omega)
        · rw [if_neg (fun z => e z.2)]
          exact hc j (by omega)
    refine key n 0 _ (Nat.zero_add _) ((hf1.mono mo_x3_1 mo_y3_1).wI ⟨rfl, Or.inr (Or.inl rfl)⟩) ⟨h40, ?_, hm1.2.2⟩ ?_ (fun j hj => absurd hj (Nat.not_lt_zero j))
    · rw [mz_wI_at, if_neg (by omega)]; exact hm1.2.1
    · rw [mz_wI_at, if_pos ⟨rfl, rfl⟩]
