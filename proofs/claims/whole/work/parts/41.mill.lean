/-! The class's mill: texts are worked out. -/
def tx_W (b : Nat) : Nat → Prop := fun z => z = 145 ∨ (153 ≤ z ∧ z ≤ 156) ∨ (b ≤ z ∧ z < 200)
def tx_post (p dp n : Nat) (U : List (Nat × Nat)) (i : Nat) (E : tx_F → List tx_F → tx_R) (K : Nat → List Int → tx_F → List tx_F → tx_R) (V : Nat → Prop) (μ : mz_M) (r : Int32) (μ' : mz_M) : Prop :=
  es_fr (tx_W p) μ μ' ∧ ((¬ r = 0 ∧ ∃ b x, μ'.1 145 8 = nI b ∧ μ'.1 145 9 = nI x ∧ ∀ F G, G.length = dp → E F G = .inl (r, b, x)) ∨
    (r = 0 ∧ ∃ j l, i < j ∧ j ≤ U.length ∧ tx_ml μ' n U j ∧ (μ'.1 145 8 = μ.1 145 8 ∧ μ'.1 145 9 = μ.1 145 9) ∧ es_row μ' p l ∧ V j ∧ ∀ F G, G.length = dp → E F G = K j l F G))
def tx_pA (dp n : Nat) (U : List (Nat × Nat)) (i : Nat) : mz_M → Int32 → mz_M → Prop := tx_post (161 + 6 * dp) dp n U i (fun F G => tx_ev n (U.drop i) F G none) (fun j l F G => tx_ev n (U.drop j) F G (some (some l))) (fun j => tx_vt (U.drop j) 2 dp)
def tx_pW (dp n : Nat) (U : List (Nat × Nat)) (i : Nat) : mz_M → Int32 → mz_M → Prop := tx_post (161 + 6 * dp) dp n U i (fun F G => tx_ev n (U.drop i) F G none) (fun j l F G => tx_or (tx_jp F l) G.length F.2.2 (fun l2 => tx_ev n (U.drop j) (F.1, (l2, F.2.2)) G (some none))) (fun j => tx_vt (U.drop j) 3 dp)
def tx_pP (dp n : Nat) (U : List (Nat × Nat)) (i : Nat) : mz_M → Int32 → mz_M → Prop := tx_post (159 + 6 * dp) dp n U i (fun F G => tx_ev n (U.drop i) (F.1, ([], 0)) G none) (fun j l F G => tx_ev n (U.drop j) (F.1, (l, 0)) G (some none)) (fun j => tx_vt (U.drop j) 3 dp ∧ tx_npm (U.drop j))
def tx_pS (dp n : Nat) (U : List (Nat × Nat)) (i : Nat) : mz_M → Int32 → mz_M → Prop := tx_post (157 + 6 * dp) dp n U i (fun _ G => tx_ev n (U.drop i) tx_0 G none) (fun j l _ G => tx_aft n (U.drop j) l G) (fun j => tx_vt (U.drop j) 3 dp ∧ ∀ t us, U.drop j = t :: us → t.1 = 41)
theorem tx_drop_0 {U : List (Nat × Nat)} {i : Nat} (h : ¬ i < U.length) : U.drop i = [] := List.drop_eq_nil_of_le (by omega)
theorem tx_row_num {μ : mz_M} {p n v : Nat} (hv : v ≤ 99) (hn1 : 1 ≤ n) (h : es_raw μ p n (fun k => if k = 0 then (v : Int) else 0)) : es_row μ p (es_ls n (fun k => if k = 0 then (v : Int) else 0)) := by
  refine h.row (es_ls_len _ _) (fun k hk => (es_ls_at (fun k => if k = 0 then (v : Int) else 0) hk).symm) (fun k hk => ?_)
  by_cases e : k = 0
  · rw [if_pos e]; omega
  · rw [if_neg e]; omega
theorem m_atom (a : Nat) {dp n : Nat} {U : List (Nat × Nat)} (hdp : dp ≤ 6) (hn1 : 1 ≤ n) (hn : n ≤ 40) (hS : dp < 6 → ∀ i μ, tx_ml μ n U i → tx_vt (U.drop i) 1 (dp + 1) → es_I (a + 3) n_Mill_workSum [mz_R 9 145, mz_I (nI (dp + 1))] μ (tx_pS (dp + 1) n U i μ)) {i : Nat} {μ : mz_M} (h : tx_ml μ n U i) (hv : tx_vt (U.drop i) 1 dp) : es_I (a + 4) n_Mill_workAtom [mz_R 9 145, mz_I (nI dp)] μ (tx_pA dp n U i μ) := by
  have h60 := h.1.1
  have hi : i < U.length := by
    by_cases e : i < U.length
    · exact e
    · rw [tx_drop_0 e] at hv
      exact absurd rfl hv.1
  rw [tx_drop hi] at hv
  unfold tx_vt at hv
  rw [if_pos rfl] at hv
  unfold tx_pA
  rw [tx_drop hi]
  generalize htk : tx_tk U i = t at hv
  refine es_I.mk (w_Mill_workAtom_0 145 _ μ ⟨_, _, es_pure (t_sign (a + 2) h (by omega)), _, _, es_pure (t_value (a + 2) h (by omega)), ?_⟩)
  rw [h.2.1, nI_1 i, htk]
  have h1 := h.pl (i + 1)
  have hw : es_fr (fun z => z = 145) μ (mz_wI μ 145 6 (nI (i + 1))) := es_fw1
  have k8 : (mz_wI μ 145 6 (nI (i + 1))).1 145 8 = μ.1 145 8 := by rw [mz_wI_at, if_neg (by omega)]
  have k9 : (mz_wI μ 145 6 (nI (i + 1))).1 145 9 = μ.1 145 9 := by rw [mz_wI_at, if_neg (by omega)]
  have hwD : es_fr (tx_W (161 + 6 * dp)) μ (mz_wI μ 145 6 (nI (i + 1))) := hw.mono (fun z hz => Or.inl hz)
  have hvin : vp_in (nI dp) 7 := vp_in_nI (by omega) (by omega)
  rw [es_clamp (by omega)]
  by_cases e0 : t.1 = 40
  · rw [if_pos e0] at hv
    refine es_t (by rw [e0]; rfl) ?_
    rw [nI_1 dp]
    obtain ⟨r, μ1, hC, hf1, hp⟩ := hS hv.1 (i + 1) _ h1 hv.2
    refine ⟨_, _, hC, ?_⟩
    have hf1' : es_fr (tx_W (161 + 6 * dp)) μ μ1 := hwD.tr (hf1.mono (fun z hz => by unfold tx_W at hz ⊢; omega))
    rcases hp with ⟨hr, b, x, p1, p2, p3⟩ | ⟨rfl, j, l, p1, p2, p3, p4, p5, p6, p7⟩
    · refine es_f hr (es_rI ⟨hf1', Or.inl ⟨hr, b, x, p1, p2, fun F G hG => ?_⟩⟩)
      exact (tx_ev_open e0).trans (p3 F (F :: G) (by show G.length + 1 = dp + 1; omega))
    · have hj : j < U.length := by
        by_cases e : j < U.length
        · exact e
        · have := p6.1
          rw [tx_drop_0 e] at this
          have := this.2
          omega
      have h41 := p6.2 _ _ (tx_drop hj)
      have hvj := p6.1
      rw [tx_drop hj] at hvj
      unfold tx_vt at hvj
      rw [if_neg (by decide), if_neg (by omega), if_pos h41] at hvj
      rw [es_clamp (by omega)]
      obtain ⟨μ2, hD, hf2, hr2⟩ := s_take (a + 2) (p := 161 + 6 * dp) p5 (by unfold es_sep; omega)
      refine es_t rfl ⟨hvin, vp_in_nI (by omega) (by omega), _, hD, es_rI ?_⟩
      have h2 := p3.kept hf2 (by unfold es_2; omega) (by unfold es_2; omega) (by unfold es_2; omega) (by unfold es_2; omega)
      rw [h2.2.1, nI_1]
      have hw2 : es_fr (fun z => z = 145) μ2 (mz_wI μ2 145 6 (nI (j + 1))) := es_fw1
      refine ⟨(hf1'.tr (hf2.mono (fun z hz => by unfold es_2 at hz; unfold tx_W; omega))).tr (hw2.mono (fun z hz => Or.inl hz)), Or.inr ⟨rfl, j + 1, l, by omega, by omega, h2.pl (j + 1), ⟨?_, ?_⟩, hr2.kept hw2 (by omega) (by omega), hvj.2, fun F G hG => ?_⟩⟩
      · rw [mz_wI_at, if_neg (by omega), (hf2 145 (by unfold es_2; omega)).1, p4.1, k8]
      · rw [mz_wI_at, if_neg (by omega), (hf2 145 (by unfold es_2; omega)).1, p4.2, k9]
      · refine (tx_ev_open e0).trans ((p7 F (F :: G) (by show G.length + 1 = dp + 1; omega)).trans ?_)
        show tx_aft n (U.drop j) l (F :: G) = _
        rw [tx_drop hj]
        show (if (tx_tk U j).1 = 41 then _ else _) = _
        rw [if_pos h41]
  · rw [if_neg e0] at hv
    have hsm : t.1 ≤ 126 ∧ t.2 ≤ 99 := by
      rcases hv.1 with ⟨q1, q2⟩ | ⟨q1, q2⟩
      · omega
      · have q3 := of_decide_eq_true q1
        have q4 := of_decide_eq_true q2
        omega
    refine es_f (fun z => e0 ((nI_eq (b := 40) (by omega) (by omega)).mp z)) ?_
    have hspan : (mz_wI μ 145 6 (nI (i + 1))).1 145 7 = nI n := h1.2.2
    have fin : ∀ (μ1 : mz_M), es_fr (es_2 (161 + 6 * dp)) (mz_wI μ 145 6 (nI (i + 1))) μ1 → es_row μ1 (161 + 6 * dp) (tx_at n t) → tx_post (161 + 6 * dp) dp n U i (fun F G => tx_ev n (t :: U.drop (i + 1)) F G none) (fun j l F G => tx_ev n (U.drop j) F G (some (some l))) (fun j => tx_vt (U.drop j) 2 dp) μ 0 μ1 := by
      intro μ1 hf1 hr1
      have n149 : ¬ es_2 (161 + 6 * dp) 145 := by unfold es_2; omega
      refine ⟨hwD.tr (hf1.mono (fun z hz => by unfold es_2 at hz; unfold tx_W; omega)), Or.inr ⟨rfl, i + 1, tx_at n t, by omega, by omega, h1.kept hf1 (by unfold es_2; omega) (by unfold es_2; omega) (by unfold es_2; omega) n149, ⟨by rw [(hf1 145 n149).1, k8], by rw [(hf1 145 n149).1, k9]⟩, hr1, hv.2, fun F G hG => ?_⟩⟩
      exact tx_ev_atom e0
    by_cases e1 : t.1 = 48
    · refine es_t (by rw [e1]; rfl) ⟨hvin, ?_⟩
      rw [hspan]
      obtain ⟨μ1, hC1, hf1, hr1⟩ := s_begin (a + 1) (p := 161 + 6 * dp) hn (mz_wI μ 145 6 (nI (i + 1)))
      have hvl : ((nI t.2).toInt64).toInt = (t.2 : Int) := by rw [es_i2l, nI_toInt (by omega)]
      obtain ⟨μ2, hC2, hf2, hr2⟩ := s_put_n (a + 2) (j := 0) (v := (nI t.2).toInt64) hr1 (by omega) (by rw [hvl]; omega)
      rw [hvl] at hr2
      refine ⟨_, hC1, hvin, _, hC2, es_rI (fin μ2 (hf1.tr hf2) ?_)⟩
      unfold tx_at
      rw [if_pos e1]
      exact tx_row_num hsm.2 hn1 hr2
    · refine es_f (fun z => e1 ((nI_eq (b := 48) (by omega) (by omega)).mp z)) ⟨hvin, ?_⟩
      refine ⟨_, _, es_pure (t_kindOf (a + 2) (by omega) _), ?_⟩
      rw [hspan]
      have hk := tx_kd_i t.1
      have hd : t.2 ≤ 39 := by
        rcases hv.1 with ⟨q1, q2⟩ | ⟨q1, q2⟩
        · exact absurd q1 e1
        · have q4 := of_decide_eq_true q2
          omega
      obtain ⟨μ1, hC1, hf1, hr1⟩ := s_become a (p := 161 + 6 * dp) hk.2 hd hn hn1 (mz_wI μ 145 6 (nI (i + 1)))
      refine ⟨_, hC1, es_rI (fin μ1 hf1 ?_)⟩
      unfold tx_at
      rw [if_neg e1]
      exact hr1
/-- what was joined comes to its place, or why it broke is kept -/
def tx_fin (p dp x : Nat) (o : es_RL) (μ : mz_M) (r : Int32) (μ' : mz_M) : Prop := match o with
  | .inl c => r = c ∧ ¬ c = 0 ∧ es_fr (fun z => z = 145 ∨ (153 ≤ z ∧ z ≤ 156)) μ μ' ∧ μ'.1 145 8 = nI dp ∧ μ'.1 145 9 = nI x
  | .inr l => r = 0 ∧ es_fr (fun z => (153 ≤ z ∧ z ≤ 156) ∨ es_2 p z) μ μ' ∧ es_row μ' p l
theorem m_finish (d : Nat) {p dp x : Nat} {o : es_RL} {μ0 μ : mz_M} {r : Int32} (hp : 157 ≤ p) (hg : es_got (fun z => 153 ≤ z ∧ z ≤ 156) 153 o μ0 r μ) : es_I (d + 2) n_Mill_finish [mz_R 9 145, mz_I r, mz_R 3 p, mz_I (nI x), mz_I (nI dp)] μ (tx_fin p dp x o μ0) := by
  obtain ⟨hf, hm⟩ := hg
  refine es_I.mk (w_Mill_finish_0 145 _ p _ _ μ ?_)
  cases o with
  | inl c =>
    obtain ⟨rfl, hc⟩ := hm
    refine es_f hc (es_rI ⟨rfl, hc, (hf.mono (fun z hz => Or.inr hz)).tr (es_fw2.mono (fun z hz => Or.inl hz)), ?_, ?_⟩)
    · rw [mz_wI_at, if_neg (by omega), mz_wI_at, if_pos ⟨rfl, rfl⟩]
    · rw [mz_wI_at, if_pos ⟨rfl, rfl⟩]
  | inr l =>
    obtain ⟨rfl, hr⟩ := hm
    obtain ⟨μ1, hC, hf1, hr1⟩ := s_take d (p := p) hr (by unfold es_sep; omega)
    exact es_t rfl ⟨_, hC, es_rI ⟨rfl, (hf.mono (fun z hz => Or.inl hz)).tr (hf1.mono (fun z hz => Or.inr hz)), hr1⟩⟩
def tx_act (x : Nat) : Nat := if x = 42 then 2 else if x = 43 then 0 else if x = 45 then 1 else 3
theorem m_combine (d : Nat) {p1 p3 dp x : Nat} {μ : mz_M} {l1 l2 : List Int} (hx : tx_opl x = true) (h1 : es_row μ p1 l1) (h3 : es_row μ p3 l2) (hp1 : 157 ≤ p1) (hp3 : 157 ≤ p3) : es_I (d + 5) n_Mill_combine [mz_R 9 145, mz_R 3 p1, mz_I (nI x), mz_R 3 p3, mz_I (nI dp)] μ (tx_fin p1 dp x (es_jr (tx_act x) l1 l2) μ) := by
  have hx := of_decide_eq_true hx
  have qe : ∀ b : Nat, b < 1000 → (nI x = nI b ↔ x = b) := fun b hb => nI_eq (by omega) (by omega)
  have hact : es_I (d + 4) n_Mill_actOf [mz_I (nI x)] μ (fun r μ' => μ' = μ ∧ r = nI (tx_act x)) := by
    unfold tx_act
    refine es_I.mk (w_Mill_actOf_0 _ μ (es_br (fun h => es_rI ⟨rfl, ?_⟩) (fun h => es_br (fun h2 => es_rI ⟨rfl, ?_⟩) (fun h2 => es_br (fun h3 => es_rI ⟨rfl, ?_⟩) (fun h3 => es_br (fun h4 => es_rI ⟨rfl, ?_⟩) (fun h4 => es_rI ⟨rfl, ?_⟩))))))
    · rw [if_pos ((qe 42 (by omega)).mp h)]; rfl
    · rw [if_neg (fun z => h ((qe 42 (by omega)).mpr z)), if_pos ((qe 43 (by omega)).mp h2)]; rfl
    · have := (qe 44 (by omega)).mp h3
      omega
    · rw [if_neg (fun z => h ((qe 42 (by omega)).mpr z)), if_neg (fun z => h2 ((qe 43 (by omega)).mpr z)), if_pos ((qe 45 (by omega)).mp h4)]; rfl
    · rw [if_neg (fun z => h ((qe 42 (by omega)).mpr z)), if_neg (fun z => h2 ((qe 43 (by omega)).mpr z)), if_neg (fun z => h4 ((qe 45 (by omega)).mpr z))]; rfl
  refine es_I.mk (w_Mill_combine_0 145 p1 _ p3 _ μ ⟨_, _, es_pure hact, ?_⟩)
  obtain ⟨r, μ1, hC, hj⟩ := s_joined d (p := 153) (act := nI (tx_act x)) h1 h3 (by unfold es_sep; omega) (by unfold es_sep; omega)
  have ha4 : tx_act x < 4 := by
    unfold tx_act
    split
    · omega
    · split
      · omega
      · split <;> omega
  obtain ⟨hf, hm⟩ := es_jn.got ha4 hj
  obtain ⟨r2, μ2, hD, hfin⟩ := m_finish (d + 2) (p := p1) (dp := dp) (x := x) hp1 (⟨hf.mono (fun z hz => by unfold es_2 at hz; omega), hm⟩ : es_got (fun z => 153 ≤ z ∧ z ≤ 156) 153 (es_jr (tx_act x) l1 l2) μ r μ1)
  exact ⟨_, _, hC, _, _, hD, es_rI hfin⟩
theorem tx_vt_23 {ts : List (Nat × Nat)} {o : Nat} (h : tx_vt ts 2 o) (h94 : tx_np94 ts) : tx_vt ts 3 o := by
  cases ts with
  | nil => exact ⟨by decide, h.2⟩
  | cons t us =>
    unfold tx_vt at h ⊢
    rw [if_neg (by decide), if_neg (h94 t us rfl)] at h ⊢
    exact h
theorem tx_vt_3 {ts : List (Nat × Nat)} {o : Nat} (h : tx_vt ts 3 o) : tx_np94 ts := by
  intro t us e z
  subst e
  unfold tx_vt at h
  rw [if_neg (by decide), if_pos z] at h
  exact absurd h.1 (by decide)
theorem m_power (a : Nat) {dp n : Nat} {U : List (Nat × Nat)} (hdp : dp ≤ 6) {i : Nat} {μ : mz_M} (h60 : U.length ≤ 60) (hA : es_I (a + 4) n_Mill_workAtom [mz_R 9 145, mz_I (nI dp)] μ (tx_pA dp n U i μ)) : es_I (a + 5) n_Mill_workPower [mz_R 9 145, mz_I (nI dp)] μ (tx_pW dp n U i μ) := by
  obtain ⟨r, μ1, hC, hf1, hp⟩ := hA
  refine es_I.mk (w_Mill_workPower_0 145 _ μ ⟨_, _, hC, ?_⟩)
  have hvin : vp_in (nI dp) 7 := vp_in_nI (by omega) (by omega)
  rcases hp with ⟨hr, b, x, p1, p2, p3⟩ | ⟨rfl, j, l, p1, p2, p3, p4, p5, p6, p7⟩
  · exact es_f hr (es_rI ⟨hf1, Or.inl ⟨hr, b, x, p1, p2, p3⟩⟩)
  · refine es_t rfl ⟨_, _, es_pure (t_sign (a + 3) p3 (by omega)), ?_⟩
    by_cases hj : j < U.length
    · have hvj := p6
      rw [tx_drop hj] at hvj
      unfold tx_vt at hvj
      rw [if_neg (by decide)] at hvj
      by_cases e : (tx_tk U j).1 = 94
      · rw [if_pos e] at hvj
        refine es_t (by rw [e]; rfl) ⟨hvin, _, _, es_pure (t_value (a + 3) p3 (by omega)), ?_⟩
        rw [es_clamp (by omega)]
        obtain ⟨r2, μ2, hD, hf2, hm⟩ := s_power a (p := 153) (p3 := 155) (v := (tx_tk U j).2) p5 (by unfold es_sep; omega) (by unfold es_sep; omega) (by unfold es_sep; omega) (by omega)
        have hf2' : es_fr (fun z => 153 ≤ z ∧ z ≤ 156) μ1 μ2 := hf2.mono (fun z hz => by unfold es_4 es_2 at hz; omega)
        refine ⟨_, _, hD, hvin, ?_⟩
        have hml2 := p3.kept hf2' (by omega) (by omega) (by omega) (by omega)
        rw [hml2.2.1, nI_1]
        have hw : es_fr (fun z => z = 145) μ2 (mz_wI μ2 145 6 (nI (j + 1))) := es_fw1
        have hg : es_got (fun z => 153 ≤ z ∧ z ≤ 156) 153 (tx_pw l (tx_tk U j).2) (mz_wI μ2 145 6 (nI (j + 1))) r2 (mz_wI μ2 145 6 (nI (j + 1))) := by
          refine ⟨es_fr.rf, ?_⟩
          unfold tx_pw
          rcases hm with ⟨m1, m2⟩ | ⟨m1, m2, m3⟩
          · rw [if_pos m1]
            exact ⟨m2, by decide +kernel⟩
          · rw [if_neg (by rw [m1]; decide)]
            exact ⟨m2, m3.kept hw (by omega) (by omega)⟩
        obtain ⟨r3, μ3, hE, hfin⟩ := m_finish (a + 2) (p := 161 + 6 * dp) (dp := dp) (x := 94) (by omega) hg
        refine ⟨_, _, hE, es_rI ?_⟩
        have hev : ∀ F G, G.length = dp → tx_ev n (U.drop i) F G none = tx_or (tx_pw l (tx_tk U j).2) G.length 94 (fun l => tx_or (tx_jp F l) G.length F.2.2 (fun l2 => tx_ev n (U.drop (j + 1)) (F.1, (l2, F.2.2)) G (some none))) := by
          intro F G hG
          refine (p7 F G hG).trans ?_
          show tx_ev n (U.drop j) F G (some (some l)) = _
          rw [tx_drop hj]
          exact tx_ev_pow e
        have fr0 : es_fr (tx_W (161 + 6 * dp)) μ (mz_wI μ2 145 6 (nI (j + 1))) := (hf1.tr (hf2'.mono (fun z hz => Or.inr (Or.inl hz)))).tr (hw.mono (fun z hz => Or.inl hz))
        cases ho : tx_pw l (tx_tk U j).2 with
        | inl c =>
          rw [ho] at hfin hev
          obtain ⟨rfl, f2, f3, f4, f5⟩ := hfin
          exact ⟨fr0.tr (f3.mono (fun z hz => by unfold tx_W; omega)), Or.inl ⟨f2, dp, 94, f4, f5, fun F G hG => (hev F G hG).trans (by rw [hG]; rfl)⟩⟩
        | inr l2 =>
          rw [ho] at hfin hev
          obtain ⟨rfl, f2, f3⟩ := hfin
          have n149 : ¬ ((153 ≤ 145 ∧ 145 ≤ 156) ∨ es_2 (161 + 6 * dp) 145) := by unfold es_2; omega
          have n14 : ∀ z, z < 150 → ¬ ((153 ≤ z ∧ z ≤ 156) ∨ es_2 (161 + 6 * dp) z) := fun z hz => by unfold es_2; omega
          refine ⟨fr0.tr (f2.mono (fun z hz => by unfold es_2 at hz; unfold tx_W; omega)), Or.inr ⟨rfl, j + 1, l2, by omega, by omega, (hml2.pl (j + 1)).kept f2 (n14 _ (by omega)) (n14 _ (by omega)) (n14 _ (by omega)) n149, ⟨?_, ?_⟩, f3, hvj.2.2, fun F G hG => ?_⟩⟩
          · rw [(f2 145 n149).1, mz_wI_at, if_neg (by omega), (hf2' 145 (by omega)).1, p4.1]
          · rw [(f2 145 n149).1, mz_wI_at, if_neg (by omega), (hf2' 145 (by omega)).1, p4.2]
          · exact hev F G hG
      · have hne : ¬ nI (tx_tk U j).1 = (94 : Int32) := by
          rw [if_neg e] at hvj
          have hle : (tx_tk U j).1 < 1000 := by
            by_cases e41 : (tx_tk U j).1 = 41
            · omega
            · rw [if_neg e41] at hvj
              have := of_decide_eq_true hvj.1
              omega
          exact fun z => e ((nI_eq (b := 94) (by omega) (by omega)).mp z)
        have h94 : tx_np94 (U.drop j) := by
          rw [tx_drop hj]
          intro t us z
          cases z
          exact e
        refine es_f hne (es_rI ⟨hf1, Or.inr ⟨rfl, j, l, p1, p2, p3, p4, p5, tx_vt_23 p6 h94, fun F G hG => ?_⟩⟩)
        exact (p7 F G hG).trans (tx_ev_val h94)
    · have h94 : tx_np94 (U.drop j) := by
        rw [tx_drop_0 hj]
        intro t us z
        cases z
      rw [tx_tk_out (by omega)]
      refine es_f (by decide +kernel) (es_rI ⟨hf1, Or.inr ⟨rfl, j, l, p1, p2, p3, p4, p5, tx_vt_23 p6 h94, fun F G hG => ?_⟩⟩)
      exact (p7 F G hG).trans (tx_ev_val h94)
