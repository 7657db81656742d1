/-! The class as a whole: what its state is, and its acts on series. -/
/-- now, the past, the image, the tape, why it broke, the sheets -/
abbrev es_A : Type := es_Sn × List es_Sn × Option (es_Sn × List es_Sn) × List Nat × (Int32 × Int32) × (Nat → es_L)
def es_tp (μ : mz_M) (T : List Nat) : Prop := T.length ≤ 60 ∧ μ.1 146 1 = nI T.length ∧ ∀ k, k < T.length → μ.1 147 k = nI (T.getD k 0) ∧ 32 ≤ T.getD k 0 ∧ T.getD k 0 ≤ 126
def es_im (μ : mz_M) (K : Option (es_Sn × List es_Sn)) : Prop := match K with
  | none => μ.1 0 4 = 0
  | some q => μ.1 0 4 = 1 ∧ es_sh μ 73 q.1 ∧ es_ps μ 83 q.2
def es_C (μ : mz_M) (A : es_A) : Prop := es_sh μ 1 A.1 ∧ es_ps μ 11 A.2.1 ∧ es_im μ A.2.2.1 ∧ es_tp μ A.2.2.2.1 ∧ (μ.1 145 8 = A.2.2.2.2.1.1 ∧ μ.1 145 9 = A.2.2.2.2.1.2) ∧ ∀ k, k < 4 → es_lf μ (204 + 2 * k) (A.2.2.2.2.2 k)
def es_ans (o : Int32 × es_A) (r : Int32) (μ : mz_M) : Prop := r = o.1 ∧ es_C μ o.2
theorem es_im.kept {T : Nat → Prop} {μ μ' : mz_M} {K : Option (es_Sn × List es_Sn)} (h : es_im μ K) (hf : es_fr T μ μ') (h0 : ¬ T 0) (ht : ∀ z, 73 ≤ z → z < 145 → ¬ T z) : es_im μ' K := by
  cases K with
  | none =>
    show μ'.1 0 4 = 0
    rw [(hf 0 h0).1]; exact h
  | some q =>
    obtain ⟨a, b, c⟩ := h
    exact ⟨by rw [(hf 0 h0).1]; exact a, b.kept hf (fun z z1 z2 => ht z (by omega) (by omega)), c.kept hf (fun z z1 z2 => ht z (by omega) (by omega))⟩
theorem es_tp.kept {T : Nat → Prop} {μ μ' : mz_M} {K : List Nat} (h : es_tp μ K) (hf : es_fr T μ μ') (h1 : ¬ T 146) (h2 : ¬ T 147) : es_tp μ' K := by
  obtain ⟨a, b, c⟩ := h
  exact ⟨a, by rw [(hf 146 h1).1]; exact b, fun k hk => by rw [(hf 147 h2).1]; exact c k hk⟩
/-- now, the past, and what is only for work -/
def es_wk : Nat → Prop := fun z => (1 ≤ z ∧ z < 73) ∨ (150 ≤ z ∧ z < 204)
theorem es_C.chg {μ μ' : mz_M} {A : es_A} {S : es_Sn} {U : List es_Sn} (h : es_C μ A) (hf : es_fr es_wk μ μ') (h1 : es_sh μ' 1 S) (h2 : es_ps μ' 11 U) : es_C μ' (S, U, A.2.2) := by
  obtain ⟨-, -, a3, a4, a5, a6⟩ := h
  have hn : ∀ z, ((z < 1 ∨ 73 ≤ z) ∧ (z < 150 ∨ 204 ≤ z)) → ¬ es_wk z := fun z hz c => by unfold es_wk at c; omega
  refine ⟨h1, h2, a3.kept hf (hn 0 (by omega)) (fun z z1 z2 => hn z (by omega)), a4.kept hf (hn _ (by omega)) (hn _ (by omega)), ?_, fun k hk => (a6 k hk).kept hf (hn _ (by omega)) (hn _ (by omega))⟩
  show μ'.1 145 8 = _ ∧ μ'.1 145 9 = _
  rw [(hf 145 (hn _ (by omega))).1]
  exact a5
theorem es_C.scr {μ μ' : mz_M} {A : es_A} (h : es_C μ A) (hf : es_fr (fun z => 150 ≤ z ∧ z < 204) μ μ') : es_C μ' A :=
  h.chg (hf.mono (fun z hz => Or.inr hz)) (h.1.kept hf (fun z a b c => by omega)) (h.2.1.kept hf (fun z a b c => by omega))
/-- a series becomes a list -/
def es_kp (A : es_A) (s : Nat) (l : List Int) : es_A := (es_sr A.1 s l, (A.1 :: A.2.1).take 6, A.2.2)
theorem es_sr_sh {μ μ' : mz_M} {q s : Nat} {S : es_Sn} {l : List Int} (h : es_sh μ q S) (hs : s < 4) (hf : es_fr (es_2 (q + 1 + 1 + 2 * s)) μ μ') (hr : es_row μ' (q + 1 + 1 + 2 * s) l) : es_sh μ' q (es_sr S s l) := by
  obtain ⟨a, b, c, e⟩ := h
  refine ⟨fun k hk => ?_, ?_, ?_, e⟩
  · show es_row μ' _ (if k = s then l else S.1 k)
    by_cases z : k = s
    · rw [if_pos z, z]; exact hr
    · rw [if_neg z]
      exact (a k hk).kept hf (by unfold es_2; omega) (by unfold es_2; omega)
  · rw [(hf q (by unfold es_2; omega)).1]; exact b
  · rw [(hf q (by unfold es_2; omega)).1]; exact c
theorem s_settle (d : Nat) {x : Int32} {p : Nat} {μ : mz_M} {A : es_A} {l : List Int} (h : es_C μ A) (hr : es_row μ p l) (hp : 150 ≤ p) (hp2 : p + 1 < 204) (h0 : 0 ≤ x.toInt) (h4 : x.toInt < 4) : es_I (d + 4) n_ES_settle [mz_R 0 0, mz_I x, mz_R 3 p] μ (es_ans (nI l.length, es_kp A x.toInt.toNat l)) := by
  refine es_I.mk (w_ES_settle_0 0 x p μ ?_)
  obtain ⟨μ1, hC, hf1, hu⟩ := s_remember d (P := 11) (q := 1) h.2.1 h.1 (by omega)
  refine ⟨_, hC, es_in h0 h4, ?_⟩
  have hr1 := hr.kept hf1 (by unfold es_bk; omega) (by unfold es_bk; omega)
  have hn1 := h.1.kept hf1 (fun z a b c => by unfold es_bk at c; omega)
  obtain ⟨μ2, hD, hf2, hr2⟩ := s_take (d + 2) (p := 3 + 2 * x.toInt.toNat) hr1 (by unfold es_sep; omega)
  refine ⟨_, hD, es_rI ⟨?_, ?_⟩⟩
  · show μ2.1 p 1 = nI l.length
    rw [(hf2 p (by unfold es_2; omega)).1]
    exact hr1.2.1
  · refine h.chg (hf1.mono (fun z hz => ?_) |>.tr (hf2.mono (fun z hz => ?_))) (es_sr_sh hn1 (by omega) hf2 hr2) (hu.kept hf2 (fun z a b c => ?_))
    · unfold es_bk at hz; unfold es_wk; omega
    · unfold es_2 at hz; unfold es_wk; omega
    · unfold es_2 at c; omega
theorem es_bt {P : Prop} [Decidable P] (h : ¬ es_b (decide P) = 0) : P := by
  rw [es_b_0] at h
  exact of_decide_eq_true (Bool.of_not_eq_false h)
theorem es_bf {P : Prop} [Decidable P] (h : es_b (decide P) = 0) : ¬ P := by
  rw [es_b_0] at h
  exact of_decide_eq_false h
def es_4ok (x : Int32) : Bool := decide (0 ≤ x.toInt ∧ x.toInt < 4)
def es_sl (A : es_A) (x : Int32) : List Int := A.1.1 x.toInt.toNat
theorem es_C.row {μ : mz_M} {A : es_A} (h : es_C μ A) {x : Int32} (h0 : 0 ≤ x.toInt) (h4 : x.toInt < 4) : es_row μ (3 + 2 * x.toInt.toNat) (es_sl A x) := h.1.1 x.toInt.toNat (by omega)
def es_make (A : es_A) (s k x : Int32) : Int32 × es_A := if es_4ok s = true then (if es_kn k x = true then (nI A.1.2.1, es_kp A s.toInt.toNat (es_kd k.toInt.toNat x.toInt.toNat A.1.2.1)) else (-1000001, A)) else (-1000001, A)
theorem c_make (d : Nat) {μ : mz_M} {A : es_A} (h : es_C μ A) (s k x : Int32) : es_I (d + 5) n_ES_make [mz_R 0 0, mz_I s, mz_I k, mz_I x] μ (es_ans (es_make A s k x)) := by
  refine es_I.mk (w_ES_make_0 0 s k x μ ?_)
  refine ⟨_, _, es_pure (s_isFour (d + 3) s μ), es_br (fun q => es_rI ?_) (fun q => ?_)⟩
  · have : es_4ok s = false := es_b_0.mp q
    unfold es_make
    rw [this]
    exact ⟨rfl, h⟩
  have q1 := es_bt q
  have qt : es_4ok s = true := decide_eq_true q1
  refine ⟨_, _, es_pure (s_isKind (d + 3) k x μ), es_br (fun q2 => es_rI ?_) (fun q2 => ?_)⟩
  · unfold es_make
    rw [qt, es_b_0.mp q2]
    exact ⟨rfl, h⟩
  have k1 : es_kn k x = true := Bool.of_not_eq_false (fun z => q2 (es_b_0.mpr z))
  have k2 := of_decide_eq_true k1
  obtain ⟨hr, hs1, hs2, hs3⟩ := h.1
  obtain ⟨kn, hkn, rfl⟩ : ∃ kn : Nat, kn ≤ 4 ∧ k = nI kn := ⟨k.toInt.toNat, by omega, es_nIof (by omega)⟩
  obtain ⟨xn, hxn, rfl⟩ : ∃ xn : Nat, xn ≤ 39 ∧ x = nI xn := ⟨x.toInt.toNat, by omega, es_nIof (by omega)⟩
  rw [hs1]
  obtain ⟨μ1, hC, hf1, hr1⟩ := s_become (d + 1) (p := 200) hkn hxn hs3.2.1 (by omega) μ
  refine ⟨_, hC, ?_⟩
  have h1 : es_C μ1 A := h.scr (hf1.mono (fun z hz => by unfold es_2 at hz; omega))
  obtain ⟨r, μ2, hD, he, hc⟩ := s_settle d h1 hr1 (by omega) (by omega) q1.1 q1.2
  refine ⟨_, _, hD, es_rI ?_⟩
  unfold es_make
  rw [qt, k1, nI_toInt (by omega), nI_toInt (by omega)]
  refine ⟨he.trans ?_, hc⟩
  show nI (es_kd kn xn A.1.2.1).length = nI A.1.2.1
  unfold es_kd
  rw [es_ls_len]
/-- a change of series: a refusal, or a list -/
abbrev es_RL : Type := Int32 ⊕ List Int
def es_wr (n : Nat) (f : Nat → Int) : es_RL := if es_wd f n = true then .inl (-1000005) else .inr (es_ls n f)
def es_jr (act : Nat) (l1 l2 : List Int) : es_RL :=
  if act = 0 then es_wr (min l1.length l2.length) (fun k => l1.getD k 0 + l2.getD k 0)
  else if act = 1 then es_wr (min l1.length l2.length) (fun k => l1.getD k 0 - l2.getD k 0)
  else if act = 2 then es_wr (min l1.length l2.length) (es_cv (fun k => l1.getD k 0) (fun k => l2.getD k 0))
  else if l2.getD 0 0 = 1 ∨ l2.getD 0 0 = -1 then es_wr (min l1.length l2.length) (es_qf (fun k => l1.getD k 0) (fun k => l2.getD k 0) (l2.getD 0 0))
  else .inl (-1000006)
/-- what a row is when it has become o -/
def es_got (S : Nat → Prop) (p : Nat) (o : es_RL) (μ : mz_M) (r : Int32) (μ' : mz_M) : Prop := es_fr S μ μ' ∧ match o with
  | .inl c => r = c ∧ c ≠ 0
  | .inr l => r = 0 ∧ es_row μ' p l
theorem es_res.got {p n : Nat} {f : Nat → Int} {μ μ' : mz_M} {r : Int32} (h : es_res p n f μ r μ') : es_got (es_2 p) p (es_wr n f) μ r μ' := by
  obtain ⟨h1, h2⟩ := h
  unfold es_wr
  rcases h2 with ⟨a, b⟩ | ⟨a, b, c⟩
  · rw [if_pos a]
    exact ⟨h1, b, by decide +kernel⟩
  · rw [if_neg (by rw [a]; decide)]
    exact ⟨h1, b, c⟩
theorem es_jn.got {p a : Nat} {l1 l2 : List Int} {μ μ' : mz_M} {r : Int32} (ha : a < 4) (h : es_jn p (nI a) l1 l2 μ r μ') : es_got (es_2 p) p (es_jr a l1 l2) μ r μ' := by
  have aq : ∀ c : Nat, c < 10 → (nI a = nI c ↔ a = c) := fun c hc => nI_eq (by omega) (by omega)
  unfold es_jn at h
  unfold es_jr
  by_cases e0 : a = 0
  · rw [if_pos e0]
    exact (mz_ite_t h ((aq 0 (by omega)).mpr e0)).got
  · have h := mz_ite_f h (fun z => e0 ((aq 0 (by omega)).mp z))
    rw [if_neg e0]
    by_cases e1 : a = 1
    · rw [if_pos e1]
      exact (mz_ite_t h ((aq 1 (by omega)).mpr e1)).got
    · have h := mz_ite_f h (fun z => e1 ((aq 1 (by omega)).mp z))
      rw [if_neg e1]
      by_cases e2 : a = 2
      · rw [if_pos e2]
        exact (mz_ite_t h ((aq 2 (by omega)).mpr e2)).got
      · have h := mz_ite_f h (fun z => e2 ((aq 2 (by omega)).mp z))
        rw [if_neg e2]
        rcases h with ⟨c1, c2, c3⟩ | ⟨c1, c2⟩
        · rw [if_neg c1, c3]
          exact ⟨es_fr.rf, c2, by decide +kernel⟩
        · rw [if_pos c1]
          exact c2.got
/-- the answer to what became o, put at s -/
def es_out (A : es_A) (s : Nat) (o : es_RL) : Int32 × es_A := match o with
  | .inl c => (c, A)
  | .inr l => (nI l.length, es_kp A s l)
/-- what became o in a row for work is put in its place -/
theorem s_fin (d : Nat) {x : Int32} {p : Nat} {S : Nat → Prop} {μ0 μ : mz_M} {A : es_A} {o : es_RL} {r : Int32} (h : es_C μ0 A) (hg : es_got S p o μ0 r μ) (hS : ∀ z, S z → 150 ≤ z ∧ z < 204) (hp : 150 ≤ p) (hp2 : p + 1 < 204) (h0 : 0 ≤ x.toInt) (h4 : x.toInt < 4) :
    if r = 0 then (∃ (r16 : Int32) (μ15 : mz_M), es_R (d + 4) n_ES_settle [mz_R 0 0, mz_I x, mz_R 3 p] μ (some (mz_I r16)) μ15 ∧ es_qI (es_ans (es_out A x.toInt.toNat o)) (some (mz_I r16)) μ15) else es_qI (es_ans (es_out A x.toInt.toNat o)) (some (mz_I r)) μ := by
  obtain ⟨hf, hm⟩ := hg
  have h1 := h.scr (hf.mono hS)
  cases o with
  | inl c =>
    refine es_f (by rw [hm.1]; exact hm.2) (es_rI ⟨hm.1, h1⟩)
  | inr l =>
    refine es_t hm.1 ?_
    obtain ⟨r2, μ2, hD, he⟩ := s_settle d h1 hm.2 hp hp2 h0 h4
    exact ⟨_, _, hD, es_rI he⟩
def es_join (A : es_A) (s act a b : Int32) : Int32 × es_A :=
  if es_4ok s = true ∧ es_4ok act = true ∧ es_4ok a = true ∧ es_4ok b = true then
    (if es_sl A a = [] ∨ es_sl A b = [] then (-1000011, A) else es_out A s.toInt.toNat (es_jr act.toInt.toNat (es_sl A a) (es_sl A b)))
  else (-1000001, A)
theorem c_join (d : Nat) {μ : mz_M} {A : es_A} (h : es_C μ A) (s act a b : Int32) : es_I (d + 5) n_ES_join [mz_R 0 0, mz_I s, mz_I act, mz_I a, mz_I b] μ (es_ans (es_join A s act a b)) := by
  refine es_I.mk (w_ES_join_0 0 s act a b μ ?_)
  have bad : ¬ (es_4ok s = true ∧ es_4ok act = true ∧ es_4ok a = true ∧ es_4ok b = true) → es_qI (es_ans (es_join A s act a b)) (some (mz_I (-1000001))) μ := by
    intro z
    unfold es_join
    rw [if_neg z]
    exact es_rI ⟨rfl, h⟩
  refine ⟨_, _, es_pure (s_isFour (d + 3) s μ), es_br (fun q => bad (fun z => es_bf q (of_decide_eq_true z.1))) (fun q => ?_)⟩
  refine ⟨_, _, es_pure (s_isFour (d + 3) act μ), es_br (fun q => bad (fun z => es_bf q (of_decide_eq_true z.2.1))) (fun q2 => ?_)⟩
  refine ⟨_, _, es_pure (s_isFour (d + 3) a μ), es_br (fun q => bad (fun z => es_bf q (of_decide_eq_true z.2.2.1))) (fun q3 => ?_)⟩
  refine ⟨_, _, es_pure (s_isFour (d + 3) b μ), es_br (fun q => bad (fun z => es_bf q (of_decide_eq_true z.2.2.2))) (fun q4 => ?_)⟩
  have b1 := es_bt q
  have b2 := es_bt q2
  have b3 := es_bt q3
  have b4 := es_bt q4
  have hall : es_4ok s = true ∧ es_4ok act = true ∧ es_4ok a = true ∧ es_4ok b = true := ⟨decide_eq_true b1, decide_eq_true b2, decide_eq_true b3, decide_eq_true b4⟩
  unfold es_join
  rw [if_pos hall]
  refine ⟨_, _, es_pure (s_missing (d + 2) h.1 b3.1 b3.2), es_br (fun q5 => ?_) (fun q5 => es_rI ?_)⟩
  · have q5 := es_bf q5
    refine ⟨_, _, es_pure (s_missing (d + 2) h.1 b4.1 b4.2), es_br (fun q6 => ⟨es_in b3.1 b3.2, es_in b4.1 b4.2, ?_⟩) (fun q6 => es_rI ?_)⟩
    · have q6 := es_bf q6
      obtain ⟨an, han, rfl⟩ : ∃ an : Nat, an < 4 ∧ act = nI an := ⟨act.toInt.toNat, by omega, es_nIof b2.1⟩
      obtain ⟨r, μ1, hC, hj⟩ := s_joined d (p := 200) (act := nI an) (h.row b3.1 b3.2) (h.row b4.1 b4.2) (by unfold es_sep; omega) (by unfold es_sep; omega)
      refine ⟨_, _, hC, ?_⟩
      rw [if_neg (show ¬ (es_sl A a = [] ∨ es_sl A b = []) from fun z => z.elim q5 q6), nI_toInt (by omega)]
      exact s_fin d h (es_jn.got han hj) (fun z hz => by unfold es_2 at hz; omega) (by omega) (by omega) b1.1 b1.2
    · have q6 := es_bt q6
      rw [if_pos (show es_sl A a = [] ∨ es_sl A b = [] from Or.inr q6)]
      exact ⟨rfl, h⟩
  · have q5 := es_bt q5
    rw [if_pos (show es_sl A a = [] ∨ es_sl A b = [] from Or.inl q5)]
    exact ⟨rfl, h⟩
