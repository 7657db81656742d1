/-! change, out, length, type, undo, seed, term, count, image, restore, drift of the class. -/
def es_cr (a : Nat) (v : Int) (l : List Int) : es_RL :=
  if a = 3 then (if l.length ≤ v.toNat % 10 then .inl (-1000002) else .inr (es_ls ((l.length - v.toNat % 10 + v.toNat / 10 - 1) / (v.toNat / 10)) (fun k => l.getD (v.toNat % 10 + k * (v.toNat / 10)) 0)))
  else if a = 5 then (if es_pwd l.length (fun k => l.getD k 0) v.toNat = true then .inl (-1000005) else .inr (es_ls l.length (es_pwf (fun k => l.getD k 0) v.toNat)))
  else es_wr (if a = 4 then v.toNat else l.length) (es_cf a v l)
def es_change (A : es_A) (s a v : Int32) : Int32 × es_A :=
  if es_4ok s = true ∧ es_chk a v = true then
    (if es_sl A s = [] then (-1000011, A) else if a.toInt = 4 ∧ ((es_sl A s).length : Int) < v.toInt then (-1000001, A) else es_out A s.toInt.toNat (es_cr a.toInt.toNat v.toInt (es_sl A s)))
  else (-1000001, A)
set_option maxHeartbeats 1000000 in
theorem c_change (d : Nat) {μ : mz_M} {A : es_A} (h : es_C μ A) (s a v : Int32) : es_I (d + 5) n_ES_change [mz_R 0 0, mz_I s, mz_I a, mz_I v] μ (es_ans (es_change A s a v)) := by
  refine es_I.mk (w_ES_change_0 0 s a v μ ?_)
  have bad : ¬ (es_4ok s = true ∧ es_chk a v = true) → es_qI (es_ans (es_change A s a v)) (some (mz_I (-1000001))) μ := by
    intro z
    unfold es_change
    rw [if_neg z]
    exact es_rI ⟨rfl, h⟩
  refine ⟨_, _, es_pure (s_isFour (d + 3) s μ), es_br (fun q => bad (fun z => es_bf q (of_decide_eq_true z.1))) (fun q => ?_)⟩
  have b1 := es_bt q
  refine ⟨_, _, es_pure (s_isChange (d + 2) a v μ), es_br (fun q => bad (fun z => by rw [es_b_0] at q; rw [q] at z; cases z.2)) (fun q2 => ?_)⟩
  have k1 : es_chk a v = true := Bool.of_not_eq_false (fun z => q2 (es_b_0.mpr z))
  have k2 := of_decide_eq_true k1
  have hall : es_4ok s = true ∧ es_chk a v = true := ⟨decide_eq_true b1, k1⟩
  unfold es_change
  rw [if_pos hall]
  refine ⟨_, _, es_pure (s_missing (d + 2) h.1 b1.1 b1.2), es_br (fun q5 => ⟨es_in b1.1 b1.2, ?_⟩) (fun q5 => es_rI ?_)⟩
  · have q5 := es_bf q5
    have hrow := h.row b1.1 b1.2
    have h40 := hrow.1.1
    have hsz : μ.1 (3 + 2 * s.toNatClampNeg) 1 = nI (es_sl A s).length := hrow.2.1
    rw [if_neg (show ¬ es_sl A s = [] from q5)]
    obtain ⟨an, han, rfl⟩ : ∃ an : Nat, an < 7 ∧ a = nI an := ⟨a.toInt.toNat, by omega, es_nIof (by omega)⟩
    have hai : (nI an).toInt = an := nI_toInt (by omega)
    rw [hai] at k2
    have aq : ∀ c : Nat, c < 10 → (nI an = nI c ↔ an = c) := fun c hc => nI_eq (by omega) (by omega)
    have sep1 : es_sep 200 (3 + 2 * s.toInt.toNat) := by unfold es_sep; omega
    -- what the two makers give
    have pw : an = 5 → ∃ (r : Int32) (μ' : mz_M), es_R (d + 4) n_Row_becomePower [mz_R 3 200, mz_R 3 (3 + 2 * s.toNatClampNeg), mz_I v, mz_R 3 202] μ (some (mz_I r)) μ' ∧ es_got (es_4 200 202) 200 (es_cr an v.toInt (es_sl A s)) μ r μ' := by
      intro e
      subst e
      obtain ⟨w, hw, rfl⟩ : ∃ w : Nat, w ≤ 8 ∧ v = nI w := ⟨v.toInt.toNat, by omega, es_nIof (by omega)⟩
      obtain ⟨r, μ', hC, hf, hp⟩ := s_power d (p := 200) (p3 := 202) (v := w) hrow sep1 (by unfold es_sep; omega) (by unfold es_sep; omega) (by omega)
      refine ⟨r, μ', hC, hf, ?_⟩
      unfold es_cr
      rw [if_neg (by decide), if_pos rfl, nI_toInt (by omega)]
      show match (if es_pwd (es_sl A s).length (fun k => (es_sl A s).getD k 0) w = true then Sum.inl (-1000005) else Sum.inr (es_ls (es_sl A s).length (es_pwf (fun k => (es_sl A s).getD k 0) w)) : es_RL) with
        | .inl c => r = c ∧ c ≠ 0
        | .inr l => r = 0 ∧ es_row μ' 200 l
      rcases hp with ⟨c1, c2⟩ | ⟨c1, c2, c3⟩
      · rw [if_pos c1]
        exact ⟨c2, by decide +kernel⟩
      · rw [if_neg (by rw [c1]; decide)]
        exact ⟨c2, c3⟩
    have ch : an ≠ 5 → (an = 4 → v.toInt ≤ (es_sl A s).length) → ∃ (r : Int32) (μ' : mz_M), es_R (d + 4) n_Row_becomeChanged [mz_R 3 200, mz_I (nI an), mz_I v, mz_R 3 (3 + 2 * s.toNatClampNeg)] μ (some (mz_I r)) μ' ∧ es_got (es_2 200) 200 (es_cr an v.toInt (es_sl A s)) μ r μ' := by
      intro e e4
      by_cases e3 : an = 3
      · subst e3
        obtain ⟨w, hw, rfl⟩ : ∃ w : Nat, (10 ≤ w ∧ w < 90 ∧ w % 10 < w / 10) ∧ v = nI w := ⟨v.toInt.toNat, by omega, es_nIof (by omega)⟩
        obtain ⟨r, μ', hC, hf, hp⟩ := s_pick (d + 0) (p := 200) (m := w / 10) (r := w % 10) hrow sep1 (by omega) (by omega) (by omega)
        have hC' : es_I (d + 4) n_Row_becomeChanged [mz_R 3 200, mz_I (nI 3), mz_I (nI w), mz_R 3 (3 + 2 * s.toNatClampNeg)] μ (fun r2 μ2 => r2 = r ∧ μ2 = μ') := by
          refine es_I.mk (w_Row_becomeChanged_0 200 _ _ _ μ (es_t rfl ⟨by decide +kernel, by decide +kernel, ?_⟩))
          have d1 : (nI w / 10) = nI (w / 10) := pk_div (d := 10) (by omega) (by omega) (by omega)
          have d2 : (nI w - nI w / 10 * 10) = nI (w % 10) := pk_rem (d := 10) (by omega) (by omega) (by omega)
          rw [d2, d1]
          exact ⟨_, _, hC, es_rI ⟨rfl, rfl⟩⟩
        obtain ⟨r2, μ2, hD, rfl, rfl⟩ := hC'
        refine ⟨_, _, hD, hf, ?_⟩
        unfold es_cr
        rw [if_pos rfl, nI_toInt (by omega)]
        show match (if (es_sl A s).length ≤ w % 10 then Sum.inl (-1000002) else Sum.inr (es_ls (((es_sl A s).length - w % 10 + w / 10 - 1) / (w / 10)) (fun k => (es_sl A s).getD (w % 10 + k * (w / 10)) 0)) : es_RL) with
          | .inl c => r2 = c ∧ c ≠ 0
          | .inr l => r2 = 0 ∧ es_row μ2 200 l
        rcases hp with ⟨c1, c2⟩ | ⟨c1, c2, c3⟩
        · rw [if_pos c1]
          exact ⟨c2, by decide +kernel⟩
        · rw [if_neg (by omega)]
          exact ⟨c2, c3⟩
      · obtain ⟨r, μ', hC, hp⟩ := s_changed (d + 1) (p := 200) (act := an) (v := v) hrow sep1 (by omega)
        refine ⟨r, μ', hC, ?_⟩
        unfold es_cr
        rw [if_neg e3, if_neg e]
        exact hp.got
    have g4 : ∀ z, es_4 200 202 z → 150 ≤ z ∧ z < 204 := fun z hz => by unfold es_4 es_2 at hz; omega
    have g2 : ∀ z, es_2 200 z → 150 ≤ z ∧ z < 204 := fun z hz => by unfold es_2 at hz; omega
    rw [hai]
    refine es_br (fun q6 => ?_) (fun q6 => ?_)
    · have q6 := (aq 4 (by omega)).mp q6
      refine es_br (fun q7 => es_f (fun z => absurd ((aq 5 (by omega)).mp z) (by omega)) ?_) (fun q7 => es_rI ?_)
      · rw [hsz] at q7
        have q7 := (es_len _ (by omega)).mp q7
        obtain ⟨r, μ', hC, hg⟩ := ch (by omega) (fun _ => q7)
        refine ⟨_, _, hC, ?_⟩
        rw [if_neg (show ¬ ((an : Int) = 4 ∧ ((es_sl A s).length : Int) < v.toInt) by omega)]
        exact s_fin d h hg g2 (by omega) (by omega) b1.1 b1.2
      · rw [hsz] at q7
        have q7 := es_nlen _ (by omega) q7
        rw [if_pos (show (an : Int) = 4 ∧ ((es_sl A s).length : Int) < v.toInt by omega)]
        exact ⟨rfl, h⟩
    · have q6 : an ≠ 4 := fun z => q6 ((aq 4 (by omega)).mpr z)
      rw [if_neg (show ¬ ((an : Int) = 4 ∧ ((es_sl A s).length : Int) < v.toInt) by omega)]
      refine es_br (fun q7 => ?_) (fun q7 => ?_)
      · obtain ⟨r, μ', hC, hg⟩ := pw ((aq 5 (by omega)).mp q7)
        exact ⟨_, _, hC, s_fin d h hg g4 (by omega) (by omega) b1.1 b1.2⟩
      · obtain ⟨r, μ', hC, hg⟩ := ch (fun z => q7 ((aq 5 (by omega)).mpr z)) (fun z => absurd z q6)
        exact ⟨_, _, hC, s_fin d h hg g2 (by omega) (by omega) b1.1 b1.2⟩
  · have q5 := es_bt q5
    rw [if_pos (show es_sl A s = [] from q5)]
    exact ⟨rfl, h⟩
def es_outA (A : es_A) (s : Int32) : Int32 × es_A := if es_4ok s = true then (if es_sl A s = [] then (-1000011, A) else (nI (es_sl A s).length, es_kp A s.toInt.toNat [])) else (-1000001, A)
theorem c_out (d : Nat) {μ : mz_M} {A : es_A} (h : es_C μ A) (s : Int32) : es_I (d + 5) n_ES_out [mz_R 0 0, mz_I s] μ (es_ans (es_outA A s)) := by
  refine es_I.mk (w_ES_out_0 0 s μ ?_)
  refine ⟨_, _, es_pure (s_isFour (d + 3) s μ), es_br (fun q => es_rI ?_) (fun q => ?_)⟩
  · have : es_4ok s = false := es_b_0.mp q
    unfold es_outA
    rw [this]
    exact ⟨rfl, h⟩
  have b1 := es_bt q
  have qt : es_4ok s = true := decide_eq_true b1
  unfold es_outA
  rw [if_pos qt]
  refine ⟨_, _, es_pure (s_missing (d + 2) h.1 b1.1 b1.2), es_br (fun q5 => ⟨es_in b1.1 b1.2, ?_⟩) (fun q5 => es_rI ?_)⟩
  · have q5 := es_bf q5
    rw [if_neg (show ¬ es_sl A s = [] from q5)]
    have hrow := h.row b1.1 b1.2
    obtain ⟨μ1, hC, hf1, hu⟩ := s_remember (d + 1) (P := 11) (q := 1) h.2.1 h.1 (by omega)
    refine ⟨_, hC, es_in b1.1 b1.2, ?_⟩
    have hn1 := h.1.kept hf1 (fun z a b c => by unfold es_bk at c; omega)
    obtain ⟨μ2, hD, hf2, hr2⟩ := s_begin (d + 2) (p := 3 + 2 * s.toInt.toNat) (n := 0) (by omega) μ1
    refine ⟨_, hD, es_rI ⟨hrow.2.1, ?_⟩⟩
    have hr3 : es_row μ2 (3 + 2 * s.toInt.toNat) [] := hr2.row rfl (fun k hk => by omega) (fun k hk => by omega)
    refine h.chg (hf1.mono (fun z hz => ?_) |>.tr (hf2.mono (fun z hz => ?_))) (es_sr_sh hn1 (by omega) hf2 hr3) (hu.kept hf2 (fun z a b c => ?_))
    · unfold es_bk at hz; unfold es_wk; omega
    · unfold es_2 at hz; unfold es_wk; omega
    · unfold es_2 at c; omega
  · have q5 := es_bt q5
    rw [if_pos (show es_sl A s = [] from q5)]
    exact ⟨rfl, h⟩
def es_length (A : es_A) (v : Int32) : Int32 × es_A := if v.toInt < 4 ∨ 40 < v.toInt then (-1000001, A) else if v.toInt = A.1.2.1 then (-1000002, A) else (nI A.1.2.1, ((A.1.1, v.toInt.toNat, A.1.2.2), (A.1 :: A.2.1).take 6, A.2.2))
theorem c_length (d : Nat) {μ : mz_M} {A : es_A} (h : es_C μ A) (v : Int32) : es_I (d + 4) n_ES_length [mz_R 0 0, mz_I v] μ (es_ans (es_length A v)) := by
  have hs := h.1.2
  refine es_I.mk (w_ES_length_0 0 v μ (es_br (fun q => es_rI ?_) (fun q => es_br (fun q2 => es_br (fun q3 => es_rI ?_) (fun q3 => ?_)) (fun q2 => es_rI ?_))))
  · have q := (es_ltn 4 (by omega)).mp q
    unfold es_length
    rw [if_pos (by omega)]
    exact ⟨rfl, h⟩
  · have q := es_nltn 4 (by omega) q
    have q2 := (es_len 40 (by omega)).mp q2
    rw [hs.1] at q3
    have q3 := (es_eqn _ (by omega)).mp q3
    unfold es_length
    rw [if_neg (by omega), if_pos q3]
    exact ⟨rfl, h⟩
  · have q := es_nltn 4 (by omega) q
    have q2 := (es_len 40 (by omega)).mp q2
    rw [hs.1] at q3
    have q3 := es_neqn _ (by omega) q3
    unfold es_length
    rw [if_neg (by omega), if_neg q3]
    obtain ⟨μ1, hC, hf1, hu⟩ := s_remember d (P := 11) (q := 1) h.2.1 h.1 (by omega)
    refine ⟨_, hC, es_rI ⟨hs.1, ?_⟩⟩
    have hn1 := h.1.kept hf1 (fun z a b c => by unfold es_bk at c; omega)
    have hw : es_fr (fun z => z = 1) μ1 (mz_wI μ1 1 1 v) := es_fw1
    refine h.chg ((hf1.mono (fun z hz => ?_)).tr (hw.mono (fun z hz => ?_))) ⟨fun k hk => (hn1.1 k hk).kept hw (by omega) (by omega), ?_, ?_, ?_⟩ (hu.kept hw (fun z a b => by omega))
    · unfold es_bk at hz; unfold es_wk; omega
    · unfold es_wk; omega
    · rw [mz_wI_at, if_pos ⟨rfl, rfl⟩]
      exact es_nIof (by omega)
    · rw [mz_wI_at, if_neg (by omega)]
      exact hn1.2.2.1
    · exact ⟨show 4 ≤ v.toInt.toNat by omega, show v.toInt.toNat ≤ 40 by omega, hs.2.2.2.2⟩
  · have q2 := es_nlen 40 (by omega) q2
    unfold es_length
    rw [if_pos (by omega)]
    exact ⟨rfl, h⟩
def es_seed (A : es_A) (v : Int32) : Int32 × es_A := if 0 ≤ v.toInt then (A.1.2.2, ((A.1.1, A.1.2.1, v), A.2)) else (-1000001, A)
theorem c_seed (d : Nat) {μ : mz_M} {A : es_A} (h : es_C μ A) (v : Int32) : es_I (d + 1) n_ES_seed [mz_R 0 0, mz_I v] μ (es_ans (es_seed A v)) := by
  have hs := h.1.2
  refine es_I.mk (w_ES_seed_0 0 v μ (es_br (fun q => es_rI ?_) (fun q => es_rI ?_)))
  · have q := (es_gen 0 (by omega)).mp q
    unfold es_seed
    rw [if_pos (by omega)]
    have hw : es_fr (fun z => z = 1) μ (mz_wI μ 1 2 v) := es_fw1
    refine ⟨hs.2.1, h.chg (hw.mono (fun z hz => ?_)) ⟨fun k hk => (h.1.1 k hk).kept hw (by omega) (by omega), ?_, ?_, hs.2.2.1, hs.2.2.2.1, ?_⟩ (h.2.1.kept hw (fun z a b => by omega))⟩
    · unfold es_wk; omega
    · rw [mz_wI_at, if_neg (by omega)]
      exact hs.1
    · rw [mz_wI_at, if_pos ⟨rfl, rfl⟩]
    · exact q
  · have q := es_ngen 0 (by omega) q
    unfold es_seed
    rw [if_neg (by omega)]
    exact ⟨rfl, h⟩
def es_undo (A : es_A) : Int32 × es_A := match A.2.1 with
  | [] => (-1000004, A)
  | S :: U => (nI U.length, (S, U, A.2.2))
theorem c_undo (d : Nat) {μ : mz_M} {A : es_A} (h : es_C μ A) : es_I (d + 4) n_ES_undo [mz_R 0 0] μ (es_ans (es_undo A)) := by
  refine es_I.mk (w_ES_undo_0 0 μ ?_)
  obtain ⟨r, μ1, hC, hb⟩ := s_bringBack d (P := 11) (q := 1) h.2.1 (by omega)
  refine ⟨_, _, hC, ?_⟩
  unfold es_undo
  unfold es_bb at hb
  cases hU : A.2.1 with
  | nil =>
    rw [hU] at hb
    obtain ⟨h1, h2⟩ := hb
    refine es_t h1 (es_rI ⟨rfl, ?_⟩)
    rw [h2]
    exact h
  | cons S V =>
    rw [hU] at hb
    obtain ⟨h1, h2, h3, h4⟩ := hb
    refine es_f (by rw [h1]; decide +kernel) (es_rI ⟨?_, h.chg (h2.mono (fun z hz => ?_)) h3 h4⟩)
    · obtain ⟨nx, R, a1, a2, a3, -⟩ := h4
      exact a3
    · unfold es_bk at hz; unfold es_wk; omega
def es_term (A : es_A) (s k : Int32) : Int32 := if es_4ok s = true ∧ 0 ≤ k.toInt then (if es_sl A s = [] then -1000011 else if ((es_sl A s).length : Int) ≤ k.toInt then -1000001 else Int32.ofInt ((es_sl A s).getD k.toInt.toNat 0)) else -1000001
theorem es_ofI {x : Int32} {a : Int} (h : x.toInt = a) : x = Int32.ofInt a := by
  rw [← h, Int32.ofInt_toInt]
theorem c_term (d : Nat) {μ : mz_M} {A : es_A} (h : es_C μ A) (s k : Int32) : es_I (d + 3) n_ES_term [mz_R 0 0, mz_I s, mz_I k] μ (es_ans (es_term A s k, A)) := by
  refine es_I.mk (w_ES_term_0 0 s k μ ?_)
  refine ⟨_, _, es_pure (s_isFour (d + 1) s μ), es_br (fun q => es_rI ⟨?_, h⟩) (fun q => es_br (fun q2 => ?_) (fun q2 => es_rI ⟨?_, h⟩))⟩
  · have : es_4ok s = false := es_b_0.mp q
    unfold es_term
    rw [this, if_neg (fun z => by cases z.1)]
  · have b1 := es_bt q
    have q2 := (es_gen 0 (by omega)).mp q2
    have hall : es_4ok s = true ∧ 0 ≤ k.toInt := ⟨decide_eq_true b1, q2⟩
    unfold es_term
    rw [if_pos hall]
    refine ⟨_, _, es_pure (s_missing d h.1 b1.1 b1.2), es_br (fun q5 => ⟨es_in b1.1 b1.2, ?_⟩) (fun q5 => es_rI ⟨?_, h⟩)⟩
    · have q5 := es_bf q5
      have hrow := h.row b1.1 b1.2
      have h40 := hrow.1.1
      have hsz : μ.1 (3 + 2 * s.toNatClampNeg) 1 = nI (es_sl A s).length := hrow.2.1
      rw [if_neg (show ¬ es_sl A s = [] from q5)]
      refine es_br (fun q6 => es_rI ⟨?_, h⟩) (fun q6 => ?_)
      · rw [hsz] at q6
        have q6 := (es_gen _ (by omega)).mp q6
        rw [if_pos q6]
      · rw [hsz] at q6
        have q6 := es_ngen _ (by omega) q6
        obtain ⟨r, hA, hr⟩ := es_pur (s_at (d + 1) (x := k) hrow)
        rw [if_pos hall.2] at hr
        refine ⟨_, _, hA, es_rI ⟨?_, h⟩⟩
        rw [if_neg (by omega)]
        exact es_ofI hr
    · have q5 := es_bt q5
      rw [if_pos (show es_sl A s = [] from q5)]
  · have q2 := es_ngen 0 (by omega) q2
    unfold es_term
    rw [if_neg (fun z => by have := z.2; omega)]
def es_count (A : es_A) (w : Int32) : Int32 := if w.toInt = 0 then nI A.1.2.1 else if w.toInt = 1 then es_pr A.1 4 else if 2 ≤ w.toInt ∧ w.toInt ≤ 5 then nI (A.1.1 (w.toInt.toNat - 2)).length else if w.toInt = 6 then A.2.2.2.2.1.1 else if w.toInt = 7 then A.2.2.2.2.1.2 else if w.toInt = 8 then nI A.2.1.length else -1000001
theorem c_count (d : Nat) {μ : mz_M} {A : es_A} (h : es_C μ A) (w : Int32) : es_I (d + 2) n_ES_count [mz_R 0 0, mz_I w] μ (es_ans (es_count A w, A)) := by
  have hs := h.1.2
  have mid : ∀ c : Nat, 2 ≤ c → c ≤ 5 → w = nI c → vp_in (w - 2) 4 ∧ (es_qI (es_ans (es_count A w, A)) (some (mz_I (μ.1 (3 + 2 * (w - 2 : Int32).toNatClampNeg) 1))) μ) := by
    intro c h2 h5 hw
    have hwi := (es_eqn c (by omega)).mp hw
    have e : w - 2 = nI (c - 2) := by rw [hw, show (2 : Int32) = nI 2 from rfl, pk_sub h2]
    rw [e, es_clamp (by omega)]
    refine ⟨vp_in_nI (by omega) (by omega), es_rI ⟨?_, h⟩⟩
    unfold es_count
    rw [if_neg (by omega), if_neg (by omega), if_pos (by omega), hwi]
    exact (h.1.1 (c - 2) (by omega)).2.1
  refine es_I.mk (w_ES_count_0 0 w μ (es_br (fun q => es_rI ⟨?_, h⟩) (fun q0 => es_br (fun q => ⟨_, _, es_pure (s_present d h.1), es_rI ⟨?_, h⟩⟩) (fun q1 => es_br (fun q => mid 2 (by omega) (by omega) q) (fun q2 => es_br (fun q => mid 3 (by omega) (by omega) q) (fun q3 => es_br (fun q => mid 4 (by omega) (by omega) q) (fun q4 => es_br (fun q => mid 5 (by omega) (by omega) q) (fun q5 => es_br (fun q => es_rI ⟨?_, h⟩) (fun q6 => es_br (fun q => es_rI ⟨?_, h⟩) (fun q7 => es_br (fun q => es_rI ⟨?_, h⟩) (fun q8 => es_rI ⟨?_, h⟩)))))))))))
  all_goals unfold es_count
  · have q := (es_eqn 0 (by omega)).mp q
    rw [if_pos (by omega)]
    exact hs.1
  · have q := (es_eqn 1 (by omega)).mp q
    rw [if_neg (by omega), if_pos (by omega)]
  · have q := (es_eqn 6 (by omega)).mp q
    rw [if_neg (by omega), if_neg (by omega), if_neg (by omega), if_pos (by omega)]
    exact h.2.2.2.2.1.1
  · have q := (es_eqn 7 (by omega)).mp q
    rw [if_neg (by omega), if_neg (by omega), if_neg (by omega), if_neg (by omega), if_pos (by omega)]
    exact h.2.2.2.2.1.2
  · have q := (es_eqn 8 (by omega)).mp q
    rw [if_neg (by omega), if_neg (by omega), if_neg (by omega), if_neg (by omega), if_neg (by omega), if_pos (by omega)]
    obtain ⟨nx, R, a1, a2, a3, -⟩ := h.2.1
    exact a3
  · have q0 := es_neqn 0 (by omega) q0
    have q1 := es_neqn 1 (by omega) q1
    have q2 := es_neqn 2 (by omega) q2
    have q3 := es_neqn 3 (by omega) q3
    have q4 := es_neqn 4 (by omega) q4
    have q5 := es_neqn 5 (by omega) q5
    have q6 := es_neqn 6 (by omega) q6
    have q7 := es_neqn 7 (by omega) q7
    have q8 := es_neqn 8 (by omega) q8
    rw [if_neg (by omega), if_neg (by omega), if_neg (by omega), if_neg (by omega), if_neg (by omega), if_neg (by omega)]
def es_image (A : es_A) : Int32 × es_A := (1, (A.1, A.2.1, some (A.1, A.2.1), A.2.2.2))
theorem c_image (d : Nat) {μ : mz_M} {A : es_A} (h : es_C μ A) : es_I (d + 4) n_ES_image [mz_R 0 0] μ (es_ans (es_image A)) := by
  refine es_I.mk (w_ES_image_0 0 μ ?_)
  obtain ⟨μ1, hC, hf1, hs1⟩ := s_shtake (d + 1) (q := 73) h.1 (by omega)
  refine ⟨_, hC, ?_⟩
  obtain ⟨μ2, hD, hf2, hs2⟩ := s_takeAll d (P := 83) (h.2.1.kept hf1 (fun z a b c => by unfold es_bk at c; omega)) (by omega)
  refine ⟨_, hD, Or.inr rfl, es_rI ⟨rfl, ?_⟩⟩
  have hw : es_fr (fun z => z = 0) μ2 (mz_wI μ2 0 4 1) := es_fw1
  have hall : es_fr (fun z => z = 0 ∨ (73 ≤ z ∧ z < 145)) μ (mz_wI μ2 0 4 1) := ((hf1.mono (fun z hz => by unfold es_bk at hz; omega)).tr (hf2.mono (fun z hz => by unfold es_bk at hz; omega))).tr (hw.mono (fun z hz => Or.inl hz))
  obtain ⟨a1, a2, a3, a4, a5, a6⟩ := h
  refine ⟨a1.kept hall (fun z a b => by omega), a2.kept hall (fun z a b => by omega), ⟨by rw [mz_wI_at, if_pos ⟨rfl, rfl⟩], (hs1.kept hf2 (fun z a b c => by unfold es_bk at c; omega)).kept hw (fun z a b => by omega), hs2.kept hw (fun z a b => by omega)⟩, a4.kept hall (by omega) (by omega), ?_, fun k hk => (a6 k hk).kept hall (by omega) (by omega)⟩
  rw [(hall 145 (by omega)).1]
  exact a5
def es_restore (A : es_A) : Int32 × es_A := match A.2.2.1 with
  | none => (-1000004, A)
  | some q => (1, (q.1, q.2, A.2.2))
theorem c_restore (d : Nat) {μ : mz_M} {A : es_A} (h : es_C μ A) : es_I (d + 4) n_ES_restore [mz_R 0 0] μ (es_ans (es_restore A)) := by
  have him := h.2.2.1
  refine es_I.mk (w_ES_restore_0 0 μ ?_)
  unfold es_restore
  cases hK : A.2.2.1 with
  | none =>
    rw [hK] at him
    exact es_t him (es_rI ⟨rfl, h⟩)
  | some q =>
    rw [hK] at him
    obtain ⟨i1, i2, i3⟩ := him
    refine es_f (by rw [i1]; decide +kernel) ?_
    obtain ⟨μ1, hC, hf1, hs1⟩ := s_shtake (d + 1) (q := 1) i2 (by omega)
    refine ⟨_, hC, ?_⟩
    obtain ⟨μ2, hD, hf2, hs2⟩ := s_takeAll d (P := 11) (i3.kept hf1 (fun z a b c => by unfold es_bk at c; omega)) (by omega)
    refine ⟨_, hD, es_rI ⟨rfl, ?_⟩⟩
    refine h.chg ((hf1.mono (fun z hz => ?_)).tr (hf2.mono (fun z hz => ?_))) (hs1.kept hf2 (fun z a b c => by unfold es_bk at c; omega)) hs2
    · unfold es_bk at hz; unfold es_wk; omega
    · unfold es_bk at hz; unfold es_wk; omega
