/-! wrought and quotient of the class. -/
def es_wg (o : es_RL) (its : List Int64) (i n : Nat) : Bool := match o with
  | .inl _ => false
  | .inr l => es_bg its i l n && decide (n ≤ l.length)
def es_wg2 (l1 l2 : List Int) (its : List Int64) (i n : Nat) : Nat → Int32
  | 0 => 0
  | k + 1 => if es_wg (es_jr k l1 l2) its i n = true then es_wg2 l1 l2 its i n k ||| (1 <<< (nI k &&& 31)) else es_wg2 l1 l2 its i n k
def es_wrought (A : es_A) (a b s ln i n : Int32) : Int32 := if es_4ok a = true ∧ es_4ok b = true ∧ es_4ok s = true ∧ es_4ok ln = true ∧ 1 ≤ n.toInt ∧ n.toInt ≤ 12 then (if es_rf (es_ll A s) ln i n = 0 then (if es_sl A a = [] ∨ es_sl A b = [] then -1000002 else es_wg2 (es_sl A a) (es_sl A b) (es_its (es_ll A s)) i.toInt.toNat n.toInt.toNat 4) else es_rf (es_ll A s) ln i n) else -1000001
theorem c_wrought (d : Nat) {μ : mz_M} {A : es_A} (h : es_C μ A) (a b s ln i n : Int32) : es_I (d + 5) n_ES_wrought [mz_R 0 0, mz_I a, mz_I b, mz_I s, mz_I ln, mz_I i, mz_I n] μ (es_ans (es_wrought A a b s ln i n, A)) := by
  refine es_I.mk (w_ES_wrought_0 0 a b s ln i n μ ?_)
  have bad : ¬ (es_4ok a = true ∧ es_4ok b = true ∧ es_4ok s = true ∧ es_4ok ln = true ∧ 1 ≤ n.toInt ∧ n.toInt ≤ 12) → es_qI (es_ans (es_wrought A a b s ln i n, A)) (some (mz_I (-1000001))) μ := by
    intro z
    unfold es_wrought
    rw [if_neg z]
    exact es_rI ⟨rfl, h⟩
  refine ⟨_, _, es_pure (s_isFour (d + 3) a μ), es_br (fun q => bad (fun z => es_bf q (of_decide_eq_true z.1))) (fun q => ?_)⟩
  refine ⟨_, _, es_pure (s_isFour (d + 3) b μ), es_br (fun q => bad (fun z => es_bf q (of_decide_eq_true z.2.1))) (fun q2 => ?_)⟩
  refine ⟨_, _, es_pure (s_isFour (d + 3) s μ), es_br (fun q => bad (fun z => es_bf q (of_decide_eq_true z.2.2.1))) (fun q3 => ?_)⟩
  refine ⟨_, _, es_pure (s_isFour (d + 3) ln μ), es_br (fun q => bad (fun z => es_bf q (of_decide_eq_true z.2.2.2.1))) (fun q4 => ?_)⟩
  have b1 := es_bt q
  have b2 := es_bt q2
  have b3 := es_bt q3
  have b4 := es_bt q4
  refine es_br (fun q => bad (fun z => by have := (es_ltn 1 (by omega)).mp q; omega)) (fun q5 => es_br (fun q6 => ?_) (fun q => bad (fun z => by have := es_nlen 12 (by omega) q; omega)))
  have b5 := es_nltn 1 (by omega) q5
  have b6 := (es_len 12 (by omega)).mp q6
  have hl := h.lf b3.1 b3.2
  unfold es_wrought
  rw [if_pos (show es_4ok a = true ∧ es_4ok b = true ∧ es_4ok s = true ∧ es_4ok ln = true ∧ 1 ≤ n.toInt ∧ n.toInt ≤ 12 from ⟨decide_eq_true b1, decide_eq_true b2, decide_eq_true b3, decide_eq_true b4, by omega, by omega⟩)]
  refine ⟨es_in b3.1 b3.2, _, _, es_pure (s_refuse (d + 2) hl), es_br (fun q7 => ?_) (fun q7 => es_rI ⟨?_, h⟩)⟩
  · rw [if_pos q7]
    refine ⟨_, _, es_pure (s_missing (d + 2) h.1 b1.1 b1.2), es_br (fun q8 => ?_) (fun q8 => es_rI ⟨?_, h⟩)⟩
    · refine ⟨_, _, es_pure (s_missing (d + 2) h.1 b2.1 b2.2), es_br (fun q9 => ?_) (fun q9 => es_rI ⟨?_, h⟩)⟩
      · rw [if_neg (show ¬ (es_sl A a = [] ∨ es_sl A b = []) from fun z => z.elim (es_bf q8) (es_bf q9))]
        obtain ⟨l4, its, ho, e1, e2, e3, e4⟩ := es_rf_0 q7
        rw [ho] at hl
        have h40b := hl.2.2.2.1
        obtain ⟨iN, hi, rfl⟩ : ∃ iN : Nat, iN ≤ its.length ∧ i = nI iN := ⟨i.toInt.toNat, by omega, es_nIof e2⟩
        obtain ⟨nn, hn, rfl⟩ : ∃ nn : Nat, nn ≤ 12 ∧ n = nI nn := ⟨n.toInt.toNat, by omega, es_nIof (by omega)⟩
        rw [ho, nI_toInt (by omega), nI_toInt (by omega)]
        show v_ES_wrought (es_R (d + 4)) (es_qI (es_ans (es_wg2 (es_sl A a) (es_sl A b) its iN nn 4, A))) _
        have hs4 : s.toNatClampNeg < 4 := by show s.toInt.toNat < 4; omega
        have ha4 : a.toNatClampNeg < 4 := by show a.toInt.toNat < 4; omega
        have hb4 : b.toNatClampNeg < 4 := by show b.toInt.toNat < 4; omega
        have key : ∀ (g k : Nat) (μ' : mz_M), k + g = 4 → es_C μ' A → v_ES_wrought (es_R (d + 4)) (es_qI (es_ans (es_wg2 (es_sl A a) (es_sl A b) its iN nn 4, A))) (108, [(0, mz_R 0 0), (1, mz_I a), (2, mz_I b), (5, mz_I (nI iN)), (6, mz_I (nI nn)), (7, mz_R 14 (204 + 2 * s.toNatClampNeg)), (9, mz_I (es_wg2 (es_sl A a) (es_sl A b) its iN nn k)), (10, mz_I (nI k))], [], μ') := by
          intro g
          induction g with
          | zero =>
            intro k μ' hk hc
            have hk : k = 4 := by omega
            subst hk
            exact w_ES_wrought_108 0 _ _ _ _ _ _ _ μ' (es_t (nI_lt (a := 3) (by omega) (by omega)) (es_rI ⟨rfl, hc⟩))
          | succ g ih =>
            intro k μ' hk hc
            refine w_ES_wrought_108 0 _ _ _ _ _ _ _ μ' (es_f (nI_nlt (a := 3) (b := k) (by omega) (by omega)) ⟨es_in b1.1 b1.2, es_in b2.1 b2.2, ?_⟩)
            obtain ⟨r, μ1, hC, hj⟩ := s_joined d (p := 200) (act := nI k) (hc.row b1.1 b1.2) (hc.row b2.1 b2.2) (by unfold es_sep; omega) (by unfold es_sep; omega)
            obtain ⟨hf, hm⟩ := es_jn.got (by omega) hj
            have hc1 : es_C μ1 A := hc.scr (hf.mono (fun z hz => by unfold es_2 at hz; omega))
            have nx := fun x (hx : x = es_wg2 (es_sl A a) (es_sl A b) its iN nn (k + 1)) => hx ▸ ih (k + 1) μ1 (by omega) hc1
            refine ⟨_, _, hC, ?_⟩
            rw [nI_1]
            cases ho3 : es_jr k (es_sl A a) (es_sl A b) with
            | inl c =>
              rw [ho3] at hm
              refine es_f (by rw [hm.1]; exact hm.2) (nx _ ?_)
              show _ = if es_wg (es_jr k (es_sl A a) (es_sl A b)) its iN nn = true then _ else _
              rw [ho3]; rfl
            | inr l =>
              rw [ho3] at hm
              have hl1 := hc1.lf b3.1 b3.2
              rw [ho] at hl1
              refine es_t hm.1 ⟨_, _, es_pure (s_begins (d + 2) hl1 hm.2 (by omega) (by omega)), es_br (fun q => nx _ ?_) (fun q => nx _ ?_)⟩
              · rw [es_b_0] at q
                show _ = if es_wg (es_jr k (es_sl A a) (es_sl A b)) its iN nn = true then _ else _
                rw [ho3, if_neg (by show ¬ (es_bg its iN l nn && decide (nn ≤ l.length)) = true; rw [q]; decide)]
              · rw [es_b_0] at q
                show _ = if es_wg (es_jr k (es_sl A a) (es_sl A b)) its iN nn = true then _ else _
                rw [ho3, if_pos (show es_wg (.inr l) its iN nn = true from Bool.of_not_eq_false q)]
        exact key 4 0 μ (by omega) h
      · rw [if_pos (show (es_sl A a = [] ∨ es_sl A b = []) from Or.inr (es_bt q9))]
    · rw [if_pos (show (es_sl A a = [] ∨ es_sl A b = []) from Or.inl (es_bt q8))]
  · rw [if_neg q7]
/-- so many times joined with one list -/
def es_qp (act : Nat) (eu l : List Int) : Nat → es_RL
  | 0 => .inr l
  | t + 1 => match es_qp act eu l t with
    | .inl c => .inl c
    | .inr l2 => es_jr act l2 eu
def es_qa (e : Int) : Nat := if 0 < e then 2 else 3
def es_qn (its : List Int64) (i n : Nat) : Nat → es_RL
  | 0 => .inr (es_kd 0 0 n)
  | k + 1 => match es_qn its i n k with
    | .inl c => .inl c
    | .inr l => es_qp (es_qa (es_ee its i k)) (es_kd 3 (es_dd its i k).toNat n) l (es_ee its i k).natAbs
theorem es_qp_up {act : Nat} {eu l : List Int} {c : Int32} {t : Nat} : ∀ {s : Nat}, t ≤ s → es_qp act eu l t = .inl c → es_qp act eu l s = .inl c
  | 0, h, e => by
    have : t = 0 := by omega
    subst this; exact e
  | s + 1, h, e => by
    by_cases q : t = s + 1
    · subst q; exact e
    · show (match es_qp act eu l s with
        | .inl c => Sum.inl c
        | .inr l2 => es_jr act l2 eu) = _
      rw [es_qp_up (by omega) e]
theorem es_qn_up {its : List Int64} {i n : Nat} {c : Int32} {t : Nat} : ∀ {s : Nat}, t ≤ s → es_qn its i n t = .inl c → es_qn its i n s = .inl c
  | 0, h, e => by
    have : t = 0 := by omega
    subst this; exact e
  | s + 1, h, e => by
    by_cases q : t = s + 1
    · subst q; exact e
    · show (match es_qn its i n s with
        | .inl c => Sum.inl c
        | .inr l => es_qp (es_qa (es_ee its i s)) (es_kd 3 (es_dd its i s).toNat n) l (es_ee its i s).natAbs) = _
      rw [es_qn_up (by omega) e]
theorem es_qp_s {act : Nat} {eu l l2 : List Int} {t : Nat} (h : es_qp act eu l t = .inr l2) : es_qp act eu l (t + 1) = es_jr act l2 eu := by
  show (match es_qp act eu l t with
        | .inl c => Sum.inl c
        | .inr l2 => es_jr act l2 eu) = _
  rw [h]
theorem es_qn_s {its : List Int64} {i n : Nat} {l : List Int} {s : Nat} (h : es_qn its i n s = .inr l) : es_qn its i n (s + 1) = es_qp (es_qa (es_ee its i s)) (es_kd 3 (es_dd its i s).toNat n) l (es_ee its i s).natAbs := by
  show (match es_qn its i n s with
        | .inl c => Sum.inl c
        | .inr l => es_qp (es_qa (es_ee its i s)) (es_kd 3 (es_dd its i s).toNat n) l (es_ee its i s).natAbs) = _
  rw [h]
def es_6q : Nat → Prop := fun z => z = 153 ∨ z = 154 ∨ z = 157 ∨ z = 158 ∨ z = 161 ∨ z = 162
theorem es_v07 : vp_in 0 7 := show vp_in (nI 0) 7 from vp_in_nI (by decide) (by decide)
theorem s_workQuotient (d : Nat) {p i n t : Nat} {μ : mz_M} {ln : Nat} {its : List Int64} (h : es_lf μ p (some (ln, its))) (hp : 204 ≤ p) (hi : i ≤ 100) (hn : n ≤ 6) (ht1 : 1 ≤ t) (ht : t ≤ 40) (hok : es_okp its i n = true) :
    es_I (d + 5) n_Mill_workQuotient [mz_R 9 145, mz_R 14 p, mz_I (nI i), mz_I (nI n), mz_I (nI t)] μ (es_got es_6q 157 (es_qn its i t n) μ) := by
  refine es_I.mk (w_Mill_workQuotient_0 145 p _ _ _ μ ⟨es_v07, es_v07, ?_⟩)
  obtain ⟨μ1, hC, hf1, hr1⟩ := s_become (d + 1) (p := 157) (kind := 0) (dd := 0) (n := t) (by omega) (by omega) ht ht1 μ
  refine ⟨_, hC, ?_⟩
  have key : ∀ (g k : Nat) (μ' : mz_M) (l : List Int), k + g = n → es_fr es_6q μ μ' → es_row μ' 157 l → es_qn its i t k = .inr l → v_Mill_workQuotient (es_R (d + 4)) (es_qI (es_got es_6q 157 (es_qn its i t n) μ)) (28, [(0, mz_R 9 145), (1, mz_R 14 p), (2, mz_I (nI i)), (3, mz_I (nI n)), (4, mz_I (nI t)), (5, mz_R 3 157), (6, mz_R 3 161), (7, mz_I (nI k))], [], μ') := by
    intro g
    induction g with
    | zero =>
      intro k μ' l hk hf hr he
      have hk : k = n := by omega
      subst hk
      refine w_Mill_workQuotient_28 145 p _ _ _ 157 161 _ μ' (es_t (nI_le (by omega) (by omega)) (es_rI ⟨hf, ?_⟩))
      rw [he]
      exact ⟨rfl, hr⟩
    | succ g ih =>
      intro k μ' l hk hf hr he
      refine w_Mill_workQuotient_28 145 p _ _ _ 157 161 _ μ' (es_f (nI_ge (by omega) (by omega)) ?_)
      have hl := h.kept hf (fun c => by unfold es_6q at c; omega) (fun c => by unfold es_6q at c; omega)
      refine ⟨_, _, es_pure (s_exponent (d + 2) hl (by omega) (k := k) (by omega)), ?_⟩
      refine ⟨_, _, es_pure (s_divisor (d + 2) hl (by omega) (k := k) (by omega)), ?_⟩
      have bd := es_okp_bd hok (show k < n by omega)
      have ee : ((its.getD (i + 2 * k + 1) 0).toInt32).toInt = es_ee its i k := es_small rfl (by show -1000 ≤ es_ee its i k; omega) (by show es_ee its i k ≤ 1000; omega)
      have ed : ((its.getD (i + 2 * k) 0).toInt32).toInt = es_dd its i k := es_small rfl (by show -1000 ≤ es_dd its i k; omega) (by show es_dd its i k ≤ 1000; omega)
      have ed2 : (its.getD (i + 2 * k) 0).toInt32 = nI (es_dd its i k).toNat := by
        have := es_nIof (x := (its.getD (i + 2 * k) 0).toInt32) (by rw [ed]; omega)
        rw [ed] at this
        exact this
      rw [ed2]
      obtain ⟨μ2, hD, hf2, hr2⟩ := s_become (d + 1) (p := 161) (kind := 3) (dd := (es_dd its i k).toNat) (n := t) (by omega) (by omega) ht ht1 μ'
      refine ⟨_, hD, ?_⟩
      have hqa : ∀ r9, es_qn its i t (k + 1) = es_qp (es_qa (es_ee its i k)) (es_kd 3 (es_dd its i k).toNat t) r9 (es_ee its i k).natAbs → True := fun _ _ => trivial
      have hs := es_qn_s he
      generalize hx : (its.getD (i + 2 * k + 1) 0).toInt32 = x at ee
      generalize hev : es_ee its i k = ev at ee hs bd
      generalize heu : es_kd 3 (es_dd its i k).toNat t = eu at hr2 hs
      have inner : ∀ (g2 j : Nat) (μ3 : mz_M) (l2 : List Int), j + g2 = ev.natAbs → es_fr es_6q μ μ3 → es_row μ3 157 l2 → es_row μ3 161 eu → es_qp (es_qa ev) eu l j = .inr l2 → v_Mill_workQuotient (es_R (d + 4)) (es_qI (es_got es_6q 157 (es_qn its i t n) μ)) (61, [(0, mz_R 9 145), (1, mz_R 14 p), (2, mz_I (nI i)), (3, mz_I (nI n)), (4, mz_I (nI t)), (5, mz_R 3 157), (6, mz_R 3 161), (7, mz_I (nI k)), (8, mz_I x), (9, mz_I (nI j))], [], μ3) := by
        have eabs : (if (0 : Int32) ≤ x then x else -x) = nI ev.natAbs := by
          by_cases q : (0 : Int32) ≤ x
          · have q2 := es_hle q
            rw [es_i0] at q2
            rw [if_pos q, es_nIof q2, ee]
            congr 1
            omega
          · have q2 := es_nle q
            rw [es_i0] at q2
            rw [if_neg q, fa_eq, Int32.toInt_neg, ee, fb_bmod (by omega) (by omega), nI_toInt (by omega)]
            omega
        intro g2
        induction g2 with
        | zero =>
          intro j μ3 l2 hj hf3 h3a h3b hq
          refine w_Mill_workQuotient_61 145 p _ _ _ 157 161 _ _ _ μ3 ?_
          refine ⟨_, _, es_pure (s_abs (d + 3) x μ3), ?_⟩
          rw [eabs]
          refine es_t (nI_le (by omega) (by omega)) ?_
          rw [nI_1]
          refine ih (k + 1) μ3 l2 (by omega) hf3 h3a ?_
          rw [hs, show ev.natAbs = j by omega]
          exact hq
        | succ g2 ih2 =>
          intro j μ3 l2 hj hf3 h3a h3b hq
          refine w_Mill_workQuotient_61 145 p _ _ _ 157 161 _ _ _ μ3 ?_
          refine ⟨_, _, es_pure (s_abs (d + 3) x μ3), ?_⟩
          rw [eabs]
          refine es_f (nI_ge (by omega) (by omega)) ?_
          have go : ∀ a, a = es_qa ev → (∃ (r4 : Int32) (μ4 : mz_M), es_R (d + 4) n_Row_becomeJoined [mz_R 3 153, mz_I (nI a), mz_R 3 157, mz_R 3 161] μ3 (some (mz_I r4)) μ4 ∧
            (if (r4 : Int32) = (0 : Int32) then
              (∃ μ5, es_R (d + 4) n_Row_take [mz_R 3 157, mz_R 3 153] μ4 none μ5 ∧
                (v_Mill_workQuotient (es_R (d + 4)) (es_qI (es_got es_6q 157 (es_qn its i t n) μ)) (61, [(0, mz_R 9 145), (1, mz_R 14 p), (2, mz_I (nI i)), (3, mz_I (nI n)), (4, mz_I (nI t)), (5, mz_R 3 157), (6, mz_R 3 161), (7, mz_I (nI k)), (8, mz_I x), (9, mz_I (nI j + 1))], [], μ5)))
            else
              (es_qI (es_got es_6q 157 (es_qn its i t n) μ) (some (mz_I r4)) μ4))) := by
            intro a ha
            have ha4 : a < 4 := by rw [ha]; unfold es_qa; split <;> omega
            obtain ⟨r, μ4, hE, hjn⟩ := s_joined d (p := 153) (act := nI a) h3a h3b (by unfold es_sep; omega) (by unfold es_sep; omega)
            obtain ⟨hf4, hm⟩ := es_jn.got ha4 hjn
            have hq2 := es_qp_s hq
            rw [← ha] at hq2
            refine ⟨_, _, hE, ?_⟩
            have hf4' : es_fr es_6q μ μ4 := hf3.tr (hf4.mono (fun z hz => by unfold es_2 at hz; unfold es_6q; omega))
            cases ho : es_jr a l2 eu with
            | inl c =>
              rw [ho] at hm hq2
              refine es_f (by rw [hm.1]; exact hm.2) (es_rI ⟨hf4', ?_⟩)
              rw [es_qn_up (t := k + 1) (by omega) (by rw [hs]; rw [ha] at hq2; exact es_qp_up (t := j + 1) (by omega) hq2)]
              exact hm
            | inr l3 =>
              rw [ho] at hm hq2
              refine es_t hm.1 ?_
              obtain ⟨μ5, hF, hf5, hr5⟩ := s_take (d + 3) (p := 157) hm.2 (by unfold es_sep; omega)
              refine ⟨_, hF, ?_⟩
              rw [nI_1]
              refine ih2 (j + 1) μ5 l3 (by omega) (hf4'.tr (hf5.mono (fun z hz => by unfold es_2 at hz; unfold es_6q; omega))) hr5 ?_ (by rw [← ha]; exact hq2)
              exact (h3b.kept hf4 (by unfold es_2; omega) (by unfold es_2; omega)).kept hf5 (by unfold es_2; omega) (by unfold es_2; omega)
          refine es_br (fun q => ?_) (fun q => ?_)
          · have q2 := es_hle q
            rw [es_i0, ee] at q2
            exact go 3 (by unfold es_qa; rw [if_neg (by omega)])
          · have q2 := es_nle q
            rw [es_i0, ee] at q2
            exact go 2 (by unfold es_qa; rw [if_pos (by omega)])
      have hf2' : es_fr es_6q μ μ2 := hf.tr (hf2.mono (fun z hz => by unfold es_2 at hz; unfold es_6q; omega))
      exact inner _ 0 μ2 l (Nat.zero_add _) hf2' (hr.kept hf2 (by unfold es_2; omega) (by unfold es_2; omega)) hr2 rfl
  exact key n 0 μ1 _ (Nat.zero_add _) (hf1.mono (fun z hz => by unfold es_2 at hz; unfold es_6q; omega)) hr1 rfl
theorem s_result (d : Nat) (μ : mz_M) : es_R (d + 1) n_Mill_result [mz_R 9 145] μ (some (mz_R 3 157)) μ := by
  have h : es_P 3 (d + 1) n_Mill_result [mz_R 9 145] μ (fun r μ' => μ' = μ ∧ r = 157) := es_P.mk (w_Mill_result_0 145 μ ⟨es_v07, es_rP ⟨rfl, rfl⟩⟩)
  obtain ⟨r, μ', h1, rfl, rfl⟩ := h
  exact h1
def es_quotient (A : es_A) (s sh ln i n : Int32) : Int32 × es_A := if es_4ok s = true ∧ es_4ok sh = true ∧ es_4ok ln = true ∧ (1 ≤ n.toInt ∧ n.toInt ≤ 6) then (if es_rp (es_ll A sh) ln i n.toInt.toNat = 0 then es_out A s.toInt.toNat (es_qn (es_its (es_ll A sh)) i.toInt.toNat A.1.2.1 n.toInt.toNat) else (es_rp (es_ll A sh) ln i n.toInt.toNat, A)) else (-1000001, A)
theorem c_quotient (d : Nat) {μ : mz_M} {A : es_A} (h : es_C μ A) (s sh ln i n : Int32) : es_I (d + 6) n_ES_quotient [mz_R 0 0, mz_I s, mz_I sh, mz_I ln, mz_I i, mz_I n] μ (es_ans (es_quotient A s sh ln i n)) := by
  refine es_I.mk (w_ES_quotient_0 0 s sh ln i n μ ?_)
  have bad : ¬ (es_4ok s = true ∧ es_4ok sh = true ∧ es_4ok ln = true ∧ (1 ≤ n.toInt ∧ n.toInt ≤ 6)) → es_qI (es_ans (es_quotient A s sh ln i n)) (some (mz_I (-1000001))) μ := by
    intro z
    unfold es_quotient
    rw [if_neg z]
    exact es_rI ⟨rfl, h⟩
  refine ⟨_, _, es_pure (s_isFour (d + 4) s μ), es_br (fun q => bad (fun z => es_bf q (of_decide_eq_true z.1))) (fun q => ?_)⟩
  refine ⟨_, _, es_pure (s_isFour (d + 4) sh μ), es_br (fun q => bad (fun z => es_bf q (of_decide_eq_true z.2.1))) (fun q2 => ?_)⟩
  refine ⟨_, _, es_pure (s_isFour (d + 4) ln μ), es_br (fun q => bad (fun z => es_bf q (of_decide_eq_true z.2.2.1))) (fun q3 => ?_)⟩
  refine ⟨_, _, es_pure (s_isPairs (d + 4) n μ), es_br (fun q => bad (fun z => es_bf q z.2.2.2)) (fun q4 => ?_)⟩
  have b1 := es_bt q
  have b2 := es_bt q2
  have b3 := es_bt q3
  have b4 := es_bt q4
  unfold es_quotient
  rw [if_pos (show es_4ok s = true ∧ es_4ok sh = true ∧ es_4ok ln = true ∧ (1 ≤ n.toInt ∧ n.toInt ≤ 6) from ⟨decide_eq_true b1, decide_eq_true b2, decide_eq_true b3, b4⟩)]
  have hl := h.lf b2.1 b2.2
  obtain ⟨nn, hn, rfl⟩ : ∃ nn : Nat, nn ≤ 6 ∧ n = nI nn := ⟨n.toInt.toNat, by omega, es_nIof (by omega)⟩
  rw [nI_toInt (by omega)]
  simp only [Int.toNat_natCast]
  refine ⟨es_in b2.1 b2.2, _, _, es_pure (s_refusePairs (d + 2) hl hn), es_br (fun q5 => ?_) (fun q5 => es_rI ?_)⟩
  · rw [if_pos q5]
    obtain ⟨l4, its, iN, ho, e1, rfl, e2, e3, e4⟩ := es_rp_0 hn q5
    rw [ho] at hl
    have h40 := hl.2.2.2.1
    have hsp := h.1.2
    rw [ho, e3, hsp.1]
    simp only [Int.toNat_natCast]
    obtain ⟨r, μ1, hC, hg⟩ := s_workQuotient d (n := nn) (t := A.1.2.1) hl (by omega) (by omega) hn (by omega) (by omega) e4
    refine ⟨_, _, hC, ?_⟩
    have hfin := s_fin (d + 1) (x := s) h hg (fun z hz => by unfold es_6q at hz; omega) (by omega) (by omega) b1.1 b1.2
    show if r = 0 then _ else es_qI (es_ans (es_out A s.toInt.toNat (es_qn its iN A.1.2.1 nn))) (some (mz_I r)) μ1
    by_cases hr0 : r = 0
    · rw [if_pos hr0] at hfin ⊢
      exact ⟨_, _, s_result (d + 4) μ1, hfin⟩
    · rw [if_neg hr0] at hfin ⊢
      exact hfin
  · rw [if_neg q5]
    exact ⟨rfl, h⟩
