/-! The class's sheets. -/
def es_lu (A : es_A) (s : Nat) (o : es_L) : es_A := (A.1, A.2.1, A.2.2.1, A.2.2.2.1, A.2.2.2.2.1, fun k => if k = s then o else A.2.2.2.2.2 k)
def es_ll (A : es_A) (x : Int32) : es_L := A.2.2.2.2.2 x.toInt.toNat
theorem es_C.lf {μ : mz_M} {A : es_A} (h : es_C μ A) {x : Int32} (h0 : 0 ≤ x.toInt) (h4 : x.toInt < 4) : es_lf μ (204 + 2 * x.toNatClampNeg) (es_ll A x) := h.2.2.2.2.2 x.toInt.toNat (by omega)
theorem es_C.leaf {μ μ' : mz_M} {A : es_A} (h : es_C μ A) {x : Int32} (h0 : 0 ≤ x.toInt) (h4 : x.toInt < 4) (hf : es_fr (es_2 (204 + 2 * x.toNatClampNeg)) μ μ') {o : es_L} (ho : es_lf μ' (204 + 2 * x.toNatClampNeg) o) : es_C μ' (es_lu A x.toInt.toNat o) := by
  have e : x.toNatClampNeg = x.toInt.toNat := rfl
  rw [e] at hf ho
  generalize x.toInt.toNat = s at hf ho
  obtain ⟨a1, a2, a3, a4, a5, a6⟩ := h
  have hn : ∀ z, z < 204 → ¬ es_2 (204 + 2 * s) z := fun z hz c => by unfold es_2 at c; omega
  refine ⟨a1.kept hf (fun z z1 z2 => hn z (by omega)), a2.kept hf (fun z z1 z2 => hn z (by omega)), a3.kept hf (hn _ (by omega)) (fun z z1 z2 => hn z (by omega)), a4.kept hf (hn _ (by omega)) (hn _ (by omega)), ?_, fun k hk => ?_⟩
  · show μ'.1 145 8 = _ ∧ μ'.1 145 9 = _
    rw [(hf 145 (hn _ (by omega))).1]
    exact a5
  · show es_lf μ' (204 + 2 * k) (if k = s then o else A.2.2.2.2.2 k)
    by_cases e : k = s
    · rw [if_pos e, e]; exact ho
    · rw [if_neg e]
      exact (a6 k hk).kept hf (by unfold es_2; omega) (by unfold es_2; omega)
theorem es_4n {x : Int32} (h0 : 0 ≤ x.toInt) (h4 : x.toInt < 4) : ∃ n : Nat, n < 4 ∧ x = nI n ∧ x.toInt = n := ⟨x.toInt.toNat, by omega, es_nIof h0, by omega⟩
def es_sheet (A : es_A) (s ln n : Int32) : Int32 × es_A := if es_4ok s = true ∧ es_4ok ln = true ∧ n.toInt ≤ 40 then (if 0 ≤ n.toInt then (n, es_lu A s.toInt.toNat (some (ln.toInt.toNat, List.replicate n.toInt.toNat 0))) else (-1000014, A)) else (-1000001, A)
theorem c_sheet (d : Nat) {μ : mz_M} {A : es_A} (h : es_C μ A) (s ln n : Int32) : es_I (d + 3) n_ES_sheet [mz_R 0 0, mz_I s, mz_I ln, mz_I n] μ (es_ans (es_sheet A s ln n)) := by
  refine es_I.mk (w_ES_sheet_0 0 s ln n μ ?_)
  have bad : ¬ (es_4ok s = true ∧ es_4ok ln = true ∧ n.toInt ≤ 40) → es_qI (es_ans (es_sheet A s ln n)) (some (mz_I (-1000001))) μ := by
    intro z
    unfold es_sheet
    rw [if_neg z]
    exact es_rI ⟨rfl, h⟩
  refine ⟨_, _, es_pure (s_isFour (d + 1) s μ), es_br (fun q => bad (fun z => es_bf q (of_decide_eq_true z.1))) (fun q => ?_)⟩
  refine ⟨_, _, es_pure (s_isFour (d + 1) ln μ), es_br (fun q => bad (fun z => es_bf q (of_decide_eq_true z.2.1))) (fun q2 => ?_)⟩
  have b1 := es_bt q
  have b2 := es_bt q2
  refine es_br (fun q3 => ?_) (fun q3 => bad (fun z => q3 ((es_len 40 (by omega)).mpr z.2.2)))
  have b3 := (es_len 40 (by omega)).mp q3
  unfold es_sheet
  rw [if_pos (show es_4ok s = true ∧ es_4ok ln = true ∧ n.toInt ≤ 40 from ⟨decide_eq_true b1, decide_eq_true b2, b3⟩)]
  refine es_br (fun q4 => ⟨es_in b1.1 b1.2, ?_⟩) (fun q4 => es_rI ?_)
  · have b4 := (es_gen 0 (by omega)).mp q4
    rw [if_pos (show 0 ≤ n.toInt from b4)]
    obtain ⟨l4, hl, rfl, el⟩ := es_4n b2.1 b2.2
    obtain ⟨nn, hn, rfl⟩ : ∃ nn : Nat, nn ≤ 40 ∧ n = nI nn := ⟨n.toInt.toNat, by omega, es_nIof b4⟩
    obtain ⟨μ1, hC, hf, hh⟩ := s_hold d (p := 204 + 2 * s.toNatClampNeg) hl hn μ
    refine ⟨_, hC, es_rI ⟨rfl, ?_⟩⟩
    rw [el, nI_toInt (by omega)]
    exact h.leaf b1.1 b1.2 hf hh
  · have b4 := es_ngen 0 (by omega) q4
    rw [if_neg (show ¬ 0 ≤ n.toInt by omega)]
    exact ⟨rfl, h⟩
def es_drop (A : es_A) (s : Int32) : Int32 × es_A := if es_4ok s = true then (match es_ll A s with
  | none => (-1000011, A)
  | some q => (nI q.2.length, es_lu A s.toInt.toNat none)) else (-1000001, A)
theorem c_drop (d : Nat) {μ : mz_M} {A : es_A} (h : es_C μ A) (s : Int32) : es_I (d + 2) n_ES_drop [mz_R 0 0, mz_I s] μ (es_ans (es_drop A s)) := by
  refine es_I.mk (w_ES_drop_0 0 s μ ?_)
  refine ⟨_, _, es_pure (s_isFour d s μ), es_br (fun q => es_rI ?_) (fun q => ?_)⟩
  · unfold es_drop
    rw [if_neg (show ¬ es_4ok s = true from fun z => es_bf q (of_decide_eq_true z))]
    exact ⟨rfl, h⟩
  have b1 := es_bt q
  unfold es_drop
  rw [if_pos (show es_4ok s = true from decide_eq_true b1)]
  have hl := h.lf b1.1 b1.2
  refine ⟨es_in b1.1 b1.2, ?_⟩
  cases ho : es_ll A s with
  | none =>
    rw [ho] at hl
    exact es_t hl (es_rI ⟨rfl, h⟩)
  | some o =>
    obtain ⟨ln, its⟩ := o
    rw [ho] at hl
    obtain ⟨a1, a2, a3, a4, a5, a6⟩ := hl
    refine es_f (by rw [a1]; decide +kernel) ⟨Or.inl rfl, es_rI ⟨?_, ?_⟩⟩
    · rw [mz_wI_at, if_neg (by omega)]
      exact a5
    · refine h.leaf b1.1 b1.2 (es_fr.rf.wI (Or.inl rfl)) ?_
      show (mz_wI μ (204 + 2 * s.toNatClampNeg) 1 0).1 (204 + 2 * s.toNatClampNeg) 1 = 0
      rw [mz_wI_at, if_pos ⟨rfl, rfl⟩]
/-- an item of a sheet becomes v -/
def es_pi (o : es_L) (i : Nat) (v : Int64) : es_L := match o with
  | none => none
  | some q => some (q.1, q.2.set i (es_ct v q.1))
def es_item (A : es_A) (s ln i : Int32) (v : Int64) : Int32 × es_A := if es_4ok s = true ∧ es_4ok ln = true then (if es_rf (es_ll A s) ln i 1 = 0 then (1, es_lu A s.toInt.toNat (es_pi (es_ll A s) i.toInt.toNat v)) else (es_rf (es_ll A s) ln i 1, A)) else (-1000001, A)
theorem c_item (d : Nat) {μ : mz_M} {A : es_A} (h : es_C μ A) (s ln i : Int32) (v : Int64) : es_I (d + 3) n_ES_item [mz_R 0 0, mz_I s, mz_I ln, mz_I i, mz_L v] μ (es_ans (es_item A s ln i v)) := by
  refine es_I.mk (w_ES_item_0 0 s ln i v μ ?_)
  have bad : ¬ (es_4ok s = true ∧ es_4ok ln = true) → es_qI (es_ans (es_item A s ln i v)) (some (mz_I (-1000001))) μ := by
    intro z
    unfold es_item
    rw [if_neg z]
    exact es_rI ⟨rfl, h⟩
  refine ⟨_, _, es_pure (s_isFour (d + 1) s μ), es_br (fun q => bad (fun z => es_bf q (of_decide_eq_true z.1))) (fun q => ?_)⟩
  refine ⟨_, _, es_pure (s_isFour (d + 1) ln μ), es_br (fun q => bad (fun z => es_bf q (of_decide_eq_true z.2))) (fun q2 => ?_)⟩
  have b1 := es_bt q
  have b2 := es_bt q2
  unfold es_item
  rw [if_pos ⟨decide_eq_true b1, decide_eq_true b2⟩]
  have hl := h.lf b1.1 b1.2
  refine ⟨es_in b1.1 b1.2, _, _, es_pure (s_refuse d hl), es_br (fun q3 => ⟨es_in b1.1 b1.2, ?_⟩) (fun q3 => es_rI ?_)⟩
  · rw [if_pos q3]
    obtain ⟨l4, its, ho, e1, e2, e3, e4⟩ := es_rf_0 q3
    rw [ho] at hl
    rw [es_i1] at e4
    have h40 := hl.2.2.2.1
    obtain ⟨iN, hi, rfl⟩ : ∃ iN : Nat, iN < its.length ∧ i = nI iN := ⟨i.toInt.toNat, by omega, es_nIof e2⟩
    obtain ⟨μ1, hC, hf, hh⟩ := s_lput (d + 1) (v := v) hl hi
    refine ⟨_, hC, es_rI ⟨rfl, ?_⟩⟩
    rw [ho, nI_toInt (by omega)]
    exact h.leaf b1.1 b1.2 hf hh
  · rw [if_neg q3]
    exact ⟨rfl, h⟩
/-- terms come to a sheet -/
def es_fl (its : List Int64) (ln i : Nat) (l : List Int) : Nat → List Int64
  | 0 => its
  | k + 1 => (es_fl its ln i l k).set (i + k) (es_ct (Int64.ofInt (l.getD k 0)) ln)
theorem es_fl_len (its : List Int64) (ln i : Nat) (l : List Int) : ∀ k, (es_fl its ln i l k).length = its.length
  | 0 => rfl
  | k + 1 => by
    unfold es_fl
    rw [List.length_set, es_fl_len its ln i l k]
def es_flo (o : es_L) (i : Nat) (l : List Int) : es_L := match o with
  | none => none
  | some q => some (q.1, es_fl q.2 q.1 i l l.length)
def es_film (A : es_A) (s sh ln i : Int32) : Int32 × es_A := if es_4ok s = true ∧ es_4ok sh = true ∧ es_4ok ln = true then (if es_sl A s = [] then (-1000002, A) else if es_rf (es_ll A sh) ln i (nI (es_sl A s).length) = 0 then (nI (es_sl A s).length, es_lu A sh.toInt.toNat (es_flo (es_ll A sh) i.toInt.toNat (es_sl A s))) else (es_rf (es_ll A sh) ln i (nI (es_sl A s).length), A)) else (-1000001, A)
theorem es_ofI64 {x : Int32} {a : Int} (h : x.toInt = a) : x.toInt64 = Int64.ofInt a := by
  rw [fa_eq64, es_i2l, h, Int64.toInt_ofInt, es_bm64] <;> have := fb_rng x <;> omega
theorem c_film (d : Nat) {μ : mz_M} {A : es_A} (h : es_C μ A) (s sh ln i : Int32) : es_I (d + 3) n_ES_film [mz_R 0 0, mz_I s, mz_I sh, mz_I ln, mz_I i] μ (es_ans (es_film A s sh ln i)) := by
  refine es_I.mk (w_ES_film_0 0 s sh ln i μ ?_)
  have bad : ¬ (es_4ok s = true ∧ es_4ok sh = true ∧ es_4ok ln = true) → es_qI (es_ans (es_film A s sh ln i)) (some (mz_I (-1000001))) μ := by
    intro z
    unfold es_film
    rw [if_neg z]
    exact es_rI ⟨rfl, h⟩
  refine ⟨_, _, es_pure (s_isFour (d + 1) s μ), es_br (fun q => bad (fun z => es_bf q (of_decide_eq_true z.1))) (fun q => ?_)⟩
  refine ⟨_, _, es_pure (s_isFour (d + 1) sh μ), es_br (fun q => bad (fun z => es_bf q (of_decide_eq_true z.2.1))) (fun q2 => ?_)⟩
  refine ⟨_, _, es_pure (s_isFour (d + 1) ln μ), es_br (fun q => bad (fun z => es_bf q (of_decide_eq_true z.2.2))) (fun q3 => ?_)⟩
  have b1 := es_bt q
  have b2 := es_bt q2
  have b3 := es_bt q3
  unfold es_film
  rw [if_pos ⟨decide_eq_true b1, decide_eq_true b2, decide_eq_true b3⟩]
  refine ⟨_, _, es_pure (s_missing d h.1 b1.1 b1.2), es_br (fun q5 => ⟨es_in b1.1 b1.2, es_in b2.1 b2.2, ?_⟩) (fun q5 => es_rI ?_)⟩
  · have hrow := h.row b1.1 b1.2
    have h40 := hrow.1.1
    have hsz : μ.1 (3 + 2 * s.toNatClampNeg) 1 = nI (es_sl A s).length := hrow.2.1
    rw [if_neg (show ¬ es_sl A s = [] from es_bf q5), hsz]
    have hl := h.lf b2.1 b2.2
    refine ⟨_, _, es_pure (s_refuse d hl), es_br (fun q6 => ?_) (fun q6 => es_rI ?_)⟩
    · rw [if_pos q6]
      obtain ⟨l4, its, ho, e1, e2, e3, e4⟩ := es_rf_0 q6
      rw [ho] at hl
      rw [nI_toInt (by omega)] at e4
      have h40b := hl.2.2.2.1
      obtain ⟨iN, hi, rfl⟩ : ∃ iN : Nat, iN + (es_sl A s).length ≤ its.length ∧ i = nI iN := ⟨i.toInt.toNat, by omega, es_nIof e2⟩
      rw [ho, nI_toInt (by omega)]
      show v_ES_film (es_R (d + 2)) (es_qI (es_ans (nI (es_sl A s).length, es_lu A sh.toInt.toNat (some (l4, es_fl its l4 iN (es_sl A s) (es_sl A s).length))))) _
      have key : ∀ (g k : Nat) (μ' : mz_M), k + g = (es_sl A s).length → es_fr (es_2 (204 + 2 * sh.toNatClampNeg)) μ μ' → es_lf μ' (204 + 2 * sh.toNatClampNeg) (some (l4, es_fl its l4 iN (es_sl A s) k)) → v_ES_film (es_R (d + 2)) (es_qI (es_ans (nI (es_sl A s).length, es_lu A sh.toInt.toNat (some (l4, es_fl its l4 iN (es_sl A s) (es_sl A s).length))))) (79, [(0, mz_R 0 0), (2, mz_I sh), (4, mz_I (nI iN)), (5, mz_R 3 (3 + 2 * s.toNatClampNeg)), (7, mz_I (nI k))], [], μ') := by
        have hk4 : s.toNatClampNeg < 4 := by show s.toInt.toNat < 4; omega
        have rowk : ∀ μ', es_fr (es_2 (204 + 2 * sh.toNatClampNeg)) μ μ' → es_row μ' (3 + 2 * s.toNatClampNeg) (es_sl A s) := fun μ' hf => hrow.kept hf (by unfold es_2; omega) (by unfold es_2; omega)
        intro g
        induction g with
        | zero =>
          intro k μ' hk hf hlf
          have hk : k = (es_sl A s).length := by omega
          subst hk
          have hr := rowk μ' hf
          refine w_ES_film_79 0 sh _ _ _ μ' (es_t (by rw [hr.2.1]; exact nI_le (by omega) (by omega)) (es_rI ⟨hr.2.1, ?_⟩))
          exact h.leaf b2.1 b2.2 hf hlf
        | succ g ih =>
          intro k μ' hk hf hlf
          have hr := rowk μ' hf
          refine w_ES_film_79 0 sh _ _ _ μ' (es_f (by rw [hr.2.1]; exact nI_ge (by omega) (by omega)) ⟨es_in b2.1 b2.2, ?_⟩)
          obtain ⟨r, hA, hra⟩ := es_pur (s_at_n (d + 1) (k := k) hr (by omega))
          rw [nI_add]
          obtain ⟨μ1, hC, hf1, hh⟩ := s_lput (d + 1) (v := r.toInt64) (k := iN + k) hlf (by rw [es_fl_len]; omega)
          refine ⟨_, _, hA, _, hC, ?_⟩
          rw [nI_1]
          refine ih (k + 1) μ1 (by omega) (hf.tr hf1) ?_
          rw [es_ofI64 hra] at hh
          exact hh
      exact key _ 0 μ (Nat.zero_add _) es_fr.rf hl
    · rw [if_neg q6]
      exact ⟨rfl, h⟩
  · rw [if_pos (show es_sl A s = [] from es_bt q5)]
    exact ⟨rfl, h⟩
/-- n items from i on, put from j on -/
def es_cp (i1 i2 : List Int64) (i j n : Nat) : List Int64 := (List.range i2.length).map (fun k => if j ≤ k ∧ k < j + n then i1.getD (i + (k - j)) 0 else i2.getD k 0)
theorem es_cp_len (i1 i2 : List Int64) (i j n : Nat) : (es_cp i1 i2 i j n).length = i2.length := by unfold es_cp; rw [List.length_map, List.length_range]
theorem es_cp_at {i1 i2 : List Int64} {i j n k : Nat} (h : k < i2.length) : (es_cp i1 i2 i j n).getD k 0 = if j ≤ k ∧ k < j + n then i1.getD (i + (k - j)) 0 else i2.getD k 0 := by
  unfold es_cp
  rw [List.getD_eq_getElem?_getD, List.getElem?_map, List.getElem?_range h]
  rfl
def es_cpo (o1 o2 : es_L) (i j n : Int32) : Int32 ⊕ es_L := match o1, o2 with
  | some q1, some q2 => if q1.1 = q2.1 then (if es_hi q1.2.length i n = true ∧ es_hi q2.2.length j n = true then .inr (some (q2.1, es_cp q1.2 q2.2 i.toInt.toNat j.toInt.toNat n.toInt.toNat)) else .inl (-1000013)) else .inl (-1000012)
  | _, _ => .inl (-1000011)
def es_copy (A : es_A) (a i b j n : Int32) : Int32 × es_A := if es_4ok a = true ∧ es_4ok b = true then (match es_cpo (es_ll A a) (es_ll A b) i j n with
  | .inl c => (c, A)
  | .inr o => (n, es_lu A b.toInt.toNat o)) else (-1000001, A)
theorem c_copy (d : Nat) {μ : mz_M} {A : es_A} (h : es_C μ A) (a i b j n : Int32) : es_I (d + 2) n_ES_copy [mz_R 0 0, mz_I a, mz_I i, mz_I b, mz_I j, mz_I n] μ (es_ans (es_copy A a i b j n)) := by
  refine es_I.mk (w_ES_copy_0 0 a i b j n μ ?_)
  have bad : ¬ (es_4ok a = true ∧ es_4ok b = true) → es_qI (es_ans (es_copy A a i b j n)) (some (mz_I (-1000001))) μ := by
    intro z
    unfold es_copy
    rw [if_neg z]
    exact es_rI ⟨rfl, h⟩
  refine ⟨_, _, es_pure (s_isFour d a μ), es_br (fun q => bad (fun z => es_bf q (of_decide_eq_true z.1))) (fun q => ?_)⟩
  refine ⟨_, _, es_pure (s_isFour d b μ), es_br (fun q => bad (fun z => es_bf q (of_decide_eq_true z.2))) (fun q2 => ?_)⟩
  have b1 := es_bt q
  have b2 := es_bt q2
  unfold es_copy
  rw [if_pos (show es_4ok a = true ∧ es_4ok b = true from ⟨decide_eq_true b1, decide_eq_true b2⟩)]
  have hl1 := h.lf b1.1 b1.2
  have hl2 := h.lf b2.1 b2.2
  refine ⟨es_in b1.1 b1.2, es_in b2.1 b2.2, ?_⟩
  cases ho1 : es_ll A a with
  | none =>
    rw [ho1] at hl1
    exact es_t (show μ.1 (204 + 2 * a.toNatClampNeg) 1 = 0 from hl1) (es_rI ⟨rfl, h⟩)
  | some o1 =>
    rw [ho1] at hl1
    obtain ⟨ln1, its1⟩ := o1
    have hl1' := hl1
    obtain ⟨a1, a2, a3, a4, a5, a6⟩ := hl1
    refine es_f (by rw [a1]; decide +kernel) ?_
    cases ho2 : es_ll A b with
    | none =>
      rw [ho2] at hl2
      exact es_t (show μ.1 (204 + 2 * b.toNatClampNeg) 1 = 0 from hl2) (es_rI ⟨rfl, h⟩)
    | some o2 =>
      rw [ho2] at hl2
      obtain ⟨ln2, its2⟩ := o2
      have hl2' := hl2
      obtain ⟨c1, c2, c3, c4, c5, c6⟩ := hl2
      refine es_f (by rw [c1]; decide +kernel) ?_
      rw [a3, c3]
      unfold es_cpo
      dsimp only
      refine es_br (fun q3 => ?_) (fun q3 => es_rI ?_)
      · have q3 := (nI_eq (by omega) (by omega)).mp q3
        rw [if_pos q3]
        refine ⟨_, _, es_pure (s_hasItems d hl1'), es_br (fun q4 => es_rI ?_) (fun q4 => ?_)⟩
        · rw [es_b_0] at q4
          rw [if_neg (fun z => by rw [q4] at z; cases z.1)]
          exact ⟨rfl, h⟩
        · rw [es_b_0] at q4
          have q4 := Bool.of_not_eq_false q4
          refine ⟨_, _, es_pure (s_hasItems d hl2'), es_br (fun q5 => es_rI ?_) (fun q5 => ?_)⟩
          · rw [es_b_0] at q5
            rw [if_neg (fun z => by rw [q5] at z; cases z.2)]
            exact ⟨rfl, h⟩
          · rw [es_b_0] at q5
            have q5 := Bool.of_not_eq_false q5
            rw [if_pos ⟨q4, q5⟩]
            have g1 := of_decide_eq_true q4
            have g2 := of_decide_eq_true q5
            have n0 : ∀ x : Int32, 0 ≤ x.toInt → ¬ x < 0 := fun x hx z => by have := es_hlt z; rw [es_i0] at this; omega
            have ei : i.toNatClampNeg = i.toInt.toNat := rfl
            have ej : j.toNatClampNeg = j.toInt.toNat := rfl
            have en : n.toNatClampNeg = n.toInt.toNat := rfl
            refine ⟨⟨n0 i g1.1, n0 j g2.1, n0 n g1.2.1, by omega, by omega⟩, es_rI ⟨rfl, ?_⟩⟩
            refine h.leaf b2.1 b2.2 (es_fr.rf.cL (Or.inr rfl)) ⟨c1, c2, c3, by rw [es_cp_len]; exact c4, by rw [es_cp_len]; exact c5, fun k hk => ?_⟩
            rw [es_cp_len] at hk
            rw [mz_cL_at, es_cp_at hk, ei, ej, en]
            by_cases e : j.toInt.toNat ≤ k ∧ k < j.toInt.toNat + n.toInt.toNat
            · rw [if_pos ⟨rfl, e⟩, if_pos e]
              exact a6 _ (by omega)
            · rw [if_neg (fun z => e z.2), if_neg e]
              exact c6 k hk
      · have q3 : ¬ ln1 = ln2 := fun z => q3 (by rw [z])
        rw [if_neg q3]
        exact ⟨rfl, h⟩
def es_told (A : es_A) (s ln i n w : Int32) : Int32 := if es_4ok s = true ∧ es_4ok ln = true ∧ (1 ≤ n.toInt ∧ n.toInt ≤ 6) ∧ (0 ≤ w.toInt ∧ w.toInt ≤ 2) then (if es_rp (es_ll A s) ln i n.toInt.toNat = 0 then (if w.toInt = 0 then es_wt (es_its (es_ll A s)) i.toInt.toNat n.toInt.toNat else if w.toInt = 1 then es_lvI (es_fs (es_isl (es_its (es_ll A s)) i.toInt.toNat n.toInt.toNat) 600 1) else es_bnd (es_its (es_ll A s)) i.toInt.toNat n.toInt.toNat) else es_rp (es_ll A s) ln i n.toInt.toNat) else -1000001
theorem c_told (d : Nat) {μ : mz_M} {A : es_A} (h : es_C μ A) (s ln i n w : Int32) : es_I (d + 6) n_ES_told [mz_R 0 0, mz_I s, mz_I ln, mz_I i, mz_I n, mz_I w] μ (es_ans (es_told A s ln i n w, A)) := by
  refine es_I.mk (w_ES_told_0 0 s ln i n w μ ?_)
  have bad : ¬ (es_4ok s = true ∧ es_4ok ln = true ∧ (1 ≤ n.toInt ∧ n.toInt ≤ 6) ∧ (0 ≤ w.toInt ∧ w.toInt ≤ 2)) → es_qI (es_ans (es_told A s ln i n w, A)) (some (mz_I (-1000001))) μ := by
    intro z
    unfold es_told
    rw [if_neg z]
    exact es_rI ⟨rfl, h⟩
  refine ⟨_, _, es_pure (s_isFour (d + 4) s μ), es_br (fun q => bad (fun z => es_bf q (of_decide_eq_true z.1))) (fun q => ?_)⟩
  refine ⟨_, _, es_pure (s_isFour (d + 4) ln μ), es_br (fun q => bad (fun z => es_bf q (of_decide_eq_true z.2.1))) (fun q2 => ?_)⟩
  refine ⟨_, _, es_pure (s_isPairs (d + 4) n μ), es_br (fun q => bad (fun z => es_bf q z.2.2.1)) (fun q3 => ?_)⟩
  refine ⟨_, _, es_pure (s_isWithin (d + 4) w (m := 2) (by omega) μ), es_br (fun q => bad (fun z => es_bf q z.2.2.2)) (fun q4 => ?_)⟩
  have b1 := es_bt q
  have b2 := es_bt q2
  have b3 := es_bt q3
  have b4 := es_bt q4
  unfold es_told
  rw [if_pos ⟨decide_eq_true b1, decide_eq_true b2, b3, b4⟩]
  have hl := h.lf b1.1 b1.2
  obtain ⟨nn, hn, rfl⟩ : ∃ nn : Nat, nn ≤ 6 ∧ n = nI nn := ⟨n.toInt.toNat, by omega, es_nIof (by omega)⟩
  rw [nI_toInt (by omega)]
  simp only [Int.toNat_natCast]
  refine ⟨es_in b1.1 b1.2, _, _, es_pure (s_refusePairs (d + 2) hl hn), es_br (fun q5 => ?_) (fun q5 => es_rI ⟨?_, h⟩)⟩
  · rw [if_pos q5]
    obtain ⟨l4, its, iN, ho, e1, rfl, e2, e3, e4⟩ := es_rp_0 hn q5
    rw [ho] at hl
    have h40 := hl.2.2.2.1
    rw [ho, e3]
    simp only [Int.toNat_natCast]
    refine es_br (fun q6 => ?_) (fun q6 => es_br (fun q7 => ?_) (fun q7 => ?_))
    · have q6 := (es_eqn 0 (by omega)).mp q6
      refine ⟨_, _, es_pure (s_weight (d + 2) hl (by omega) (by omega)), es_rI ⟨?_, h⟩⟩
      rw [if_pos (show w.toInt = 0 from q6)]; rfl
    · have q6 := es_neqn 0 (by omega) q6
      have q7 := (es_eqn 1 (by omega)).mp q7
      refine ⟨_, _, es_pure (s_level (d + 1) hl (by omega) hn e4), es_rI ⟨?_, h⟩⟩
      rw [if_neg (show ¬ w.toInt = 0 from q6), if_pos (show w.toInt = 1 from q7)]; rfl
    · have q6 := es_neqn 0 (by omega) q6
      have q7 := es_neqn 1 (by omega) q7
      refine ⟨_, _, es_pure (s_bound d hl (by omega) hn e4), es_rI ⟨?_, h⟩⟩
      rw [if_neg (show ¬ w.toInt = 0 from q6), if_neg (show ¬ w.toInt = 1 from q7)]; rfl
  · rw [if_neg q5]
