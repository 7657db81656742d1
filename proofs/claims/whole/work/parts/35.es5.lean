/-! found, guess of the class. -/
def es_lst (l : List Int) (a b : Nat) : Option Nat := es_fs (fun y => decide (es_mf l a b y = none)) 8 2
theorem es_mf_lt {l : List Int} {m r b k : Nat} (hl : l.length ≤ 40) (h : es_mf l m r b = some k) : k < 2000000 := by
  have := es_fs_bd h
  omega
theorem s_leastFitting (d : Nat) {p m r : Nat} {μ : mz_M} {l : List Int} (h : es_row μ p l) (hm : 1 ≤ m) (hm2 : m ≤ 8) (hr : r < m) : es_I (d + 3) n_ES_leastFitting [mz_R 3 p, mz_I (nI m), mz_I (nI r)] μ (fun x μ' => μ' = μ ∧ x = es_lvI (es_lst l m r)) := by
  have c1 := h.1.1
  refine es_I.mk (w_ES_leastFitting_0 p _ _ μ ?_)
  have key : ∀ (g N : Nat), N + g = 10 → 2 ≤ N → es_lst l m r = es_fs (fun y => decide (es_mf l m r y = none)) g N → v_ES_leastFitting (es_R (d + 2)) (es_qI (fun x μ' => μ' = μ ∧ x = es_lvI (es_lst l m r))) (2, [(0, mz_R 3 p), (1, mz_I (nI m)), (2, mz_I (nI r)), (3, mz_I (nI N))], [], μ) := by
    intro g
    induction g with
    | zero =>
      intro N hg h2 he
      refine w_ES_leastFitting_2 p _ _ _ μ (es_t (nI_lt (a := 9) (by omega) (by omega)) (es_rI ⟨rfl, ?_⟩))
      rw [he]; rfl
    | succ g ih =>
      intro N hg h2 he
      refine w_ES_leastFitting_2 p _ _ _ μ (es_f (nI_nlt (a := 9) (b := N) (by omega) (by omega)) ?_)
      have hq := es_lvI_n (o := es_mf l m r N) (fun k hk => es_mf_lt c1 hk)
      refine ⟨_, _, es_pure (s_firstMisfit d h hm hm2 hr (b := N) (by omega) (by omega)), es_br (fun q => es_rI ⟨rfl, ?_⟩) (fun q => ?_)⟩
      · rw [he]
        show nI N = es_lvI (if decide (es_mf l m r N = none) = true then some N else es_fs _ g (N + 1))
        rw [if_pos (decide_eq_true (hq.mp q))]; rfl
      · rw [nI_1]
        refine ih (N + 1) (by omega) (by omega) ?_
        rw [he]
        show (if decide (es_mf l m r N = none) = true then some N else es_fs _ g (N + 1)) = _
        rw [if_neg (fun z => q (hq.mpr (of_decide_eq_true z)))]
  exact key 8 2 (by omega) (by omega) rfl
/-- the rests of a step, from b on; the steps from a on -/
def es_fi (l : List Int) (a : Nat) : Nat → Nat → Option Nat
  | 0, _ => none
  | g + 1, b => match (if b + 2 * a < l.length then es_lst l a b else none) with
    | some y => some (1000 * a + 100 * b + y)
    | none => es_fi l a g (b + 1)
def es_fo (l : List Int) (m r : Nat) : Nat → Nat → Option Nat
  | 0, _ => none
  | g + 1, a => match es_fi l a (a - (if a = m then r else 0)) (if a = m then r else 0) with
    | some y => some y
    | none => es_fo l m r g (a + 1)
theorem es_fi_s {l : List Int} {a g b : Nat} {y : Nat} (h : (if b + 2 * a < l.length then es_lst l a b else none) = some y) : es_fi l a (g + 1) b = some (1000 * a + 100 * b + y) := by
  show (match (if b + 2 * a < l.length then es_lst l a b else none) with
    | some y => some (1000 * a + 100 * b + y)
    | none => es_fi l a g (b + 1)) = _
  rw [h]
theorem es_fi_n {l : List Int} {a g b : Nat} (h : (if b + 2 * a < l.length then es_lst l a b else none) = none) : es_fi l a (g + 1) b = es_fi l a g (b + 1) := by
  show (match (if b + 2 * a < l.length then es_lst l a b else none) with
    | some y => some (1000 * a + 100 * b + y)
    | none => es_fi l a g (b + 1)) = _
  rw [h]
theorem es_fi_end {l : List Int} {a : Nat} : ∀ {g b : Nat}, l.length ≤ b + 2 * a → es_fi l a g b = none
  | 0, _, _ => rfl
  | g + 1, b, h => by
    rw [es_fi_n (if_neg (by omega))]
    exact es_fi_end (by omega)
theorem es_fo_s {l : List Int} {m r g a y : Nat} (h : es_fi l a (a - (if a = m then r else 0)) (if a = m then r else 0) = some y) : es_fo l m r (g + 1) a = some y := by
  show (match es_fi l a (a - (if a = m then r else 0)) (if a = m then r else 0) with
    | some y => some y
    | none => es_fo l m r g (a + 1)) = _
  rw [h]
theorem es_fo_n {l : List Int} {m r g a : Nat} (h : es_fi l a (a - (if a = m then r else 0)) (if a = m then r else 0) = none) : es_fo l m r (g + 1) a = es_fo l m r g (a + 1) := by
  show (match es_fi l a (a - (if a = m then r else 0)) (if a = m then r else 0) with
    | some y => some y
    | none => es_fo l m r g (a + 1)) = _
  rw [h]
def es_found (A : es_A) (s m r : Int32) : Int32 := if es_4ok s = true ∧ es_stp m r = true then (if es_sl A s = [] then -1000011 else es_lvI (es_fo (es_sl A s) m.toInt.toNat r.toInt.toNat (9 - m.toInt.toNat) m.toInt.toNat)) else -1000001
theorem es_lst_bd {l : List Int} {a b y : Nat} (h : es_lst l a b = some y) : 2 ≤ y ∧ y < 10 := es_fs_bd h
theorem es_sum3 {a b y : Nat} : ((1000 * nI a) + (100 * nI b)) + nI y = nI (1000 * a + 100 * b + y) := by
  rw [show (1000 : Int32) = nI 1000 from rfl, show (100 : Int32) = nI 100 from rfl, pk_mul, pk_mul, nI_add, nI_add]
theorem s_found (d : Nat) {p m r : Nat} {A : es_A} {μ : mz_M} {l : List Int} (hA : es_C μ A) (h : es_row μ p l) (hm : 1 ≤ m) (hm2 : m ≤ 8) (hr : r < m) : ∀ (g a : Nat), a + g = 9 → m ≤ a → es_fo l m r (9 - m) m = es_fo l m r g a → v_ES_found (es_R (d + 3)) (es_qI (es_ans (es_lvI (es_fo l m r (9 - m) m), A))) (46, [(2, mz_I (nI m)), (3, mz_I (nI r)), (4, mz_R 3 p), (5, mz_I (nI a))], [], μ) := by
  have c1 := h.1.1
  intro g
  induction g with
  | zero =>
    intro a ha hma he
    refine w_ES_found_46 _ _ p _ μ (es_t (nI_lt (a := 8) (by omega) (by omega)) (es_rI ⟨?_, hA⟩))
    rw [he]; rfl
  | succ g ih =>
    intro a ha hma he
    have inner : ∀ (g2 b : Nat), b + g2 = a → es_fi l a (a - (if a = m then r else 0)) (if a = m then r else 0) = es_fi l a g2 b → v_ES_found (es_R (d + 3)) (es_qI (es_ans (es_lvI (es_fo l m r (9 - m) m), A))) (66, [(2, mz_I (nI m)), (3, mz_I (nI r)), (4, mz_R 3 p), (5, mz_I (nI a)), (6, mz_I (nI b))], [], μ) := by
      intro g2
      induction g2 with
      | zero =>
        intro b hb hi
        refine w_ES_found_66 _ _ p _ _ μ (es_t (nI_le (by omega) (by omega)) ?_)
        rw [nI_1]
        refine ih (a + 1) (by omega) (by omega) ?_
        rw [he, es_fo_n (by rw [hi]; rfl)]
      | succ g2 ih2 =>
        intro b hb hi
        refine w_ES_found_66 _ _ p _ _ μ (es_f (nI_ge (by omega) (by omega)) ?_)
        rw [h.2.1, show (2 : Int32) = nI 2 from rfl, pk_mul, nI_add]
        refine es_br (fun q => es_t rfl ?_) (fun q => ?_)
        · have q := (nI_leI (by omega) (by omega)).mp q
          rw [nI_1]
          refine ih2 (b + 1) (by omega) ?_
          rw [hi, es_fi_n (if_neg (by omega))]
        · have q : ¬ l.length ≤ b + 2 * a := fun z => q (nI_le z (by omega))
          have hq := es_lvI_n (o := es_lst l a b) (fun k hk => by have := es_lst_bd hk; omega)
          refine ⟨_, _, es_pure (s_leastFitting d h (m := a) (r := b) (by omega) (by omega) (by omega)), es_br (fun q2 => ?_) (fun q2 => es_rI ⟨?_, hA⟩)⟩
          · rw [nI_1]
            refine ih2 (b + 1) (by omega) ?_
            rw [hi, es_fi_n (by rw [if_pos (by omega)]; exact hq.mp q2)]
          · cases hy : es_lst l a b with
            | none => exact absurd (hq.mpr hy) q2
            | some y =>
              rw [he, es_fo_s (y := 1000 * a + 100 * b + y) (by rw [hi]; exact es_fi_s (by rw [if_pos (by omega)]; exact hy))]
              exact es_sum3
    refine w_ES_found_46 _ _ p _ μ (es_f (nI_nlt (a := 8) (b := a) (by omega) (by omega)) (es_br (fun q => ?_) (fun q => ?_)))
    · have q := (nI_eq (by omega) (by omega)).mp q
      refine inner (a - r) r (by omega) ?_
      rw [if_pos q]
    · have q : ¬ a = m := fun z => q (by rw [z])
      refine inner a 0 (by omega) ?_
      rw [if_neg q]; rfl
theorem es_stp_n {m r : Int32} (h : es_stp m r = true) : ∃ mn rn : Nat, m = nI mn ∧ r = nI rn ∧ 1 ≤ mn ∧ mn ≤ 8 ∧ rn < mn ∧ m.toInt = mn ∧ r.toInt = rn := by
  have k2 := of_decide_eq_true h
  exact ⟨m.toInt.toNat, r.toInt.toNat, es_nIof (by omega), es_nIof (by omega), by omega, by omega, by omega, by omega, by omega⟩
theorem c_found (d : Nat) {μ : mz_M} {A : es_A} (h : es_C μ A) (s m r : Int32) : es_I (d + 4) n_ES_found [mz_R 0 0, mz_I s, mz_I m, mz_I r] μ (es_ans (es_found A s m r, A)) := by
  refine es_I.mk (w_ES_found_0 0 s m r μ ?_)
  have bad : ¬ (es_4ok s = true ∧ es_stp m r = true) → es_qI (es_ans (es_found A s m r, A)) (some (mz_I (-1000001))) μ := by
    intro z
    unfold es_found
    rw [if_neg z]
    exact es_rI ⟨rfl, h⟩
  refine ⟨_, _, es_pure (s_isFour (d + 2) s μ), es_br (fun q => bad (fun z => es_bf q (of_decide_eq_true z.1))) (fun q => ?_)⟩
  have b1 := es_bt q
  refine ⟨_, _, es_pure (s_isStep (d + 2) m r μ), es_br (fun q => bad (fun z => by rw [es_b_0] at q; rw [q] at z; cases z.2)) (fun q2 => ?_)⟩
  have k1 : es_stp m r = true := Bool.of_not_eq_false (fun z => q2 (es_b_0.mpr z))
  unfold es_found
  rw [if_pos ⟨decide_eq_true b1, k1⟩]
  refine ⟨_, _, es_pure (s_missing (d + 1) h.1 b1.1 b1.2), es_br (fun q5 => ⟨es_in b1.1 b1.2, ?_⟩) (fun q5 => es_rI ⟨?_, h⟩)⟩
  · rw [if_neg (show ¬ es_sl A s = [] from es_bf q5)]
    obtain ⟨mn, rn, rfl, rfl, h1, h2, h3, e1, e2⟩ := es_stp_n k1
    rw [e1, e2]
    exact s_found d h (h.row b1.1 b1.2) h1 h2 h3 (9 - mn) mn (by omega) (by omega) rfl
  · rw [if_pos (show es_sl A s = [] from es_bt q5)]
theorem es_par1 (x : Int32) : (x &&& 1 = 0) ↔ x.toInt % 2 = 0 := by
  rw [pk_and x (m := 1) 1 (by decide +kernel)]
  have h1 : x.toInt = if 2 * x.toBitVec.toNat < 2 ^ 32 then (x.toBitVec.toNat : Int) else (x.toBitVec.toNat : Int) - (2 ^ 32 : Nat) := BitVec.toInt_eq_toNat_cond x.toBitVec
  constructor
  · intro h
    have := (nI_eq (a := x.toBitVec.toNat % 2 ^ 1) (b := 0) (by omega) (by omega)).mp h
    rw [h1]
    by_cases e : 2 * x.toBitVec.toNat < 2 ^ 32
    · rw [if_pos e]; omega
    · rw [if_neg e]; omega
  · intro h
    have e2 : x.toBitVec.toNat % 2 ^ 1 = 0 := by
      rw [h1] at h
      by_cases e : 2 * x.toBitVec.toNat < 2 ^ 32
      · rw [if_pos e] at h; omega
      · rw [if_neg e] at h; omega
    rw [e2]; rfl
/-- what stands above, before it is made small -/
def es_ov (l : List Int) (c : Nat) : Nat → Nat
  | 0 => 1
  | n + 1 => es_ov l c n * (if l.getD n 0 % 2 = 0 then 10 - c else c)
theorem es_ov_pw (l : List Int) (c : Nat) : ∀ n, ∃ e, e ≤ n ∧ es_ov l c n = (10 - c) ^ e * c ^ (n - e)
  | 0 => ⟨0, Nat.le_refl _, rfl⟩
  | n + 1 => by
    obtain ⟨e, h1, h2⟩ := es_ov_pw l c n
    unfold es_ov
    by_cases q : l.getD n 0 % 2 = 0
    · refine ⟨e + 1, by omega, ?_⟩
      rw [if_pos q, h2, Nat.pow_succ, show n + 1 - (e + 1) = n - e by omega, Nat.mul_right_comm]
    · refine ⟨e, by omega, ?_⟩
      rw [if_neg q, h2, show n + 1 - e = n - e + 1 by omega, Nat.pow_succ, Nat.mul_assoc]
theorem es_ov_bd (l : List Int) {c : Nat} (hc : c ≤ 10) : ∀ n, es_ov l c n ≤ 10 ^ n
  | 0 => Nat.le_refl _
  | n + 1 => by
    unfold es_ov
    rw [Nat.pow_succ]
    refine Nat.mul_le_mul (es_ov_bd l hc n) ?_
    by_cases q : l.getD n 0 % 2 = 0
    · rw [if_pos q]; omega
    · rw [if_neg q]; exact hc
def es_d1p (q : Nat) (w : Nat × Nat) : Nat × Nat := if w.1 % q = 0 then (if w.2 % q = 0 then (w.1 / q, w.2 / q) else w) else w
def es_rdn (w : Nat × Nat) : Nat → Nat × Nat
  | 0 => w
  | n + 1 => es_rdn (es_d1p 5 (es_d1p 2 w)) n
theorem es_rdn_gcd : ∀ n, n < 7 → ∀ e, e < n + 1 → ∀ c, c < 11 → es_rdn ((10 - c) ^ e * c ^ (n - e), 10 ^ n) n = ((10 - c) ^ e * c ^ (n - e) / Nat.gcd ((10 - c) ^ e * c ^ (n - e)) (10 ^ n), 10 ^ n / Nat.gcd ((10 - c) ^ e * c ^ (n - e)) (10 ^ n)) := by decide +kernel
theorem es_d1p_le (q : Nat) (w : Nat × Nat) : (es_d1p q w).1 ≤ w.1 ∧ (es_d1p q w).2 ≤ w.2 := by
  unfold es_d1p
  by_cases e : w.1 % q = 0
  · rw [if_pos e]
    by_cases e2 : w.2 % q = 0
    · rw [if_pos e2]
      exact ⟨Nat.div_le_self _ _, Nat.div_le_self _ _⟩
    · rw [if_neg e2]; exact ⟨Nat.le_refl _, Nat.le_refl _⟩
  · rw [if_neg e]; exact ⟨Nat.le_refl _, Nat.le_refl _⟩
theorem es_ce (d : Nat) {Q : Option mz_V → mz_M → Prop} {n x a b k : Nat} {μ : mz_M} (ha : a < 2000000) (hb : b < 2000000) (hk : k < n) (hn : n < 100) (h : v_ES_chanceOfEven (es_R d) Q (55, [(1, mz_I (nI n)), (3, mz_I (nI x)), (4, mz_I (nI (es_d1p 5 (es_d1p 2 (a, b))).1)), (5, mz_I (nI (es_d1p 5 (es_d1p 2 (a, b))).2)), (6, mz_I (nI (k + 1)))], [], μ)) :
    v_ES_chanceOfEven (es_R d) Q (55, [(1, mz_I (nI n)), (3, mz_I (nI x)), (4, mz_I (nI a)), (5, mz_I (nI b)), (6, mz_I (nI k))], [], μ) := by
  have n2 : ¬ (2 : Int32) = 0 := by decide +kernel
  have n5 : ¬ (5 : Int32) = 0 := by decide +kernel
  refine w_ES_chanceOfEven_55 _ _ _ _ _ μ (es_f (nI_ge hk (by omega)) ⟨n2, ?_⟩)
  have r2 : ∀ a, a < 2000000 → ((nI a - nI a / 2 * 2 = 0) ↔ a % 2 = 0) := fun a ha => es_remn (p := 2) (by omega) (by omega) (by omega)
  have r5 : ∀ a, a < 2000000 → ((nI a - nI a / 5 * 5 = 0) ↔ a % 5 = 0) := fun a ha => es_remn (p := 5) (by omega) (by omega) (by omega)
  have d2 : ∀ a, a < 2000000 → nI a / 2 = nI (a / 2) := fun a ha => pk_div (d := 2) (by omega) (by omega) (by omega)
  have d5 : ∀ a, a < 2000000 → nI a / 5 = nI (a / 5) := fun a ha => pk_div (d := 5) (by omega) (by omega) (by omega)
  by_cases e1 : a % 2 = 0
  · refine es_t ((r2 a ha).mpr e1) ⟨n2, ?_⟩
    by_cases e2 : b % 2 = 0
    · refine es_t ((r2 b hb).mpr e2) ⟨n2, n2, n5, ?_⟩
      have e3 : es_d1p 2 (a, b) = (a / 2, b / 2) := by
        unfold es_d1p
        dsimp only
        rw [if_pos e1, if_pos e2]
      rw [e3] at h
      rw [d2 a ha, d2 b hb]
      by_cases f1 : a / 2 % 5 = 0
      · refine es_t ((r5 _ (by omega)).mpr f1) ⟨n5, ?_⟩
        by_cases f2 : b / 2 % 5 = 0
        · refine es_t ((r5 _ (by omega)).mpr f2) ⟨n5, n5, ?_⟩
          have e4 : es_d1p 5 (a / 2, b / 2) = (a / 2 / 5, b / 2 / 5) := by
            unfold es_d1p
            dsimp only
            rw [if_pos f1, if_pos f2]
          rw [d5 _ (by omega), d5 _ (by omega), nI_1]
          rw [e4] at h
          exact h
        · have e4 : es_d1p 5 (a / 2, b / 2) = (a / 2, b / 2) := by
            unfold es_d1p
            dsimp only
            rw [if_pos f1, if_neg f2]
          refine es_f (fun z => f2 ((r5 _ (by omega)).mp z)) ?_
          rw [nI_1]
          rw [e4] at h
          exact h
      · have e4 : es_d1p 5 (a / 2, b / 2) = (a / 2, b / 2) := by
          unfold es_d1p
          dsimp only
          rw [if_neg f1]
        refine es_f (fun z => f1 ((r5 _ (by omega)).mp z)) ?_
        rw [nI_1]
        rw [e4] at h
        exact h
    · refine es_f (fun z => e2 ((r2 b hb).mp z)) ⟨n5, ?_⟩
      have e3 : es_d1p 2 (a, b) = (a, b) := by
        unfold es_d1p
        dsimp only
        rw [if_pos e1, if_neg e2]
      rw [e3] at h
      by_cases f1 : a % 5 = 0
      · refine es_t ((r5 _ (by omega)).mpr f1) ⟨n5, ?_⟩
        by_cases f2 : b % 5 = 0
        · refine es_t ((r5 _ (by omega)).mpr f2) ⟨n5, n5, ?_⟩
          have e4 : es_d1p 5 (a, b) = (a / 5, b / 5) := by
            unfold es_d1p
            dsimp only
            rw [if_pos f1, if_pos f2]
          rw [d5 _ (by omega), d5 _ (by omega), nI_1]
          rw [e4] at h
          exact h
        · have e4 : es_d1p 5 (a, b) = (a, b) := by
            unfold es_d1p
            dsimp only
            rw [if_pos f1, if_neg f2]
          refine es_f (fun z => f2 ((r5 _ (by omega)).mp z)) ?_
          rw [nI_1]
          rw [e4] at h
          exact h
      · have e4 : es_d1p 5 (a, b) = (a, b) := by
          unfold es_d1p
          dsimp only
          rw [if_neg f1]
        refine es_f (fun z => f1 ((r5 _ (by omega)).mp z)) ?_
        rw [nI_1]
        rw [e4] at h
        exact h
  · refine es_f (fun z => e1 ((r2 a ha).mp z)) ⟨n5, ?_⟩
    have e3 : es_d1p 2 (a, b) = (a, b) := by
      unfold es_d1p
      dsimp only
      rw [if_neg e1]
    rw [e3] at h
    by_cases f1 : a % 5 = 0
    · refine es_t ((r5 _ (by omega)).mpr f1) ⟨n5, ?_⟩
      by_cases f2 : b % 5 = 0
      · refine es_t ((r5 _ (by omega)).mpr f2) ⟨n5, n5, ?_⟩
        have e4 : es_d1p 5 (a, b) = (a / 5, b / 5) := by
          unfold es_d1p
          dsimp only
          rw [if_pos f1, if_pos f2]
        rw [d5 _ (by omega), d5 _ (by omega), nI_1]
        rw [e4] at h
        exact h
      · have e4 : es_d1p 5 (a, b) = (a, b) := by
          unfold es_d1p
          dsimp only
          rw [if_pos f1, if_neg f2]
        refine es_f (fun z => f2 ((r5 _ (by omega)).mp z)) ?_
        rw [nI_1]
        rw [e4] at h
        exact h
    · have e4 : es_d1p 5 (a, b) = (a, b) := by
        unfold es_d1p
        dsimp only
        rw [if_neg f1]
      refine es_f (fun z => f1 ((r5 _ (by omega)).mp z)) ?_
      rw [nI_1]
      rw [e4] at h
      exact h
def es_gv (l : List Int) (n c : Nat) (up : Bool) : Nat := (if up then es_ov l c n else 10 ^ n) / Nat.gcd (es_ov l c n) (10 ^ n)
theorem s_chance (d : Nat) {p n c : Nat} {up : Bool} {μ : mz_M} {l : List Int} (h : es_row μ p l) (hn : n ≤ 6) (hc : c ≤ 10) : es_I (d + 2) n_ES_chanceOfEven [mz_R 3 p, mz_I (nI n), mz_I (nI c), mz_I (es_b up)] μ (fun r μ' => μ' = μ ∧ r = nI (es_gv l n c up)) := by
  have hup : es_b up = nI (if up then 1 else 0) := by cases up <;> rfl
  have h6 : 10 ^ n ≤ 1000000 := Nat.le_trans (Nat.pow_le_pow_right (by omega) hn) (by decide)
  refine es_I.mk (w_ES_chanceOfEven_0 p _ _ _ μ ?_)
  rw [hup]
  have red : ∀ (g k : Nat) (w : Nat × Nat), k + g = n → w.1 ≤ 1000000 → w.2 ≤ 1000000 → es_rdn (es_ov l c n, 10 ^ n) n = es_rdn w g → v_ES_chanceOfEven (es_R (d + 1)) (es_qI (fun r μ' => μ' = μ ∧ r = nI (es_gv l n c up))) (55, [(1, mz_I (nI n)), (3, mz_I (nI (if up then 1 else 0))), (4, mz_I (nI w.1)), (5, mz_I (nI w.2)), (6, mz_I (nI k))], [], μ) := by
    intro g
    induction g with
    | zero =>
      intro k w hk h1 h2 he
      obtain ⟨e, e1, e2⟩ := es_ov_pw l c n
      have hg := es_rdn_gcd n (by omega) e (by omega) c (by omega)
      rw [← e2, he] at hg
      have hg : w = _ := hg
      refine w_ES_chanceOfEven_55 _ _ _ _ _ μ (es_t (nI_le (by omega) (by omega)) ?_)
      cases up with
      | false =>
        refine es_t rfl (es_rI ⟨rfl, ?_⟩)
        rw [hg]; rfl
      | true =>
        refine es_f (by decide +kernel) (es_rI ⟨rfl, ?_⟩)
        rw [hg]; rfl
    | succ g ih =>
      intro k w hk h1 h2 he
      refine es_ce (d + 1) (by omega) (by omega) (by omega) (by omega) ?_
      have q1 := es_d1p_le 2 w
      have q2 := es_d1p_le 5 (es_d1p 2 w)
      exact ih (k + 1) (es_d1p 5 (es_d1p 2 w)) (by omega) (by omega) (by omega) he
  have key : ∀ (g k : Nat), k + g = n → v_ES_chanceOfEven (es_R (d + 1)) (es_qI (fun r μ' => μ' = μ ∧ r = nI (es_gv l n c up))) (9, [(0, mz_R 3 p), (1, mz_I (nI n)), (2, mz_I (nI c)), (3, mz_I (nI (if up then 1 else 0))), (4, mz_I (nI (es_ov l c k))), (5, mz_I (nI (10 ^ k))), (6, mz_I (nI k))], [], μ) := by
    intro g
    induction g with
    | zero =>
      intro k hk
      have hk : k = n := by omega
      subst hk
      refine w_ES_chanceOfEven_9 p _ _ _ _ _ _ μ (es_t (nI_le (by omega) (by omega)) ?_)
      exact red k 0 (es_ov l c k, 10 ^ k) (by omega) (by have := es_ov_bd l hc k; dsimp only; omega) h6 rfl
    | succ g ih =>
      intro k hk
      refine w_ES_chanceOfEven_9 p _ _ _ _ _ _ μ (es_f (nI_ge (by omega) (by omega)) ?_)
      obtain ⟨r, hA, hr⟩ := es_pur (s_at_n d (k := k) h (by omega))
      have nx := ih (k + 1) (by omega)
      rw [Nat.pow_succ, es_ov] at nx
      refine ⟨_, _, hA, es_br (fun q => ?_) (fun q => ?_)⟩
      · rw [es_par1, hr] at q
        rw [if_pos q] at nx
        rw [show (10 : Int32) = nI 10 from rfl, pk_sub hc, pk_mul, pk_mul, nI_1]
        exact nx
      · rw [es_par1, hr] at q
        rw [if_neg q] at nx
        rw [show (10 : Int32) = nI 10 from rfl, pk_mul, pk_mul, nI_1]
        exact nx
  exact key n 0 (by omega)
def es_guess (A : es_A) (s n c w : Int32) : Int32 := if es_4ok s = true ∧ (0 ≤ n.toInt ∧ n.toInt ≤ 6) ∧ (0 ≤ c.toInt ∧ c.toInt ≤ 10) ∧ (0 ≤ w.toInt ∧ w.toInt ≤ 1) then (if es_sl A s = [] then -1000011 else if ((es_sl A s).length : Int) < n.toInt then -1000001 else nI (es_gv (es_sl A s) n.toInt.toNat c.toInt.toNat (decide (w.toInt = 0)))) else -1000001
theorem c_guess (d : Nat) {μ : mz_M} {A : es_A} (h : es_C μ A) (s n c w : Int32) : es_I (d + 3) n_ES_guess [mz_R 0 0, mz_I s, mz_I n, mz_I c, mz_I w] μ (es_ans (es_guess A s n c w, A)) := by
  refine es_I.mk (w_ES_guess_0 0 s n c w μ ?_)
  have bad : ¬ (es_4ok s = true ∧ (0 ≤ n.toInt ∧ n.toInt ≤ 6) ∧ (0 ≤ c.toInt ∧ c.toInt ≤ 10) ∧ (0 ≤ w.toInt ∧ w.toInt ≤ 1)) → es_qI (es_ans (es_guess A s n c w, A)) (some (mz_I (-1000001))) μ := by
    intro z
    unfold es_guess
    rw [if_neg z]
    exact es_rI ⟨rfl, h⟩
  refine ⟨_, _, es_pure (s_isFour (d + 1) s μ), es_br (fun q => bad (fun z => es_bf q (of_decide_eq_true z.1))) (fun q => ?_)⟩
  refine ⟨_, _, es_pure (s_isWithin (d + 1) n (m := 6) (by omega) μ), es_br (fun q => bad (fun z => es_bf q z.2.1)) (fun q2 => ?_)⟩
  refine ⟨_, _, es_pure (s_isWithin (d + 1) c (m := 10) (by omega) μ), es_br (fun q => bad (fun z => es_bf q z.2.2.1)) (fun q3 => ?_)⟩
  refine ⟨_, _, es_pure (s_isWithin (d + 1) w (m := 1) (by omega) μ), es_br (fun q => bad (fun z => es_bf q z.2.2.2)) (fun q4 => ?_)⟩
  have b1 := es_bt q
  have b2 := es_bt q2
  have b3 := es_bt q3
  have b4 := es_bt q4
  unfold es_guess
  rw [if_pos ⟨decide_eq_true b1, b2, b3, b4⟩]
  refine ⟨_, _, es_pure (s_missing d h.1 b1.1 b1.2), es_br (fun q5 => ⟨es_in b1.1 b1.2, ?_⟩) (fun q5 => es_rI ⟨?_, h⟩)⟩
  · have hrow := h.row b1.1 b1.2
    have h40 := hrow.1.1
    have hsz : μ.1 (3 + 2 * s.toNatClampNeg) 1 = nI (es_sl A s).length := hrow.2.1
    rw [if_neg (show ¬ es_sl A s = [] from es_bf q5), hsz]
    obtain ⟨nn, hn, rfl⟩ : ∃ nn : Nat, nn ≤ 6 ∧ n = nI nn := ⟨n.toInt.toNat, by omega, es_nIof b2.1⟩
    obtain ⟨cn, hc, rfl⟩ : ∃ cn : Nat, cn ≤ 10 ∧ c = nI cn := ⟨c.toInt.toNat, by omega, es_nIof b3.1⟩
    rw [nI_toInt (by omega), nI_toInt (by omega)]
    refine es_br (fun q6 => ?_) (fun q6 => es_rI ⟨?_, h⟩)
    · have q6 := (nI_leI (by omega) (by omega)).mp q6
      rw [if_neg (show ¬ ((es_sl A s).length : Int) < (nn : Int) by omega)]
      refine es_br (fun q7 => ?_) (fun q7 => ?_)
      · have q7 := (es_eqn 0 (by omega)).mp q7
        refine ⟨_, _, es_pure (s_chance d (up := true) hrow hn hc), es_rI ⟨?_, h⟩⟩
        rw [decide_eq_true (by omega)]; rfl
      · have q7 := es_neqn 0 (by omega) q7
        refine ⟨_, _, es_pure (s_chance d (up := false) hrow hn hc), es_rI ⟨?_, h⟩⟩
        rw [decide_eq_false (by omega)]; rfl
    · have q6 : ¬ nn ≤ (es_sl A s).length := fun z => q6 (nI_le z (by omega))
      rw [if_pos (show ((es_sl A s).length : Int) < (nn : Int) by omega)]
  · rw [if_pos (show es_sl A s = [] from es_bt q5)]
