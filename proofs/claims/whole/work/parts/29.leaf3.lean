/-! Level, index, bound. -/
def es_dd (its : List Int64) (i k : Nat) : Int := (its.getD (i + 2 * k) 0).toInt
def es_ee (its : List Int64) (i k : Nat) : Int := (its.getD (i + 2 * k + 1) 0).toInt
theorem es_okp_bd {its : List Int64} {i n k : Nat} (h : es_okp its i n = true) (hk : k < n) : 1 ≤ es_dd its i k ∧ es_dd its i k ≤ 12 ∧ -9 ≤ es_ee its i k ∧ es_ee its i k ≤ 9 := of_decide_eq_true (es_okp_at h hk)
def es_lo (its : List Int64) (i : Nat) (n : Nat) : Int := fb_si (fun k => es_dd its i k * es_ee its i k) n
def es_hg (its : List Int64) (i N : Nat) (n : Nat) : Int := fb_si (fun k => (N : Int) / es_dd its i k * es_ee its i k) n
def es_dvs (its : List Int64) (i N : Nat) : Nat → Bool
  | 0 => true
  | n + 1 => es_dvs its i N n && decide (es_ee its i n = 0 ∨ (N : Int) % es_dd its i n = 0)
theorem es_dvs_up {its : List Int64} {i N : Nat} : ∀ {n k : Nat}, k ≤ n → es_dvs its i N k = false → es_dvs its i N n = false
  | 0, k, h, hk => by
    have : k = 0 := by omega
    subst this; exact hk
  | n + 1, k, h, hk => by
    by_cases e : k = n + 1
    · subst e; exact hk
    · unfold es_dvs
      rw [es_dvs_up (by omega) hk]; rfl
def es_isl (its : List Int64) (i n N : Nat) : Bool := es_dvs its i N n && (decide (es_lo its i n % 24 = 0) && decide (es_hg its i N n % 24 = 0))
theorem es_small {v : Int64} {a : Int} (h : v.toInt = a) (h1 : -1000 ≤ a) (h2 : a ≤ 1000) : v.toInt32.toInt = a := by
  rw [es_l2i (by omega) (by omega), h]
set_option maxHeartbeats 1000000 in
theorem s_isLevel (d : Nat) {p i n N : Nat} {μ : mz_M} {ln : Nat} {its : List Int64} (h : es_lf μ p (some (ln, its))) (hi : i ≤ 100) (hn : n ≤ 6) (hN : N ≤ 600) (hok : es_okp its i n = true) : es_I (d + 3) n_Leaf_isLevel [mz_R 14 p, mz_I (nI N), mz_I (nI i), mz_I (nI n)] μ (fun r μ' => μ' = μ ∧ r = es_b (es_isl its i n N)) := by
  refine es_I.mk (w_Leaf_isLevel_0 p _ _ _ μ ?_)
  have b1 : ∀ k, k ≤ n → -(k * 108 : Int) ≤ es_lo its i k ∧ es_lo its i k ≤ (k * 108 : Int) := fun k hk => fb_si_bound (by omega) (fun j hj => by
    have := es_okp_bd hok (show j < n by omega)
    have := es_mulb (A := 12) (B := 9) (a := es_dd its i j) (b := es_ee its i j) (by omega) (by omega)
    omega)
  have hq : ∀ k, k < n → 0 ≤ (N : Int) / es_dd its i k ∧ (N : Int) / es_dd its i k ≤ 600 := by
    intro k hk
    have := es_okp_bd hok hk
    have h1 := Int.ediv_nonneg (a := (N : Int)) (b := es_dd its i k) (by omega) (by omega)
    have h2 := Int.ediv_le_self (a := (N : Int)) (es_dd its i k) (by omega)
    omega
  have b2 : ∀ k, k ≤ n → -(k * 5400 : Int) ≤ es_hg its i N k ∧ es_hg its i N k ≤ (k * 5400 : Int) := fun k hk => fb_si_bound (by omega) (fun j hj => by
    have h1 := es_okp_bd hok (show j < n by omega)
    have h2 := hq j (by omega)
    have := es_mulb (A := 600) (B := 9) (a := (N : Int) / es_dd its i j) (b := es_ee its i j) (by omega) (by omega)
    omega)
  have e24 : (24 : Int32).toInt = 24 := by decide +kernel
  have key : ∀ (g k : Nat) (x y : Int32), n - k ≤ g → k ≤ n → x.toInt = es_lo its i k → y.toInt = es_hg its i N k → es_dvs its i N k = true → v_Leaf_isLevel (es_R (d + 2)) (es_qI (fun r μ' => μ' = μ ∧ r = es_b (es_isl its i n N))) (9, [(0, mz_R 14 p), (1, mz_I (nI N)), (2, mz_I (nI i)), (3, mz_I (nI n)), (4, mz_I x), (5, mz_I y), (6, mz_I (nI k))], [], μ) := by
    have stop : ∀ (k : Nat) (x y : Int32), k = n → x.toInt = es_lo its i k → y.toInt = es_hg its i N k → es_dvs its i N k = true → v_Leaf_isLevel (es_R (d + 2)) (es_qI (fun r μ' => μ' = μ ∧ r = es_b (es_isl its i n N))) (9, [(0, mz_R 14 p), (1, mz_I (nI N)), (2, mz_I (nI i)), (3, mz_I (nI n)), (4, mz_I x), (5, mz_I y), (6, mz_I (nI k))], [], μ) := by
      intro k x y hk hx hy hd
      subst hk
      refine w_Leaf_isLevel_9 p _ _ _ x y _ μ (es_t (nI_le (by omega) (by omega)) ⟨by decide +kernel, es_br (fun q => ⟨by decide +kernel, es_br (fun q2 => ⟨Or.inr rfl, es_rI ⟨rfl, ?_⟩⟩) (fun q2 => ⟨Or.inl rfl, es_rI ⟨rfl, ?_⟩⟩)⟩) (fun q => ⟨Or.inl rfl, es_rI ⟨rfl, ?_⟩⟩)⟩)
      · rw [es_rem (by rw [e24]; omega), e24, hx] at q
        rw [es_rem (by rw [e24]; omega), e24, hy] at q2
        unfold es_isl
        rw [hd, decide_eq_true q, decide_eq_true q2]; rfl
      · rw [es_rem (by rw [e24]; omega), e24, hy] at q2
        unfold es_isl
        rw [decide_eq_false q2, Bool.and_false, Bool.and_false]; rfl
      · rw [es_rem (by rw [e24]; omega), e24, hx] at q
        unfold es_isl
        rw [decide_eq_false q, Bool.false_and, Bool.and_false]; rfl
    intro g
    induction g with
    | zero => exact fun k x y hg hk hx hy hd => stop k x y (by omega) hx hy hd
    | succ g ih =>
      intro k x y hg hk hx hy hd
      by_cases e : k = n
      · exact stop k x y e hx hy hd
      · refine w_Leaf_isLevel_9 p _ _ _ x y _ μ (es_f (nI_ge (by omega) (by omega)) ?_)
        have bd := es_okp_bd hok (show k < n by omega)
        have hdv : (its.getD (i + 2 * k) 0).toInt32.toInt = es_dd its i k := es_small rfl (by omega) (by omega)
        have hev : (its.getD (i + 2 * k + 1) 0).toInt32.toInt = es_ee its i k := es_small rfl (by omega) (by omega)
        refine ⟨_, _, es_pure (s_divisor d (k := k) h (by omega) (by omega)), ?_⟩
        refine ⟨_, _, es_pure (s_exponent d (k := k) h (by omega) (by omega)), ?_⟩
        generalize (its.getD (i + 2 * k) 0).toInt32 = dv at hdv
        generalize (its.getD (i + 2 * k + 1) 0).toInt32 = ev at hev
        have s1 : es_lo its i (k + 1) = es_lo its i k + es_dd its i k * es_ee its i k := fb_si_succ _ _
        have s2 : es_hg its i N (k + 1) = es_hg its i N k + (N : Int) / es_dd its i k * es_ee its i k := fb_si_succ _ _
        rw [nI_1]
        refine es_br (fun q => ?_) (fun q => es_f ?_ ⟨?_, ?_⟩)
        · have q0 : es_ee its i k = 0 := by rw [← hev, q]; rfl
          refine ih (k + 1) x y (by omega) (by omega) (by rw [s1, q0, hx]; omega) (by rw [s2, q0, hy]; omega) ?_
          unfold es_dvs
          rw [hd, decide_eq_true (Or.inl q0)]; rfl
        · intro z
          have := es_hlt z
          rw [es_i1, hdv] at this
          omega
        · intro z
          rw [z, es_i0] at hdv
          omega
        · have q0 : es_ee its i k ≠ 0 := by rw [← hev]; intro z; exact q (Int32.toInt_inj.mp (z.trans es_i0.symm))
          have hNi : (nI N).toInt = N := nI_toInt (by omega)
          refine es_br (fun q2 => ⟨?_, ?_⟩) (fun q2 => ⟨Or.inl rfl, es_rI ⟨rfl, ?_⟩⟩)
          · intro z
            rw [z, es_i0] at hdv
            omega
          · rw [es_rem (by omega), hNi, hdv] at q2
            have hqq := hq k (by omega)
            have m1 := es_mulb (A := 12) (B := 9) (a := es_dd its i k) (b := es_ee its i k) (by omega) (by omega)
            have m2 := es_mulb (A := 600) (B := 9) (a := (N : Int) / es_dd its i k) (b := es_ee its i k) (by omega) (by omega)
            have c1 := b1 k (by omega)
            have c2 := b2 k (by omega)
            have hdvn : dv = nI (es_dd its i k).toNat := by
              rw [← hdv]
              exact es_nIof (by omega)
            have hdiv : (nI N / dv).toInt = (N : Int) / es_dd its i k := by
              rw [hdvn, pk_div (by omega) (by omega) (by omega), nI_toInt (by
                have := Nat.div_le_self N (es_dd its i k).toNat
                omega)]
              rw [Int.natCast_ediv, Int.toNat_of_nonneg (by omega)]
            have e1 : (dv * ev).toInt = es_dd its i k * es_ee its i k := by rw [fb_mulI] <;> rw [hdv, hev] <;> omega
            have e2 : (nI N / dv * ev).toInt = (N : Int) / es_dd its i k * es_ee its i k := by rw [fb_mulI] <;> rw [hdiv, hev] <;> omega
            refine ih (k + 1) _ _ (by omega) (by omega) ?_ ?_ ?_
            · rw [s1, fb_addI] <;> rw [hx, e1] <;> omega
            · rw [s2, fb_addI] <;> rw [hy, e2] <;> omega
            · unfold es_dvs
              rw [hd, decide_eq_true (Or.inr q2)]; rfl
          · rw [es_rem (by omega), hNi, hdv] at q2
            have : es_dvs its i N (k + 1) = false := by
              unfold es_dvs
              rw [hd, decide_eq_false (by omega)]; rfl
            unfold es_isl
            rw [es_dvs_up (by omega) this]; rfl
  exact key n 0 0 0 (by omega) (by omega) rfl rfl rfl
/-- the first of g numbers from N on -/
def es_fs (P : Nat → Bool) : Nat → Nat → Option Nat
  | 0, _ => none
  | g + 1, N => if P N = true then some N else es_fs P g (N + 1)
def es_lvI (o : Option Nat) : Int32 := match o with
  | none => -1000004
  | some N => nI N
theorem s_level (d : Nat) {p i n : Nat} {μ : mz_M} {ln : Nat} {its : List Int64} (h : es_lf μ p (some (ln, its))) (hi : i ≤ 100) (hn : n ≤ 6) (hok : es_okp its i n = true) : es_I (d + 4) n_Leaf_level [mz_R 14 p, mz_I (nI i), mz_I (nI n)] μ (fun r μ' => μ' = μ ∧ r = es_lvI (es_fs (es_isl its i n) 600 1)) := by
  refine es_I.mk (w_Leaf_level_0 p _ _ μ ?_)
  have key : ∀ (g N : Nat), N + g = 601 → es_fs (es_isl its i n) 600 1 = es_fs (es_isl its i n) g N → v_Leaf_level (es_R (d + 3)) (es_qI (fun r μ' => μ' = μ ∧ r = es_lvI (es_fs (es_isl its i n) 600 1))) (2, [(0, mz_R 14 p), (1, mz_I (nI i)), (2, mz_I (nI n)), (3, mz_I (nI N))], [], μ) := by
    intro g
    induction g with
    | zero =>
      intro N hg he
      refine w_Leaf_level_2 p _ _ _ μ (es_t (nI_lt (a := 600) (by omega) (by omega)) (es_rI ⟨rfl, ?_⟩))
      rw [he]; rfl
    | succ g ih =>
      intro N hg he
      refine w_Leaf_level_2 p _ _ _ μ (es_f (nI_nlt (a := 600) (b := N) (by omega) (by omega)) ?_)
      refine ⟨_, _, es_pure (s_isLevel d h hi hn (N := N) (by omega) hok), es_br (fun q => ?_) (fun q => es_rI ⟨rfl, ?_⟩)⟩
      · rw [es_b_0] at q
        rw [nI_1]
        refine ih (N + 1) (by omega) ?_
        rw [he]
        show (if es_isl its i n N = true then some N else es_fs (es_isl its i n) g (N + 1)) = _
        rw [if_neg (by rw [q]; decide)]
      · rw [es_b_0] at q
        rw [he]
        show nI N = es_lvI (if es_isl its i n N = true then some N else es_fs (es_isl its i n) g (N + 1))
        rw [if_pos (Bool.of_not_eq_false q)]; rfl
  exact key 600 1 (by omega) rfl
theorem es_fs_bd {P : Nat → Bool} {K : Nat} : ∀ {g N : Nat}, es_fs P g N = some K → N ≤ K ∧ K < N + g
  | 0, _, h => by cases h
  | g + 1, N, h => by
    unfold es_fs at h
    by_cases e : P N = true
    · rw [if_pos e] at h
      cases h
      omega
    · rw [if_neg e] at h
      have := es_fs_bd h
      omega
/-- a number without its factors p -/
def es_dv : Nat → Nat → Nat → Nat
  | 0, l, _ => l
  | g + 1, l, p => if l % p = 0 then es_dv g (l / p) p else l
def es_ix : Nat → Nat → Nat → Nat → Nat
  | 0, x, _, _ => x
  | g + 1, x, l, p => if l < p then x else if l % p = 0 then es_ix g (x / p * (p + 1)) (es_dv l l p) (p + 1) else es_ix g x l (p + 1)
theorem es_dv_le : ∀ (g l p : Nat), es_dv g l p ≤ l
  | 0, l, p => Nat.le_refl _
  | g + 1, l, p => by
    unfold es_dv
    split
    · exact Nat.le_trans (es_dv_le g (l / p) p) (Nat.div_le_self l p)
    · exact Nat.le_refl _
theorem es_dv_pos : ∀ (g l p : Nat), 0 < l → 2 ≤ p → 0 < es_dv g l p
  | 0, l, p, h, _ => h
  | g + 1, l, p, h, hp => by
    unfold es_dv
    split
    · next e =>
      refine es_dv_pos g (l / p) p (Nat.div_pos ?_ (by omega)) hp
      exact Nat.le_of_dvd h (Nat.dvd_of_mod_eq_zero e)
    · exact h
/-- how the products stay small -/
theorem es_ix_small {x l p : Nat} (hp : 2 ≤ p) (hl : 0 < l) (e : l % p = 0) : x / p * (p + 1) ≤ 2 * x ∧ 2 * es_dv l l p ≤ l := by
  constructor
  · have h1 : x / p * p ≤ x := Nat.div_mul_le_self x p
    have h2 : x / p ≤ x := Nat.div_le_self x p
    rw [Nat.mul_add, Nat.mul_one]
    omega
  · obtain ⟨g, rfl⟩ : ∃ g, l = g + 1 := ⟨l - 1, by omega⟩
    have h1 : es_dv (g + 1) (g + 1) p ≤ (g + 1) / p := by
      unfold es_dv
      rw [if_pos e]
      exact es_dv_le _ _ _
    have h2 : (g + 1) / p ≤ (g + 1) / 2 := Nat.div_le_div_left hp (by omega)
    omega
theorem es_remn {l p : Nat} (hl : l < 2147483648) (hp : 0 < p) (hp2 : p < 2147483648) : (nI l - nI l / nI p * nI p = 0) ↔ l % p = 0 := by
  rw [pk_rem (by omega) hp (by omega)]
  have := Nat.mod_lt l hp
  exact nI_eq (b := 0) (by omega) (by omega)
theorem s_indexOf (d : Nat) {N : Nat} (h1 : 1 ≤ N) (h2 : N ≤ 600) (μ : mz_M) : es_I (d + 1) n_Leaf_indexOf [mz_I (nI N)] μ (fun r μ' => μ' = μ ∧ r = nI (es_ix 600 N N 2)) := by
  refine es_I.mk (w_Leaf_indexOf_0 _ μ ?_)
  have key : ∀ (g x l p : Nat), l + 1 ≤ g + p → 2 ≤ p → p ≤ 602 → 1 ≤ l → l ≤ 600 → x * l ≤ 360000 → v_Leaf_indexOf (es_R d) (es_qI (fun r μ' => μ' = μ ∧ r = nI (es_ix g x l p))) (6, [(1, mz_I (nI x)), (2, mz_I (nI l)), (3, mz_I (nI p))], [], μ) := by
    intro g
    induction g with
    | zero =>
      intro x l p hg hp hp2 hl hl2 hx
      exact w_Leaf_indexOf_6 _ _ _ μ (es_t (nI_lt (by omega) (by omega)) (es_rI ⟨rfl, rfl⟩))
    | succ g ih =>
      intro x l p hg hp hp2 hl hl2 hx
      have hx2 : x ≤ 360000 := Nat.le_trans (Nat.le_mul_of_pos_right x (by omega)) hx
      have unf : es_ix (g + 1) x l p = if l < p then x else if l % p = 0 then es_ix g (x / p * (p + 1)) (es_dv l l p) (p + 1) else es_ix g x l (p + 1) := rfl
      by_cases c : l < p
      · refine w_Leaf_indexOf_6 _ _ _ μ (es_t (nI_lt c (by omega)) (es_rI ⟨rfl, ?_⟩))
        rw [unf, if_pos c]
      · refine w_Leaf_indexOf_6 _ _ _ μ (es_f (nI_nlt (by omega) (by omega)) ⟨nI_ne0 (by omega) (by omega), es_br (fun q => ⟨nI_ne0 (by omega) (by omega), ?_⟩) (fun q => ?_)⟩)
        · rw [es_remn (by omega) (by omega) (by omega)] at q
          obtain ⟨s1, s2⟩ := es_ix_small (x := x) hp hl q
          have hb : x / p * (p + 1) ≤ 720000 := by omega
          rw [pk_div (by omega) (by omega) (by omega), nI_1, pk_mul]
          generalize hy : x / p * (p + 1) = y at *
          have hyl : y * es_dv l l p ≤ 360000 := by
            have a1 : y * es_dv l l p ≤ 2 * x * es_dv l l p := Nat.mul_le_mul_right _ s1
            have a2 : 2 * x * es_dv l l p = x * (2 * es_dv l l p) := by rw [Nat.mul_comm 2 x, Nat.mul_assoc]
            have a3 : x * (2 * es_dv l l p) ≤ x * l := Nat.mul_le_mul_left _ s2
            omega
          have inner : ∀ (g2 t m : Nat), m ≤ g2 → t + m ≤ 600 → 1 ≤ m → es_dv l l p = es_dv g2 m p → v_Leaf_indexOf (es_R d) (es_qI (fun r μ' => μ' = μ ∧ r = nI (es_ix (g + 1) x l p))) (31, [(1, mz_I (nI y)), (2, mz_I (nI m)), (3, mz_I (nI p)), (4, mz_I (nI t))], [], μ) := by
            intro g2
            induction g2 with
            | zero => exact fun t m h3 h4 h5 h6 => by omega
            | succ g2 ih2 =>
              intro t m h3 h4 h5 h6
              have unf2 : es_dv (g2 + 1) m p = if m % p = 0 then es_dv g2 (m / p) p else m := rfl
              refine w_Leaf_indexOf_31 _ _ _ _ μ (es_f (nI_ge (b := 600) (by omega) (by omega)) ⟨nI_ne0 (by omega) (by omega), es_br (fun q2 => ⟨nI_ne0 (by omega) (by omega), ?_⟩) (fun q2 => ?_)⟩)
              · rw [es_remn (by omega) (by omega) (by omega)] at q2
                rw [pk_div (by omega) (by omega) (by omega), nI_1]
                have m1 : p ≤ m := Nat.le_of_dvd (by omega) (Nat.dvd_of_mod_eq_zero q2)
                have m2 : 0 < m / p := Nat.div_pos m1 (by omega)
                have m3 : m / p < m := Nat.div_lt_self (by omega) (by omega)
                refine ih2 (t + 1) (m / p) (by omega) (by omega) (by omega) ?_
                rw [h6, unf2, if_pos q2]
              · rw [es_remn (by omega) (by omega) (by omega)] at q2
                rw [nI_1, unf, if_neg c, if_pos q]
                rw [unf2, if_neg q2] at h6
                have le := es_dv_le l l p
                subst h6
                exact ih y (es_dv l l p) (p + 1) (by omega) (by omega) (by omega) (by omega) (by omega) hyl
          exact inner l 0 l (by omega) (by omega) hl rfl
        · rw [es_remn (by omega) (by omega) (by omega)] at q
          rw [nI_1, unf, if_neg c, if_neg q]
          exact ih x l (p + 1) (by omega) (by omega) (by omega) hl hl2 hx
  exact key 600 N N 2 (by omega) (by omega) (by omega) h1 h2 (Nat.mul_le_mul h2 h2)
def es_bnd (its : List Int64) (i n : Nat) : Int32 := match es_fs (es_isl its i n) 600 1 with
  | none => -1000004
  | some N => if 0 ≤ es_wt its i n then es_wt its i n * nI (es_ix 600 N N 2) / 24 + 1 else -1000004
theorem s_bound (d : Nat) {p i n : Nat} {μ : mz_M} {ln : Nat} {its : List Int64} (h : es_lf μ p (some (ln, its))) (hi : i ≤ 100) (hn : n ≤ 6) (hok : es_okp its i n = true) : es_I (d + 5) n_Leaf_bound [mz_R 14 p, mz_I (nI i), mz_I (nI n)] μ (fun r μ' => μ' = μ ∧ r = es_bnd its i n) := by
  refine es_I.mk (w_Leaf_bound_0 p _ _ μ ?_)
  refine ⟨_, _, es_pure (s_weight (d + 1) h (by omega) (by omega)), ?_⟩
  refine ⟨_, _, es_pure (s_level d h hi hn hok), ?_⟩
  unfold es_bnd
  cases hl : es_fs (es_isl its i n) 600 1 with
  | none => exact es_t rfl (es_rI ⟨rfl, rfl⟩)
  | some N =>
    have hN := es_fs_bd hl
    refine es_f (fun z => ?_) (es_br (fun q => ?_) (fun q => es_rI ⟨rfl, ?_⟩))
    · have z : nI N = -1000004 := z
      have := congrArg Int32.toInt z
      rw [nI_toInt (by omega), show (-1000004 : Int32).toInt = -1000004 by decide +kernel] at this
      omega
    · refine ⟨_, _, es_pure (s_indexOf (d + 3) (N := N) (by omega) (by omega) μ), by decide +kernel, es_rI ⟨rfl, ?_⟩⟩
      dsimp only
      rw [if_pos q]
    · dsimp only
      rw [if_neg q]
