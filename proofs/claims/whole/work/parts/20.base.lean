/-! How the methods' answers are told: es_I an int, es_J a long, es_V none, es_P a place of a kind. -/
def es_I (d y : Nat) (a : List mz_V) (μ : mz_M) (P : Int32 → mz_M → Prop) : Prop := ∃ r μ', es_R d y a μ (some (mz_I r)) μ' ∧ P r μ'
def es_J (d y : Nat) (a : List mz_V) (μ : mz_M) (P : Int64 → mz_M → Prop) : Prop := ∃ r μ', es_R d y a μ (some (mz_L r)) μ' ∧ P r μ'
def es_V (d y : Nat) (a : List mz_V) (μ : mz_M) (P : mz_M → Prop) : Prop := ∃ μ', es_R d y a μ none μ' ∧ P μ'
def es_P (t d y : Nat) (a : List mz_V) (μ : mz_M) (P : Nat → mz_M → Prop) : Prop := ∃ r μ', es_R d y a μ (some (mz_R t r)) μ' ∧ P r μ'
def es_qI (P : Int32 → mz_M → Prop) (r : Option mz_V) (μ : mz_M) : Prop := ∃ x, r = some (mz_I x) ∧ P x μ
def es_qJ (P : Int64 → mz_M → Prop) (r : Option mz_V) (μ : mz_M) : Prop := ∃ x, r = some (mz_L x) ∧ P x μ
def es_qV (P : mz_M → Prop) (r : Option mz_V) (μ : mz_M) : Prop := r = none ∧ P μ
def es_qP (t : Nat) (P : Nat → mz_M → Prop) (r : Option mz_V) (μ : mz_M) : Prop := ∃ x, r = some (mz_R t x) ∧ P x μ
theorem es_I.mk {d y : Nat} {a : List mz_V} {μ : mz_M} {P : Int32 → mz_M → Prop} (h : mz_Ev es_SH (es_TB y) (es_R d) (es_qI P) (0, mz_ent 0 a, [], μ)) : es_I (d + 1) y a μ P := by
  obtain ⟨r, μ', h1, x, rfl, h2⟩ := es_ex h
  exact ⟨x, μ', h1, h2⟩
theorem es_J.mk {d y : Nat} {a : List mz_V} {μ : mz_M} {P : Int64 → mz_M → Prop} (h : mz_Ev es_SH (es_TB y) (es_R d) (es_qJ P) (0, mz_ent 0 a, [], μ)) : es_J (d + 1) y a μ P := by
  obtain ⟨r, μ', h1, x, rfl, h2⟩ := es_ex h
  exact ⟨x, μ', h1, h2⟩
theorem es_V.mk {d y : Nat} {a : List mz_V} {μ : mz_M} {P : mz_M → Prop} (h : mz_Ev es_SH (es_TB y) (es_R d) (es_qV P) (0, mz_ent 0 a, [], μ)) : es_V (d + 1) y a μ P := by
  obtain ⟨r, μ', h1, rfl, h2⟩ := es_ex h
  exact ⟨μ', h1, h2⟩
theorem es_P.mk {t d y : Nat} {a : List mz_V} {μ : mz_M} {P : Nat → mz_M → Prop} (h : mz_Ev es_SH (es_TB y) (es_R d) (es_qP t P) (0, mz_ent 0 a, [], μ)) : es_P t (d + 1) y a μ P := by
  obtain ⟨r, μ', h1, x, rfl, h2⟩ := es_ex h
  exact ⟨x, μ', h1, h2⟩
theorem es_I.mono {d y : Nat} {a : List mz_V} {μ : mz_M} {P P' : Int32 → mz_M → Prop} (h : es_I d y a μ P) (hp : ∀ r μ', P r μ' → P' r μ') : es_I d y a μ P' := by
  obtain ⟨r, μ', h1, h2⟩ := h
  exact ⟨r, μ', h1, hp r μ' h2⟩
theorem es_V.mono {d y : Nat} {a : List mz_V} {μ : mz_M} {P P' : mz_M → Prop} (h : es_V d y a μ P) (hp : ∀ μ', P μ' → P' μ') : es_V d y a μ P' := by
  obtain ⟨μ', h1, h2⟩ := h
  exact ⟨μ', h1, hp μ' h2⟩
/-- branches of a stretch -/
theorem es_br {c A B : Prop} [Decidable c] (ha : c → A) (hb : ¬ c → B) : if c then A else B := by
  by_cases h : c
  · rw [if_pos h]; exact ha h
  · rw [if_neg h]; exact hb h
theorem es_t {c A B : Prop} [Decidable c] (h : c) (ha : A) : if c then A else B := by rw [if_pos h]; exact ha
theorem es_f {c A B : Prop} [Decidable c] (h : ¬ c) (hb : B) : if c then A else B := by rw [if_neg h]; exact hb
theorem es_rI {P : Int32 → mz_M → Prop} {x : Int32} {μ : mz_M} (h : P x μ) : es_qI P (some (mz_I x)) μ := ⟨x, rfl, h⟩
theorem es_rJ {P : Int64 → mz_M → Prop} {x : Int64} {μ : mz_M} (h : P x μ) : es_qJ P (some (mz_L x)) μ := ⟨x, rfl, h⟩
theorem es_rV {P : mz_M → Prop} {μ : mz_M} (h : P μ) : es_qV P none μ := ⟨rfl, h⟩
theorem es_rP {t : Nat} {P : Nat → mz_M → Prop} {x : Nat} {μ : mz_M} (h : P x μ) : es_qP t P (some (mz_R t x)) μ := ⟨x, rfl, h⟩
/-- the state, read behind writes -/
theorem mz_wI_1 (μ : mz_M) (p k : Nat) (x : Int32) (q : Nat) : (mz_wI μ p k x).1 q = if q = p then upd (μ.1 p) k x else μ.1 q := rfl
theorem mz_wI_at (μ : mz_M) (p k : Nat) (x : Int32) (q j : Nat) : (mz_wI μ p k x).1 q j = if q = p ∧ j = k then x else μ.1 q j := by
  show (if q = p then upd (μ.1 p) k x else μ.1 q) j = _
  by_cases hq : q = p
  · subst hq
    by_cases hj : j = k
    · subst hj; simp [upd]
    · simp [upd, hj]
  · simp [hq]
theorem mz_wI_2 (μ : mz_M) (p k : Nat) (x : Int32) : (mz_wI μ p k x).2 = μ.2 := rfl
theorem mz_wL_1 (μ : mz_M) (p k : Nat) (x : Int64) : (mz_wL μ p k x).1 = μ.1 := rfl
theorem mz_wL_at (μ : mz_M) (p k : Nat) (x : Int64) (q j : Nat) : (mz_wL μ p k x).2 q j = if q = p ∧ j = k then x else μ.2 q j := by
  show (if q = p then vp_updL (μ.2 p) k x else μ.2 q) j = _
  by_cases hq : q = p
  · subst hq
    by_cases hj : j = k
    · subst hj; simp [vp_updL]
    · simp [vp_updL, hj]
  · simp [hq]
theorem mz_cI_at (μ : mz_M) (p0 p1 a b n q j : Nat) : (mz_cI μ p0 p1 a b n).1 q j = if q = p1 ∧ b ≤ j ∧ j < b + n then μ.1 p0 (a + (j - b)) else μ.1 q j := by
  show (if q = p1 then va_cpy (μ.1 p0) (μ.1 p1) a b n else μ.1 q) j = _
  by_cases hq : q = p1
  · subst hq
    simp [va_cpy]
  · simp [hq]
theorem mz_cI_2 (μ : mz_M) (p0 p1 a b n : Nat) : (mz_cI μ p0 p1 a b n).2 = μ.2 := rfl
theorem mz_cL_at (μ : mz_M) (p0 p1 a b n q j : Nat) : (mz_cL μ p0 p1 a b n).2 q j = if q = p1 ∧ b ≤ j ∧ j < b + n then μ.2 p0 (a + (j - b)) else μ.2 q j := by
  show (if q = p1 then va_cpy (μ.2 p0) (μ.2 p1) a b n else μ.2 q) j = _
  by_cases hq : q = p1
  · subst hq
    simp [va_cpy]
  · simp [hq]
theorem mz_cL_1 (μ : mz_M) (p0 p1 a b n : Nat) : (mz_cL μ p0 p1 a b n).1 = μ.1 := rfl
/-- only the places of S are changed -/
def es_fr (S : Nat → Prop) (μ μ' : mz_M) : Prop := ∀ q, ¬ S q → μ'.1 q = μ.1 q ∧ μ'.2 q = μ.2 q
theorem es_fr.rf {S : Nat → Prop} {μ : mz_M} : es_fr S μ μ := fun _ _ => ⟨rfl, rfl⟩
theorem es_fr.tr {S : Nat → Prop} {μ1 μ2 μ3 : mz_M} (h1 : es_fr S μ1 μ2) (h2 : es_fr S μ2 μ3) : es_fr S μ1 μ3 := fun q hq => ⟨(h2 q hq).1.trans (h1 q hq).1, (h2 q hq).2.trans (h1 q hq).2⟩
theorem es_fr.mono {S S' : Nat → Prop} {μ1 μ2 : mz_M} (h : es_fr S μ1 μ2) (hs : ∀ q, S q → S' q) : es_fr S' μ1 μ2 := fun q hq => h q (fun z => hq (hs q z))
theorem es_fr.wI {S : Nat → Prop} {μ μ' : mz_M} {p k : Nat} {x : Int32} (h : es_fr S μ μ') (hp : S p) : es_fr S μ (mz_wI μ' p k x) := fun q hq => ⟨by
  rw [mz_wI_1, if_neg (fun z : q = p => hq (z ▸ hp))]; exact (h q hq).1, (h q hq).2⟩
theorem es_fr.cI {S : Nat → Prop} {μ μ' : mz_M} {p0 p1 a b n : Nat} (h : es_fr S μ μ') (hp : S p1) : es_fr S μ (mz_cI μ' p0 p1 a b n) := fun q hq => ⟨by
  show (if q = p1 then va_cpy (μ'.1 p0) (μ'.1 p1) a b n else μ'.1 q) = _
  rw [if_neg (fun z : q = p1 => hq (z ▸ hp))]; exact (h q hq).1, (h q hq).2⟩
theorem es_fr.wL {S : Nat → Prop} {μ μ' : mz_M} {p k : Nat} {x : Int64} (h : es_fr S μ μ') (hp : S p) : es_fr S μ (mz_wL μ' p k x) := fun q hq => ⟨(h q hq).1, by
  show (if q = p then vp_updL (μ'.2 p) k x else μ'.2 q) = _
  rw [if_neg (fun z : q = p => hq (z ▸ hp))]; exact (h q hq).2⟩
theorem es_fr.cL {S : Nat → Prop} {μ μ' : mz_M} {p0 p1 a b n : Nat} (h : es_fr S μ μ') (hp : S p1) : es_fr S μ (mz_cL μ' p0 p1 a b n) := fun q hq => ⟨(h q hq).1, by
  show (if q = p1 then va_cpy (μ'.2 p0) (μ'.2 p1) a b n else μ'.2 q) = _
  rw [if_neg (fun z : q = p1 => hq (z ▸ hp))]; exact (h q hq).2⟩
/-- whole numbers and ints -/
theorem es_lit (n : Nat) (h : n < 2147483648) : (Int32.ofNat n).toInt = n := nI_toInt (by omega)
theorem es_tn (x : Int32) : (x.toNatClampNeg : Int) = max x.toInt 0 := by
  show ((x.toInt.toNat : Nat) : Int) = _
  omega
theorem es_nIof {x : Int32} (h : 0 ≤ x.toInt) : x = nI x.toInt.toNat := by
  have := fb_rng x
  apply Int32.toInt_inj.mp
  rw [nI_toInt (by omega)]
  omega
theorem es_in {x : Int32} {n : Nat} (h1 : 0 ≤ x.toInt) (h2 : x.toInt < n) : vp_in x n := vp_in_iff.mpr ⟨h1, h2⟩
theorem es_clamp {n : Nat} (h : n < 2147483648) : (nI n).toNatClampNeg = n := nI_clamp (by omega)
