/-! Texts: how they are read, and worked out token by token. -/
def tx_sf (T : List Nat) : Nat → Nat → Nat
  | 0, p => p
  | g + 1, p => if T.getD p 0 = 32 then tx_sf T g (p + 1) else p
def tx_sk (T : List Nat) (p : Nat) : Nat := tx_sf T 60 p
theorem tx_out {T : List Nat} {p : Nat} (h : T.length ≤ p) : T.getD p 0 = 0 := by
  rw [List.getD_eq_getElem?_getD, List.getElem?_eq_none h]; rfl
theorem tx_lt {T : List Nat} {p c : Nat} (h : T.getD p 0 = c) (hc : c ≠ 0) : p < T.length := by
  by_cases e : p < T.length
  · exact e
  · rw [tx_out (by omega)] at h
    exact absurd h.symm hc
theorem tx_sf_le (T : List Nat) : ∀ g p, p ≤ tx_sf T g p
  | 0, p => Nat.le_refl p
  | g + 1, p => by
    unfold tx_sf
    by_cases e : T.getD p 0 = 32
    · rw [if_pos e]
      have := tx_sf_le T g (p + 1)
      omega
    · rw [if_neg e]; exact Nat.le_refl p
theorem tx_sf_len (T : List Nat) : ∀ g p, p ≤ T.length → tx_sf T g p ≤ T.length
  | 0, p, h => h
  | g + 1, p, h => by
    unfold tx_sf
    by_cases e : T.getD p 0 = 32
    · rw [if_pos e]
      have := tx_lt e (by decide)
      exact tx_sf_len T g (p + 1) (by omega)
    · rw [if_neg e]; exact h
theorem tx_sf_nb {T : List Nat} : ∀ {g p}, T.length ≤ p + g → T.getD (tx_sf T g p) 0 ≠ 32
  | 0, p, h => by
    show T.getD p 0 ≠ 32
    rw [tx_out (by omega)]; decide
  | g + 1, p, h => by
    unfold tx_sf
    by_cases e : T.getD p 0 = 32
    · rw [if_pos e]
      exact tx_sf_nb (by omega)
    · rw [if_neg e]; exact e
theorem tx_sf_id {T : List Nat} {g p : Nat} (h : T.getD p 0 ≠ 32) : tx_sf T g p = p := by
  cases g with
  | zero => rfl
  | succ g =>
    unfold tx_sf
    rw [if_neg h]
theorem tx_sk_le (T : List Nat) (p : Nat) : p ≤ tx_sk T p := tx_sf_le T 60 p
theorem tx_sk_len {T : List Nat} {p : Nat} (h : p ≤ T.length) : tx_sk T p ≤ T.length := tx_sf_len T 60 p h
theorem tx_sk_nb {T : List Nat} (h : T.length ≤ 60) (p : Nat) : T.getD (tx_sk T p) 0 ≠ 32 := tx_sf_nb (by omega)
theorem tx_sk_id {T : List Nat} {p : Nat} (h : T.getD p 0 ≠ 32) : tx_sk T p = p := tx_sf_id h
theorem tx_sf_one {T : List Nat} : ∀ {g p}, T.length ≤ p + g → tx_sf T (g + 1) p = tx_sf T g p
  | 0, p, h => by
    unfold tx_sf
    rw [if_neg (by rw [tx_out (by omega)]; decide)]
  | g + 1, p, h => by
    show (if T.getD p 0 = 32 then tx_sf T (g + 1) (p + 1) else p) = (if T.getD p 0 = 32 then tx_sf T g (p + 1) else p)
    rw [tx_sf_one (by omega)]
theorem tx_sk_blank {T : List Nat} {p : Nat} (hT : T.length ≤ 60) (h : T.getD p 0 = 32) : tx_sk T p = tx_sk T (p + 1) := by
  unfold tx_sk
  rw [← tx_sf_one (T := T) (g := 60) (p := p) (by omega)]
  show (if T.getD p 0 = 32 then tx_sf T 60 (p + 1) else p) = _
  rw [if_pos h]
def tx_dg (c : Nat) : Bool := decide (48 ≤ c ∧ c ≤ 57)
def tx_nv (T : List Nat) (p : Nat) : Nat := if tx_dg (T.getD (p + 1) 0) = true then 10 * (T.getD p 0 - 48) + (T.getD (p + 1) 0 - 48) else T.getD p 0 - 48
def tx_np (T : List Nat) (p : Nat) : Nat := if tx_dg (T.getD (p + 1) 0) = true then p + 2 else p + 1
def tx_kd (c : Nat) : Nat := if c = 101 then 3 else if c = 115 then 2 else if c = 116 then 1 else 4
def tx_fam (c : Nat) : Bool := decide (c = 101 ∨ c = 116 ∨ c = 115 ∨ c = 113)
def tx_kok (k v : Nat) : Bool := decide ((k ≤ 3 ∧ 1 ≤ v ∧ v ≤ 9) ∨ (k = 4 ∧ v ≤ 39))
def tx_opl (c : Nat) : Bool := decide (c = 43 ∨ c = 45 ∨ c = 42 ∨ c = 47)
/-- a fault at a place, or the next state and a token; states: 1 an atom is due, 2 behind one, 3 behind a power -/
abbrev tx_N : Type := Nat ⊕ ((Nat × Nat × Nat) × (Nat × Nat))
def tx_fm3 (T : List Nat) (o p0 p2 p4 : Nat) : tx_N := if T.getD p4 0 = 41 then .inr ((2, o, p4 + 1), (T.getD p0 0, tx_nv T p2)) else .inl p4
def tx_fm2 (T : List Nat) (o p0 p2 : Nat) : tx_N := if tx_dg (T.getD p2 0) = true then (if tx_kok (tx_kd (T.getD p0 0)) (tx_nv T p2) = true then tx_fm3 T o p0 p2 (tx_sk T (tx_np T p2)) else .inl p2) else .inl p2
def tx_fm1 (T : List Nat) (o p0 p1 : Nat) : tx_N := if T.getD p1 0 = 40 then tx_fm2 T o p0 (tx_sk T (p1 + 1)) else .inl p1
def tx_due (T : List Nat) (o p0 : Nat) : tx_N :=
  if T.getD p0 0 = 40 then (if o < 6 then .inr ((1, o + 1, p0 + 1), (40, 0)) else .inl p0)
  else if tx_fam (T.getD p0 0) = true then tx_fm1 T o p0 (tx_sk T (p0 + 1))
  else if tx_dg (T.getD p0 0) = true then .inr ((2, o, tx_np T p0), (48, tx_nv T p0))
  else .inl p0
def tx_fig (T : List Nat) (o p1 : Nat) : tx_N := if 48 ≤ T.getD p1 0 ∧ T.getD p1 0 ≤ 56 then .inr ((3, o, p1 + 1), (94, T.getD p1 0 - 48)) else .inl p1
def tx_beh (T : List Nat) (st o p0 : Nat) : tx_N :=
  if T.getD p0 0 = 94 ∧ st = 2 then tx_fig T o (tx_sk T (p0 + 1))
  else if tx_opl (T.getD p0 0) = true then .inr ((1, o, p0 + 1), (T.getD p0 0, 0))
  else if T.getD p0 0 = 41 ∧ 0 < o then .inr ((2, o - 1, p0 + 1), (41, 0))
  else .inl p0
def tx_step (T : List Nat) (st o p : Nat) : tx_N := if st = 1 then tx_due T o (tx_sk T p) else tx_beh T st o (tx_sk T p)
def tx_cons (t : Nat × Nat) (r : Nat ⊕ List (Nat × Nat)) : Nat ⊕ List (Nat × Nat) := match r with
  | .inl q => .inl q
  | .inr ts => .inr (t :: ts)
def tx_run (T : List Nat) : Nat → Nat → Nat → Nat → Nat ⊕ List (Nat × Nat)
  | 0, _, _, p => .inl p
  | g + 1, st, o, p => if st ≠ 1 ∧ o = 0 ∧ T.length ≤ tx_sk T p then .inr [] else match tx_step T st o p with
    | .inl q => .inl q
    | .inr w => tx_cons w.2 (tx_run T g w.1.1 w.1.2.1 w.1.2.2)
theorem tx_run_end {T : List Nat} {g st o p : Nat} (h : st ≠ 1 ∧ o = 0 ∧ T.length ≤ tx_sk T p) : tx_run T (g + 1) st o p = .inr [] := by
  show (if st ≠ 1 ∧ o = 0 ∧ T.length ≤ tx_sk T p then Sum.inr [] else _) = _
  rw [if_pos h]
theorem tx_run_l {T : List Nat} {g st o p q : Nat} (h : ¬ (st ≠ 1 ∧ o = 0 ∧ T.length ≤ tx_sk T p)) (hs : tx_step T st o p = .inl q) : tx_run T (g + 1) st o p = .inl q := by
  show (if st ≠ 1 ∧ o = 0 ∧ T.length ≤ tx_sk T p then Sum.inr [] else match tx_step T st o p with
    | .inl q => .inl q
    | .inr w => tx_cons w.2 (tx_run T g w.1.1 w.1.2.1 w.1.2.2)) = _
  rw [if_neg h, hs]
theorem tx_run_r {T : List Nat} {g st o p st' o' p' : Nat} {t : Nat × Nat} (h : ¬ (st ≠ 1 ∧ o = 0 ∧ T.length ≤ tx_sk T p)) (hs : tx_step T st o p = .inr ((st', o', p'), t)) : tx_run T (g + 1) st o p = tx_cons t (tx_run T g st' o' p') := by
  show (if st ≠ 1 ∧ o = 0 ∧ T.length ≤ tx_sk T p then Sum.inr [] else match tx_step T st o p with
    | .inl q => .inl q
    | .inr w => tx_cons w.2 (tx_run T g w.1.1 w.1.2.1 w.1.2.2)) = _
  rw [if_neg h, hs]
/-- whether tokens are those of a text without fault -/
def tx_aok (t : Nat × Nat) : Prop := (t.1 = 48 ∧ t.2 ≤ 99) ∨ (tx_fam t.1 = true ∧ tx_kok (tx_kd t.1) t.2 = true)
def tx_vt : List (Nat × Nat) → Nat → Nat → Prop
  | [], st, o => st ≠ 1 ∧ o = 0
  | t :: ts, st, o => if st = 1 then (if t.1 = 40 then o < 6 ∧ tx_vt ts 1 (o + 1) else tx_aok t ∧ tx_vt ts 2 o) else if t.1 = 94 then st = 2 ∧ t.2 ≤ 8 ∧ tx_vt ts 3 o else if t.1 = 41 then 0 < o ∧ tx_vt ts 2 (o - 1) else tx_opl t.1 = true ∧ tx_vt ts 1 o
/-- a step: where it goes to, and what its token is -/
theorem tx_dg_i {c : Nat} (h : tx_dg c = true) : 48 ≤ c ∧ c ≤ 57 := of_decide_eq_true h
theorem tx_np_i {T : List Nat} {p : Nat} (h : tx_dg (T.getD p 0) = true) : p < tx_np T p ∧ tx_np T p ≤ T.length ∧ tx_nv T p ≤ 99 := by
  have h1 := tx_dg_i h
  have h2 := tx_lt rfl (show T.getD p 0 ≠ 0 by omega)
  unfold tx_np tx_nv
  by_cases e : tx_dg (T.getD (p + 1) 0) = true
  · have h3 := tx_dg_i e
    have h4 := tx_lt rfl (show T.getD (p + 1) 0 ≠ 0 by omega)
    rw [if_pos e, if_pos e]
    omega
  · rw [if_neg e, if_neg e]
    omega
theorem tx_fm_i {T : List Nat} {o p0 st' o' p' : Nat} {t : Nat × Nat} (hp : p0 < T.length) (hf : tx_fam (T.getD p0 0) = true) (h : tx_fm1 T o p0 (tx_sk T (p0 + 1)) = .inr ((st', o', p'), t)) : p0 < p' ∧ p' ≤ T.length ∧ st' = 2 ∧ o' = o ∧ tx_aok t ∧ t.1 ≠ 40 := by
  have s1 := tx_sk_le T (p0 + 1)
  unfold tx_fm1 at h
  generalize tx_sk T (p0 + 1) = p1 at s1 h
  by_cases e1 : T.getD p1 0 = 40
  · rw [if_pos e1] at h
    have s2 := tx_sk_le T (p1 + 1)
    unfold tx_fm2 at h
    generalize tx_sk T (p1 + 1) = p2 at s2 h
    by_cases e2 : tx_dg (T.getD p2 0) = true
    · rw [if_pos e2] at h
      by_cases e3 : tx_kok (tx_kd (T.getD p0 0)) (tx_nv T p2) = true
      · rw [if_pos e3] at h
        have n1 := tx_np_i e2
        have s3 := tx_sk_le T (tx_np T p2)
        unfold tx_fm3 at h
        generalize tx_sk T (tx_np T p2) = p4 at s3 h
        by_cases e4 : T.getD p4 0 = 41
        · rw [if_pos e4] at h
          have l4 := tx_lt e4 (by decide)
          cases h
          refine ⟨by omega, by omega, rfl, rfl, Or.inr ⟨hf, e3⟩, ?_⟩
          have := of_decide_eq_true hf
          show T.getD p0 0 ≠ 40
          omega
        · rw [if_neg e4] at h; cases h
      · rw [if_neg e3] at h; cases h
    · rw [if_neg e2] at h; cases h
  · rw [if_neg e1] at h; cases h
/-- one token's validity -/
def tx_v1 (st o st' o' : Nat) (t : Nat × Nat) : Prop := ∀ ts, tx_vt ts st' o' → tx_vt (t :: ts) st o
theorem tx_step_i {T : List Nat} {st o p st' o' p' : Nat} {t : Nat × Nat} (hst : st = 1 ∨ st = 2 ∨ st = 3) (hp : p ≤ T.length) (h : tx_step T st o p = .inr ((st', o', p'), t)) : p < p' ∧ p' ≤ T.length ∧ (st' = 1 ∨ st' = 2 ∨ st' = 3) ∧ tx_v1 st o st' o' t ∧ (o ≤ 6 → o' ≤ 6) := by
  have s0 := tx_sk_le T p
  unfold tx_step at h
  generalize tx_sk T p = p0 at s0 h
  by_cases e0 : st = 1
  · rw [if_pos e0] at h
    subst e0
    unfold tx_due at h
    by_cases e1 : T.getD p0 0 = 40
    · rw [if_pos e1] at h
      have l1 := tx_lt e1 (by decide)
      by_cases e2 : o < 6
      · rw [if_pos e2] at h
        cases h
        refine ⟨by omega, by omega, by omega, fun ts hv => ?_, fun _ => by omega⟩
        unfold tx_vt
        rw [if_pos rfl, if_pos rfl]
        exact ⟨e2, hv⟩
      · rw [if_neg e2] at h; cases h
    · rw [if_neg e1] at h
      by_cases e2 : tx_fam (T.getD p0 0) = true
      · rw [if_pos e2] at h
        have := of_decide_eq_true e2
        have l1 := tx_lt rfl (show T.getD p0 0 ≠ 0 by omega)
        obtain ⟨a1, a2, rfl, rfl, a5, a6⟩ := tx_fm_i l1 e2 h
        refine ⟨by omega, by omega, by omega, fun ts hv => ?_, fun z => z⟩
        unfold tx_vt
        rw [if_pos rfl, if_neg a6]
        exact ⟨a5, hv⟩
      · rw [if_neg e2] at h
        by_cases e3 : tx_dg (T.getD p0 0) = true
        · rw [if_pos e3] at h
          have n1 := tx_np_i e3
          cases h
          refine ⟨by omega, by omega, by omega, fun ts hv => ?_, fun z => z⟩
          unfold tx_vt
          rw [if_pos rfl, if_neg (show ¬ (48 : Nat) = 40 by decide)]
          exact ⟨Or.inl ⟨rfl, n1.2.2⟩, hv⟩
        · rw [if_neg e3] at h; cases h
  · rw [if_neg e0] at h
    unfold tx_beh at h
    by_cases e1 : T.getD p0 0 = 94 ∧ st = 2
    · rw [if_pos e1] at h
      have s1 := tx_sk_le T (p0 + 1)
      unfold tx_fig at h
      generalize tx_sk T (p0 + 1) = p1 at s1 h
      by_cases e2 : 48 ≤ T.getD p1 0 ∧ T.getD p1 0 ≤ 56
      · rw [if_pos e2] at h
        have l1 := tx_lt rfl (show T.getD p1 0 ≠ 0 by omega)
        cases h
        refine ⟨by omega, by omega, by omega, fun ts hv => ?_, fun z => z⟩
        unfold tx_vt
        rw [if_neg e0, if_pos rfl]
        exact ⟨e1.2, by show T.getD p1 0 - 48 ≤ 8; omega, hv⟩
      · rw [if_neg e2] at h; cases h
    · rw [if_neg e1] at h
      by_cases e2 : tx_opl (T.getD p0 0) = true
      · rw [if_pos e2] at h
        have e3 := of_decide_eq_true e2
        have l1 := tx_lt rfl (show T.getD p0 0 ≠ 0 by omega)
        cases h
        refine ⟨by omega, by omega, by omega, fun ts hv => ?_, fun z => z⟩
        unfold tx_vt
        rw [if_neg e0, if_neg (show ¬ T.getD p0 0 = 94 by omega), if_neg (show ¬ T.getD p0 0 = 41 by omega)]
        exact ⟨e2, hv⟩
      · rw [if_neg e2] at h
        by_cases e3 : T.getD p0 0 = 41 ∧ 0 < o
        · rw [if_pos e3] at h
          have l1 := tx_lt e3.1 (by decide)
          cases h
          refine ⟨by omega, by omega, by omega, fun ts hv => ?_, fun z => by omega⟩
          unfold tx_vt
          rw [if_neg e0, if_neg (by decide), if_pos rfl]
          exact ⟨e3.2, hv⟩
        · rw [if_neg e3] at h; cases h
theorem tx_cons_r {t : Nat × Nat} {r : Nat ⊕ List (Nat × Nat)} {ts : List (Nat × Nat)} (h : tx_cons t r = .inr ts) : ∃ us, r = .inr us ∧ ts = t :: us := by
  cases r with
  | inl q => cases h
  | inr us => cases h; exact ⟨us, rfl, rfl⟩
theorem tx_run_vt {T : List Nat} : ∀ {g st o p : Nat} {ts : List (Nat × Nat)}, (st = 1 ∨ st = 2 ∨ st = 3) → p ≤ T.length → tx_run T g st o p = .inr ts → tx_vt ts st o ∧ ts.length ≤ T.length - p
  | 0, _, _, _, _, _, _, h => by cases h
  | g + 1, st, o, p, ts, hst, hp, h => by
    by_cases e : st ≠ 1 ∧ o = 0 ∧ T.length ≤ tx_sk T p
    · rw [tx_run_end e] at h
      cases h
      exact ⟨⟨e.1, e.2.1⟩, Nat.zero_le _⟩
    · cases hs : tx_step T st o p with
      | inl q =>
        rw [tx_run_l e hs] at h
        cases h
      | inr w =>
        obtain ⟨⟨st', o', p'⟩, t⟩ := w
        rw [tx_run_r e hs] at h
        obtain ⟨us, h1, rfl⟩ := tx_cons_r h
        obtain ⟨a1, a2, a3, a4, -⟩ := tx_step_i hst hp hs
        have := tx_run_vt a3 a2 h1
        refine ⟨a4 us this.1, ?_⟩
        show us.length + 1 ≤ _
        omega
/-- a bracket's level: its sum so far and the sign behind it, its part so far and the sign behind it -/
abbrev tx_F : Type := (List Int × Nat) × (List Int × Nat)
abbrev tx_R : Type := (Int32 × Nat × Nat) ⊕ List Int
def tx_0 : tx_F := (([], 0), ([], 0))
def tx_jp (F : tx_F) (l : List Int) : es_RL := if F.2.2 = 0 then .inr l else es_jr (if F.2.2 = 42 then 2 else 3) F.2.1 l
def tx_js (F : tx_F) : es_RL := if F.1.2 = 0 then .inr F.2.1 else es_jr (if F.1.2 = 43 then 0 else 1) F.1.1 F.2.1
def tx_pw (l : List Int) (v : Nat) : es_RL := if es_pwd l.length (fun k => l.getD k 0) v = true then .inl (-1000005) else .inr (es_ls l.length (es_pwf (fun k => l.getD k 0) v))
def tx_at (n : Nat) (t : Nat × Nat) : List Int := if t.1 = 48 then es_ls n (fun k => if k = 0 then (t.2 : Int) else 0) else es_kd (tx_kd t.1) t.2 n
def tx_or (o : es_RL) (lv ch : Nat) (f : List Int → tx_R) : tx_R := match o with
  | .inl c => .inl (c, lv, ch)
  | .inr l => f l
/-- a value that waits comes to its part -/
def tx_pj (F : tx_F) (lv : Nat) (m : Option (List Int)) (f : tx_F → tx_R) : tx_R := match m with
  | none => f F
  | some l => tx_or (tx_jp F l) lv F.2.2 (fun l2 => f (F.1, (l2, F.2.2)))
/-- what is left, worked out: none: an atom is due; some none: behind a part; some (some l): behind a value l -/
def tx_ev (n : Nat) : List (Nat × Nat) → tx_F → List tx_F → Option (Option (List Int)) → tx_R
  | [], F, G, m => tx_pj F G.length (m.getD none) (fun F => tx_or (tx_js F) G.length F.1.2 .inr)
  | t :: ts, F, G, m => match m with
    | none => if t.1 = 40 then tx_ev n ts tx_0 (F :: G) none else tx_ev n ts F G (some (some (tx_at n t)))
    | some v => if t.1 = 94 then tx_or (tx_pw (v.getD []) t.2) G.length 94 (fun l => tx_or (tx_jp F l) G.length F.2.2 (fun l2 => tx_ev n ts (F.1, (l2, F.2.2)) G (some none)))
      else tx_pj F G.length v (fun F => if t.1 = 42 ∨ t.1 = 47 then tx_ev n ts (F.1, (F.2.1, t.1)) G none
        else tx_or (tx_js F) G.length F.1.2 (fun s => if t.1 = 41 then (match G with
          | [] => .inr s
          | F2 :: G2 => tx_ev n ts F2 G2 (some (some s))) else tx_ev n ts ((s, t.1), ([], 0)) G none))
theorem tx_ev_open {n : Nat} {t : Nat × Nat} {ts : List (Nat × Nat)} {F : tx_F} {G : List tx_F} (h : t.1 = 40) : tx_ev n (t :: ts) F G none = tx_ev n ts tx_0 (F :: G) none := by
  show (if t.1 = 40 then _ else _) = _
  rw [if_pos h]
theorem tx_ev_atom {n : Nat} {t : Nat × Nat} {ts : List (Nat × Nat)} {F : tx_F} {G : List tx_F} (h : ¬ t.1 = 40) : tx_ev n (t :: ts) F G none = tx_ev n ts F G (some (some (tx_at n t))) := by
  show (if t.1 = 40 then _ else _) = _
  rw [if_neg h]
theorem tx_ev_pow {n : Nat} {t : Nat × Nat} {ts : List (Nat × Nat)} {F : tx_F} {G : List tx_F} {l : List Int} (h : t.1 = 94) : tx_ev n (t :: ts) F G (some (some l)) = tx_or (tx_pw l t.2) G.length 94 (fun l => tx_or (tx_jp F l) G.length F.2.2 (fun l2 => tx_ev n ts (F.1, (l2, F.2.2)) G (some none))) := by
  show (if t.1 = 94 then _ else _) = _
  rw [if_pos h]; rfl
/-- the head of tokens is no power -/
def tx_np94 (ts : List (Nat × Nat)) : Prop := ∀ t us, ts = t :: us → t.1 ≠ 94
theorem tx_ev_val {n : Nat} {ts : List (Nat × Nat)} {F : tx_F} {G : List tx_F} {l : List Int} (h : tx_np94 ts) : tx_ev n ts F G (some (some l)) = tx_or (tx_jp F l) G.length F.2.2 (fun l2 => tx_ev n ts (F.1, (l2, F.2.2)) G (some none)) := by
  cases ts with
  | nil => rfl
  | cons t us =>
    have h1 := h t us rfl
    show (if t.1 = 94 then _ else tx_pj F G.length (some l) _) = _
    rw [if_neg h1]
    show tx_or (tx_jp F l) G.length F.2.2 _ = _
    congr 1
    funext l2
    show _ = (if t.1 = 94 then _ else _)
    rw [if_neg h1]
    rfl
theorem tx_ev_mul {n : Nat} {t : Nat × Nat} {ts : List (Nat × Nat)} {F : tx_F} {G : List tx_F} (h : t.1 = 42 ∨ t.1 = 47) : tx_ev n (t :: ts) F G (some none) = tx_ev n ts (F.1, (F.2.1, t.1)) G none := by
  show (if t.1 = 94 then _ else if t.1 = 42 ∨ t.1 = 47 then _ else _) = _
  rw [if_neg (by omega), if_pos h]
/-- behind a sum s -/
def tx_aft (n : Nat) (ts : List (Nat × Nat)) (s : List Int) (G : List tx_F) : tx_R := match ts with
  | [] => .inr s
  | t :: us => if t.1 = 41 then (match G with
          | [] => .inr s
          | F2 :: G2 => tx_ev n us F2 G2 (some (some s))) else tx_ev n us ((s, t.1), ([], 0)) G none
def tx_npm (ts : List (Nat × Nat)) : Prop := ∀ t us, ts = t :: us → t.1 ≠ 94 ∧ t.1 ≠ 42 ∧ t.1 ≠ 47
theorem tx_ev_sum {n : Nat} {ts : List (Nat × Nat)} {F : tx_F} {G : List tx_F} (h : tx_npm ts) : tx_ev n ts F G (some none) = tx_or (tx_js F) G.length F.1.2 (fun s => tx_aft n ts s G) := by
  cases ts with
  | nil => rfl
  | cons t us =>
    have h1 := h t us rfl
    show (if t.1 = 94 then _ else if t.1 = 42 ∨ t.1 = 47 then _ else _) = _
    rw [if_neg h1.1, if_neg (by omega)]
    rfl
theorem tx_ev_by {n : Nat} {ts : List (Nat × Nat)} {f : List Int × Nat} {l : List Int} {b b2 : Nat} {G : List tx_F} (h : tx_np94 ts) : tx_ev n ts (f, (l, b)) G (some none) = tx_ev n ts (f, (l, b2)) G (some none) := by
  cases ts with
  | nil => rfl
  | cons t us =>
    have h1 := h t us rfl
    show (if t.1 = 94 then _ else _) = (if t.1 = 94 then _ else _)
    rw [if_neg h1, if_neg h1]
    rfl
