/-! The kinds of series: as the reference makes them. -/
def mo_at (kind d k : Nat) : Nat := if kind = 1 then d * k * k else d * k * (k + 1) / 2
def mo_inc (kind k : Nat) : Int := if kind = 1 then (if k = 0 then 1 else 2) else 1
def mo_ts (kind d j : Nat) : Nat → Int
  | 0 => 0
  | K + 1 => if mo_at kind d K = j then mo_ts kind d j K + mo_inc kind K else mo_ts kind d j K
def mo_e0 : List Int := 1 :: List.replicate 39 0
def mo_e1 (s : Nat) (l : List Int) : List Int := l.take s ++ List.zipWith (fun a b => a - b) (l.drop s) l
def mo_ee (d : Nat) : Nat → List Int
  | 0 => mo_e0
  | m + 1 => mo_e1 (d * (m + 1)) (mo_ee d m)
def mo_lk (l : List Int) (n : Nat) (f : Nat → Int) : Bool := match n with
  | 0 => true
  | n + 1 => mo_lk l n f && decide (l.getD n 0 = f n)
theorem mo_lk_at {l : List Int} {f : Nat → Int} : ∀ {n j : Nat}, mo_lk l n f = true → j < n → f j = l.getD j 0
  | 0, _, _, h => absurd h (Nat.not_lt_zero _)
  | n + 1, j, h, hj => by
    unfold mo_lk at h
    rw [Bool.and_eq_true] at h
    by_cases e : j = n
    · subst e; exact (of_decide_eq_true h.2).symm
    · exact mo_lk_at h.1 (by omega)
theorem mo_k3 : ∀ d, d < 13 → 1 ≤ d → ∀ n, n < 41 → mo_lk (mo_ee d 40) n (es_pt (es_bp 3 d (n - 1))) = true := by decide +kernel
def mo_tl (kind d : Nat) : List Int := (List.range 40).map (fun j => mo_ts kind d j 40)
theorem mo_k1 : ∀ d, d < 13 → 1 ≤ d → ∀ n, n < 41 → mo_lk (mo_tl 1 d) n (es_pt (es_bp 1 d (n - 1))) = true := by decide +kernel
theorem mo_k2 : ∀ d, d < 13 → 1 ≤ d → ∀ n, n < 41 → mo_lk (mo_tl 2 d) n (es_pt (es_bp 2 d (n - 1))) = true := by decide +kernel
