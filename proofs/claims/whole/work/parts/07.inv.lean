theorem mz_p1_i {st : List mz_V} {f : Int32 → List mz_V → Prop} (h : mz_p1 st f) : ∃ x r, st = mz_I x :: r ∧ f x r := by
  match st, h with
  | .inl x :: r, h => exact ⟨x, r, rfl, h⟩
theorem mz_p2_i {st : List mz_V} {f : Int32 → Int32 → List mz_V → Prop} (h : mz_p2 st f) : ∃ x y r, st = mz_I y :: mz_I x :: r ∧ f x y r := by
  match st, h with
  | .inl y :: .inl x :: r, h => exact ⟨x, y, r, rfl, h⟩
theorem mz_g1_i {st : List mz_V} {f : Int64 → List mz_V → Prop} (h : mz_g1 st f) : ∃ x r, st = mz_L x :: r ∧ f x r := by
  match st, h with
  | .inr (.inl x) :: r, h => exact ⟨x, r, rfl, h⟩
theorem mz_g2_i {st : List mz_V} {f : Int64 → Int64 → List mz_V → Prop} (h : mz_g2 st f) : ∃ x y r, st = mz_L y :: mz_L x :: r ∧ f x y r := by
  match st, h with
  | .inr (.inl y) :: .inr (.inl x) :: r, h => exact ⟨x, y, r, rfl, h⟩
theorem mz_h1_i {st : List mz_V} {f : Nat → Nat → List mz_V → Prop} (h : mz_h1 st f) : ∃ t p r, st = mz_R t p :: r ∧ f t p r := by
  match st, h with
  | .inr (.inr (t, p)) :: r, h => exact ⟨t, p, r, rfl, h⟩
theorem mz_li_i {L : mz_Lo} {i : Nat} {f : Int32 → Prop} (h : mz_li L i f) : ∃ x, mz_lk L i = some (mz_I x) ∧ f x := by
  unfold mz_li at h
  match hk : mz_lk L i, h with
  | some (.inl x), h => exact ⟨x, rfl, h⟩
theorem mz_ll_i {L : mz_Lo} {i : Nat} {f : Int64 → Prop} (h : mz_ll L i f) : ∃ x, mz_lk L i = some (mz_L x) ∧ f x := by
  unfold mz_ll at h
  match hk : mz_lk L i, h with
  | some (.inr (.inl x)), h => exact ⟨x, rfl, h⟩
theorem mz_lr_i {L : mz_Lo} {i : Nat} {f : Nat → Nat → Prop} (h : mz_lr L i f) : ∃ t p, mz_lk L i = some (mz_R t p) ∧ f t p := by
  unfold mz_lr at h
  match hk : mz_lk L i, h with
  | some (.inr (.inr (t, p))), h => exact ⟨t, p, rfl, h⟩
theorem mz_ite_t {c A B : Prop} [Decidable c] (h : if c then A else B) (hc : c) : A := by rwa [if_pos hc] at h
theorem mz_ite_f {c A B : Prop} [Decidable c] (h : if c then A else B) (hc : ¬ c) : B := by rwa [if_neg hc] at h
theorem mz_bif_i {b : Bool} {A : Prop} (h : bif b then A else False) : b = true ∧ A := by
  cases b
  · exact h.elim
  · exact ⟨rfl, h⟩
theorem mz_sw_i {x : Int32} {K : Nat → Prop} {d : Nat} : ∀ {ps : List (Nat × Nat)}, mz_sw x K d ps → (∃ q ∈ ps, x = nI q.1 ∧ K q.2) ∨ ((∀ q ∈ ps, ¬ x = nI q.1) ∧ K d)
  | [], h => Or.inr ⟨fun _ z => absurd z List.not_mem_nil, h⟩
  | q :: r, h => by
    unfold mz_sw at h
    by_cases hq : x = nI q.1
    · rw [if_pos hq] at h
      exact Or.inl ⟨q, List.mem_cons_self, hq, h⟩
    · rw [if_neg hq] at h
      rcases mz_sw_i h with ⟨z, h1, h2⟩ | ⟨h1, h2⟩
      · exact Or.inl ⟨z, List.mem_cons_of_mem _ h1, h2⟩
      · refine Or.inr ⟨fun z hz => ?_, h2⟩
        rcases List.mem_cons.mp hz with rfl | hz
        · exact hq
        · exact h1 z hz
theorem mz_an_i {k t : Nat} {R : Option mz_V → mz_M → Prop} {f : List mz_V → mz_M → Prop} (h : mz_an k t R f) : ∃ r μ, R r μ ∧ f r.toList μ := by
  match k, h with
  | 0, ⟨μ, a, b⟩ => exact ⟨none, μ, a, b⟩
  | 1, ⟨x, μ, a, b⟩ => exact ⟨some (mz_I x), μ, a, b⟩
  | 2, ⟨x, μ, a, b⟩ => exact ⟨some (mz_L x), μ, a, b⟩
  | _ + 3, ⟨x, μ, a, b⟩ => exact ⟨some (mz_R t x), μ, a, b⟩
theorem mz_tk_i {as rest : List mz_V} : ∀ {n : Nat} {acc st : List mz_V}, mz_tk n acc st = some (as, rest) → ∃ xs : List mz_V, xs.length = n ∧ st = xs ++ rest ∧ as = xs.reverse ++ acc
  | 0, acc, st, h => by
    unfold mz_tk at h
    cases h
    exact ⟨[], rfl, rfl, rfl⟩
  | n + 1, acc, [], h => by cases h
  | n + 1, acc, v :: st, h => by
    unfold mz_tk at h
    obtain ⟨xs, h1, h2, h3⟩ := mz_tk_i h
    refine ⟨v :: xs, by rw [List.length_cons, h1], by rw [h2]; rfl, ?_⟩
    rw [h3, List.reverse_cons, List.append_assoc]
    rfl
theorem mz_cl_i {C : mz_Cl} {g : List mz_V → Bool} {y n k t ml : Nat} {a' : List Nat} {st : List mz_V} {μ : mz_M} {f : List mz_V → mz_M → Prop} (h : mz_cl C g (y :: n :: k :: t :: ml :: a') st μ f) : ∃ (as rest : List mz_V) (r : Option mz_V) (μ' : mz_M), as.length = n ∧ st = as.reverse ++ rest ∧ mz_cs rest ≤ 8 ∧ mz_cs as ≤ ml ∧ g as = true ∧ C y as μ r μ' ∧ f (r.toList ++ rest) μ' := by
  unfold mz_cl at h
  dsimp only at h
  match hk : mz_tk n [] st, h with
  | some (as, rest), h =>
    obtain ⟨hb, h⟩ := mz_bif_i h
    obtain ⟨r, μ', h1, h2⟩ := mz_an_i h
    obtain ⟨xs, e1, e2, e3⟩ := mz_tk_i hk
    rw [List.append_nil] at e3
    rw [Bool.and_eq_true, Bool.and_eq_true] at hb
    refine ⟨as, rest, r, μ', by rw [e3, List.length_reverse, e1], by rw [e3, List.reverse_reverse, e2], Nat.le_of_ble_eq_true hb.1.1, Nat.le_of_ble_eq_true hb.1.2, hb.2, h1, h2⟩
theorem mz_cs_sum {ad : Nat → Nat} : ∀ (st : List mz_V), ((st.map (mz_cv ad)).map fun v => v.category).sum = mz_cs st
  | [] => rfl
  | v :: r => by
    rw [List.map_cons, List.map_cons, List.sum_cons, mz_cs_sum r, mz_cat_cv]
    rfl
theorem mz_lw_m {TBL : List Jvm.Cond} {pl : Nat} {w : Jvm.Cond} (h : mz_lw TBL pl w = true) : w ∈ TBL := List.mem_of_getElem? (of_decide_eq_true h)
theorem mz_lw_g {TBL : List Jvm.Cond} {pl : Nat} {w : Jvm.Cond} (h : mz_lw TBL pl w = true) (hg : goodWord w = true) : w ∈ TBL.filter goodWord := List.mem_filter.mpr ⟨mz_lw_m h, hg⟩
theorem mz_prs_m {pc : Nat} {q : Nat × Nat} : ∀ {offs : List Int} {lo : Int}, q ∈ mz_prs pc lo offs → ∃ (j : Nat) (o : Int), offs[j]? = some o ∧ q = ((lo + j).toNat, ((pc : Int) + o).toNat)
  | [], _, h => by cases h
  | o :: r, lo, h => by
    unfold mz_prs at h
    rcases List.mem_cons.mp h with rfl | h
    · exact ⟨0, o, rfl, by simp⟩
    · obtain ⟨j, o', h1, h2⟩ := mz_prs_m h
      exact ⟨j + 1, o', by rw [List.getElem?_cons_succ]; exact h1, by rw [h2]; congr 2; omega⟩
theorem mz_prs_in {pc : Nat} : ∀ {offs : List Int} {lo : Int} {j : Nat}, j < offs.length → ∃ q ∈ mz_prs pc lo offs, q.1 = (lo + j).toNat
  | [], _, _, h => by cases h
  | o :: r, lo, 0, _ => ⟨_, List.mem_cons_self, by simp⟩
  | o :: r, lo, j + 1, h => by
    obtain ⟨q, h1, h2⟩ := mz_prs_in (pc := pc) (offs := r) (lo := lo + 1) (j := j) (by simpa using h)
    exact ⟨q, List.mem_cons_of_mem _ h1, by rw [h2]; congr 1; omega⟩
theorem mz_ac_i {SH : List mz_Sh} {st : List mz_V} {fI fL : Nat → Nat → Int32 → Int32 → Int32 → List mz_V → Prop} (h : mz_ac SH st fI fL) : ∃ (n d : Int32) (t1 p1 : Nat) (s : Int32) (t0 p0 : Nat) (r : List mz_V), st = mz_I n :: mz_I d :: mz_R t1 p1 :: mz_I s :: mz_R t0 p0 :: r ∧ mz_cs r ≤ 8 ∧
    ((∃ i0 n0 q0 i1 n1 q1, mz_nth SH t0 = some (.inr (i0, n0, 0, q0)) ∧ mz_nth SH t1 = some (.inr (i1, n1, 0, q1)) ∧ (¬ s < 0 ∧ ¬ d < 0 ∧ ¬ n < 0 ∧ s.toNatClampNeg + n.toNatClampNeg ≤ n0 ∧ d.toNatClampNeg + n.toNatClampNeg ≤ n1) ∧ fI p0 p1 s d n r) ∨
    (∃ i0 n0 q0 i1 n1 q1, mz_nth SH t0 = some (.inr (i0, n0, 1, q0)) ∧ mz_nth SH t1 = some (.inr (i1, n1, 1, q1)) ∧ (¬ s < 0 ∧ ¬ d < 0 ∧ ¬ n < 0 ∧ s.toNatClampNeg + n.toNatClampNeg ≤ n0 ∧ d.toNatClampNeg + n.toNatClampNeg ≤ n1) ∧ fL p0 p1 s d n r)) := by
  unfold mz_ac at h
  split at h
  · next n d t1 p1 s t0 p0 r =>
    split at h
    · next i0 n0 q0 i1 n1 q1 h0 h1 =>
      obtain ⟨hb, hc⟩ := mz_bif_i h.2
      exact ⟨n, d, t1, p1, s, t0, p0, r, rfl, Nat.le_of_ble_eq_true hb, Or.inl ⟨i0, n0, q0, i1, n1, q1, h0, h1, h.1, hc⟩⟩
    · next i0 n0 q0 i1 n1 q1 h0 h1 =>
      obtain ⟨hb, hc⟩ := mz_bif_i h.2
      exact ⟨n, d, t1, p1, s, t0, p0, r, rfl, Nat.le_of_ble_eq_true hb, Or.inr ⟨i0, n0, q0, i1, n1, q1, h0, h1, h.1, hc⟩⟩
    · exact h.elim
  · exact h.elim
