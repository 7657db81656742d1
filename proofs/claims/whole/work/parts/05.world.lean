/-! The second machine's worlds as cells of the heap. -/
def mz_fv (ad : Nat → Nat) (μ : mz_M) (p k : Nat) (f : mz_F) : Value := match f with
  | none => .int (μ.1 p k)
  | some (b, off, _) => .ref (ad (mz_pl b p off))
def mz_cell (cA : Nat → ClassId) (ad : Nat → Nat) (μ : mz_M) (p : Nat) (sh : mz_Sh) : va_E := match sh with
  | .inl (ci, fs) => .inr (ci, (List.range fs.length).map (fun k => mz_fv ad μ p k (fs.getD k none)))
  | .inr (ti, n, 0, _) => .inl (cA ti, n, .inl (μ.1 p))
  | .inr (ti, n, 1, _) => .inl (cA ti, n, .inr (.inl (μ.2 p)))
  | .inr (ti, n, _ + 2, _, b, off, w) => .inl (cA ti, n, .inr (.inr (.inr (.inr (fun i => some (ad (mz_pl b p off + w * i)))))))
def mz_sh (SH : List mz_Sh) (t : Nat) : mz_Sh := SH.getD t (.inl (0, []))
def mz_w (SH : List mz_Sh) (LAY : List Nat) (cA : Nat → ClassId) (ad : Nat → Nat) (μ : mz_M) : va_W := (List.range LAY.length).map (fun p => (ad p, mz_cell cA ad μ p (mz_sh SH (LAY.getD p 0))))
def mz_cv (ad : Nat → Nat) (v : mz_V) : Value := match v with
  | .inl x => .int x
  | .inr (.inl x) => .long x
  | .inr (.inr (_, p)) => .ref (ad p)
def mz_vd (LAY : List Nat) (v : mz_V) : Prop := match v with
  | .inr (.inr (t, p)) => LAY[p]? = some t
  | _ => True
def mz_A (LAY : List Nat) (ad : Nat → Nat) : Nat → Prop := fun q => ∃ p, p < LAY.length ∧ q = ad p
theorem mz_nth_eq {α : Type} : ∀ (l : List α) (n : Nat), mz_nth l n = l[n]?
  | [], _ => rfl
  | _ :: _, 0 => rfl
  | _ :: r, n + 1 => by rw [List.getElem?_cons_succ]; exact mz_nth_eq r n
theorem mz_w_get {SH : List mz_Sh} {LAY : List Nat} {cA : Nat → ClassId} {ad : Nat → Nat} {μ : mz_M} {p t : Nat} {sh : mz_Sh} (h : LAY[p]? = some t) (hs : mz_nth SH t = some sh) : (mz_w SH LAY cA ad μ)[p]? = some (ad p, mz_cell cA ad μ p sh) := by
  have hl := (List.getElem?_eq_some_iff.mp h).1
  have e : mz_sh SH (LAY.getD p 0) = sh := by
    rw [List.getD_eq_getElem?_getD, h]
    rw [mz_nth_eq] at hs
    show SH.getD t _ = sh
    rw [List.getD_eq_getElem?_getD, hs]; rfl
  unfold mz_w
  rw [List.getElem?_map, List.getElem?_range hl]
  show some (ad p, mz_cell cA ad μ p (mz_sh SH (LAY.getD p 0))) = _
  rw [e]
theorem mz_w_len {SH : List mz_Sh} {LAY : List Nat} {cA : Nat → ClassId} {ad : Nat → Nat} {μ : mz_M} : (mz_w SH LAY cA ad μ).length = LAY.length := by
  unfold mz_w; rw [List.length_map, List.length_range]
theorem mz_cell_eq {cA : Nat → ClassId} {ad : Nat → Nat} {μ μ' : mz_M} {p : Nat} (h1 : μ'.1 p = μ.1 p) (h2 : μ'.2 p = μ.2 p) (sh : mz_Sh) : mz_cell cA ad μ' p sh = mz_cell cA ad μ p sh := by
  match sh with
  | .inl (ci, fs) =>
    have e : ∀ k, mz_fv ad μ' p k (fs.getD k none) = mz_fv ad μ p k (fs.getD k none) := by
      intro k
      cases fs.getD k none with
      | none => show Value.int (μ'.1 p k) = Value.int (μ.1 p k); rw [h1]
      | some q => rfl
    show Sum.inr (ci, _) = Sum.inr (ci, _)
    congr 2
    exact List.map_congr_left (fun k _ => e k)
  | .inr (ti, n, 0, q) => show Sum.inl (cA ti, n, Sum.inl (μ'.1 p)) = Sum.inl (cA ti, n, Sum.inl (μ.1 p)); rw [h1]
  | .inr (ti, n, 1, q) => show Sum.inl (cA ti, n, Sum.inr (Sum.inl (μ'.2 p))) = Sum.inl (cA ti, n, Sum.inr (Sum.inl (μ.2 p))); rw [h2]
  | .inr (ti, n, k + 2, t, b, off, w) => rfl
theorem mz_w_set {SH : List mz_Sh} {LAY : List Nat} {cA : Nat → ClassId} {ad : Nat → Nat} {μ μ' : mz_M} {p t : Nat} {sh : mz_Sh} (h : LAY[p]? = some t) (hs : mz_nth SH t = some sh) (ho : ∀ q, q ≠ p → μ'.1 q = μ.1 q ∧ μ'.2 q = μ.2 q) : (mz_w SH LAY cA ad μ).set p (ad p, mz_cell cA ad μ' p sh) = mz_w SH LAY cA ad μ' := by
  have hl := (List.getElem?_eq_some_iff.mp h).1
  apply List.ext_getElem?
  intro q
  by_cases hq : q = p
  · subst hq
    rw [List.getElem?_set_self (by rw [mz_w_len]; exact hl), mz_w_get h hs]
  · rw [List.getElem?_set_ne (Ne.symm hq)]
    unfold mz_w
    rw [List.getElem?_map, List.getElem?_map]
    cases hr : (List.range LAY.length)[q]? with
    | none => rfl
    | some z =>
      have hz : z = q := by
        have h1 := (List.getElem?_eq_some_iff.mp hr)
        obtain ⟨h1, h2⟩ := h1
        rw [List.getElem_range] at h2
        exact h2.symm
      subst hz
      show some (ad z, _) = some (ad z, _)
      rw [mz_cell_eq (ho z hq).1 (ho z hq).2]
theorem mz_w_D {SH : List mz_Sh} {LAY : List Nat} {cA : Nat → ClassId} {ad : Nat → Nat} {μ : mz_M} (had : ∀ i j, i < LAY.length → j < LAY.length → ad i = ad j → i = j) : va_D (mz_A LAY ad) (mz_w SH LAY cA ad μ) := by
  have key : ∀ (k : Nat) (q : Nat × va_E), (mz_w SH LAY cA ad μ)[k]? = some q → k < LAY.length ∧ q.1 = ad k := by
    intro k q hk
    have hl : k < LAY.length := by
      have := (List.getElem?_eq_some_iff.mp hk).1
      rwa [mz_w_len] at this
    unfold mz_w at hk
    rw [List.getElem?_map, List.getElem?_range hl] at hk
    cases hk
    exact ⟨hl, rfl⟩
  refine ⟨fun i j x y hi hj hxy => ?_, fun k q hk => ⟨k, (key k q hk).1, (key k q hk).2⟩⟩
  obtain ⟨a1, a2⟩ := key i x hi
  obtain ⟨b1, b2⟩ := key j y hj
  exact had i j a1 b1 (by rw [← a2, ← b2]; exact hxy)
/-! Locals. -/
def mz_lc (ad : Nat → Nat) (L : mz_Lo) : List (Nat × Value) := L.map (fun q => (q.1, mz_cv ad q.2))
theorem mz_has_sub {ls : Array Slot} {n : Nat} {l l' : List (Nat × Value)} (h : lv_has ls n l) (hs : ∀ q ∈ l', q ∈ l) : lv_has ls n l' := ⟨h.1, h.2.1, fun q hq => h.2.2 q (hs q hq)⟩
theorem mz_lk_mem {v : mz_V} {i : Nat} : ∀ {L : mz_Lo}, mz_lk L i = some v → (i, v) ∈ L
  | [], h => by cases h
  | q :: r, h => by
    unfold mz_lk at h
    cases hb : Nat.beq q.1 i with
    | true =>
      rw [hb] at h
      have e : q.1 = i := Nat.eq_of_beq_eq_true hb
      obtain ⟨a, b⟩ := q
      cases e
      cases h
      exact List.mem_cons_self
    | false =>
      rw [hb] at h
      exact List.mem_cons_of_mem _ (mz_lk_mem h)
theorem mz_has_at {ad : Nat → Nat} {ls : Array Slot} {n i : Nat} {L : mz_Lo} {v : mz_V} (h : lv_has ls n (mz_lc ad L)) (hk : mz_lk L i = some v) : ls[i]? = some (.val (mz_cv ad v)) :=
  h.2.2 (i, mz_cv ad v) (List.mem_map.mpr ⟨(i, v), mz_lk_mem hk, rfl⟩)
theorem mz_ins_mem {i : Nat} {v : mz_V} {q : Nat × mz_V} : ∀ {L : mz_Lo}, q ∈ mz_ins i v L → q = (i, v) ∨ q ∈ L
  | [], h => by
    rcases List.mem_cons.mp h with h | h
    · exact Or.inl h
    · cases h
  | z :: r, h => by
    unfold mz_ins at h
    cases hb : Nat.ble z.1 i with
    | true =>
      rw [hb] at h
      rcases List.mem_cons.mp h with h | h
      · exact Or.inr (h ▸ List.mem_cons_self)
      · rcases mz_ins_mem h with h | h
        · exact Or.inl h
        · exact Or.inr (List.mem_cons_of_mem _ h)
    | false =>
      rw [hb] at h
      rcases List.mem_cons.mp h with h | h
      · exact Or.inl h
      · exact Or.inr h
theorem mz_rm_mem {i : Nat} {w : Bool} {q : Nat × mz_V} : ∀ {L : mz_Lo}, q ∈ mz_rm i w L → q ∈ L ∧ q.1 ≠ i ∧ (w = true → q.1 ≠ i + 1) ∧ ¬ (q.1 + 1 = i ∧ mz_cat q.2 = 2)
  | [], h => by cases h
  | z :: r, h => by
    unfold mz_rm at h
    cases hb : (Nat.beq z.1 i || (w && Nat.beq z.1 (i + 1)) || (Nat.beq (z.1 + 1) i && Nat.beq (mz_cat z.2) 2)) with
    | true =>
      rw [hb] at h
      obtain ⟨a, b⟩ := mz_rm_mem h
      exact ⟨List.mem_cons_of_mem _ a, b⟩
    | false =>
      rw [hb] at h
      rcases List.mem_cons.mp h with h | h
      · subst h
        simp only [Bool.or_eq_false_iff, Bool.and_eq_false_iff] at hb
        refine ⟨List.mem_cons_self, fun e => ?_, fun hw e => ?_, fun ⟨e1, e2⟩ => ?_⟩
        · rw [e] at hb; simp at hb
        · rw [e, hw] at hb; simp at hb
        · rw [e1, e2] at hb; simp at hb
      · obtain ⟨a, b⟩ := mz_rm_mem h
        exact ⟨List.mem_cons_of_mem _ a, b⟩
theorem mz_kl_mem {ks : List Nat} {q : Nat × mz_V} : ∀ {L : mz_Lo}, q ∈ mz_kl ks L → q ∈ L
  | [], h => by cases h
  | z :: r, h => by
    unfold mz_kl at h
    cases hb : mz_el z.1 ks with
    | true =>
      rw [hb] at h
      rcases List.mem_cons.mp h with h | h
      · exact h ▸ List.mem_cons_self
      · exact List.mem_cons_of_mem _ (mz_kl_mem h)
    | false =>
      rw [hb] at h
      exact List.mem_cons_of_mem _ (mz_kl_mem h)
theorem mz_kp_mem {o : Option (List Nat)} {q : Nat × mz_V} {L : mz_Lo} (h : q ∈ mz_kp o L) : q ∈ L := by
  cases o with
  | none => exact h
  | some ks => exact mz_kl_mem h
theorem mz_cat_cv (ad : Nat → Nat) (v : mz_V) : (mz_cv ad v).category = mz_cat v := by
  match v with
  | .inl _ => rfl
  | .inr (.inl _) => rfl
  | .inr (.inr (_, _)) => rfl
theorem mz_has_kp {ad : Nat → Nat} {ls : Array Slot} {n : Nat} {L : mz_Lo} (o : Option (List Nat)) (h : lv_has ls n (mz_lc ad L)) : lv_has ls n (mz_lc ad (mz_kp o L)) :=
  mz_has_sub h (fun q hq => by
    obtain ⟨z, h1, h2⟩ := List.mem_map.mp hq
    exact List.mem_map.mpr ⟨z, mz_kp_mem h1, h2⟩)
theorem mz_has_st1 {ad : Nat → Nat} {ls : Array Slot} {n i : Nat} {L : mz_Lo} {v : mz_V} (o : Option (List Nat)) (h : lv_has ls n ((i, mz_cv ad v) :: (mz_lc ad L).filter (fun q => !(q.1 == i) && !(q.1 + 1 == i && q.2.category == 2)))) : lv_has ls n (mz_lc ad (mz_kp o (mz_st1 L i v))) := by
  refine mz_has_kp o (mz_has_sub h (fun q hq => ?_))
  obtain ⟨z, h1, rfl⟩ := List.mem_map.mp hq
  rcases mz_ins_mem h1 with rfl | h1
  · exact List.mem_cons_self
  · obtain ⟨a1, a2, -, a4⟩ := mz_rm_mem h1
    refine List.mem_cons_of_mem _ (List.mem_filter.mpr ⟨List.mem_map.mpr ⟨z, a1, rfl⟩, ?_⟩)
    rw [mz_cat_cv]
    simp only [Bool.and_eq_true, Bool.not_eq_true', beq_eq_false_iff_ne, ne_eq, Bool.and_eq_false_iff]
    refine ⟨a2, ?_⟩
    by_cases e : z.1 + 1 = i
    · exact Or.inr (fun e2 => a4 ⟨e, e2⟩)
    · exact Or.inl e
theorem mz_has_st2 {ad : Nat → Nat} {ls : Array Slot} {n i : Nat} {L : mz_Lo} {v : mz_V} (o : Option (List Nat)) (h : lv_has ls n ((i, mz_cv ad v) :: (mz_lc ad L).filter (fun q => !(q.1 == i) && (!(q.1 == i + 1) && !(q.1 + 1 == i && q.2.category == 2))))) : lv_has ls n (mz_lc ad (mz_kp o (mz_st2 L i v))) := by
  refine mz_has_kp o (mz_has_sub h (fun q hq => ?_))
  obtain ⟨z, h1, rfl⟩ := List.mem_map.mp hq
  rcases mz_ins_mem h1 with rfl | h1
  · exact List.mem_cons_self
  · obtain ⟨a1, a2, a3, a4⟩ := mz_rm_mem h1
    refine List.mem_cons_of_mem _ (List.mem_filter.mpr ⟨List.mem_map.mpr ⟨z, a1, rfl⟩, ?_⟩)
    rw [mz_cat_cv]
    simp only [Bool.and_eq_true, Bool.not_eq_true', beq_eq_false_iff_ne, ne_eq, Bool.and_eq_false_iff]
    refine ⟨a2, a3 rfl, ?_⟩
    by_cases e : z.1 + 1 = i
    · exact Or.inr (fun e2 => a4 ⟨e, e2⟩)
    · exact Or.inl e
def mz_vl (LAY : List Nat) (L : mz_Lo) : Prop := ∀ q ∈ L, mz_vd LAY q.2
def mz_vs (LAY : List Nat) (st : List mz_V) : Prop := ∀ v ∈ st, mz_vd LAY v
theorem mz_vl_kp {LAY : List Nat} {L : mz_Lo} (o : Option (List Nat)) (h : mz_vl LAY L) : mz_vl LAY (mz_kp o L) := fun q hq => h q (mz_kp_mem hq)
theorem mz_vl_st1 {LAY : List Nat} {L : mz_Lo} (o : Option (List Nat)) {i : Nat} {v : mz_V} (h : mz_vl LAY L) (hv : mz_vd LAY v) : mz_vl LAY (mz_kp o (mz_st1 L i v)) := mz_vl_kp o (fun q hq => by
  rcases mz_ins_mem hq with rfl | h1
  · exact hv
  · exact h q (mz_rm_mem h1).1)
theorem mz_vl_st2 {LAY : List Nat} {L : mz_Lo} (o : Option (List Nat)) {i : Nat} {v : mz_V} (h : mz_vl LAY L) (hv : mz_vd LAY v) : mz_vl LAY (mz_kp o (mz_st2 L i v)) := mz_vl_kp o (fun q hq => by
  rcases mz_ins_mem hq with rfl | h1
  · exact hv
  · exact h q (mz_rm_mem h1).1)
theorem mz_vl_lk {LAY : List Nat} {L : mz_Lo} {i : Nat} {v : mz_V} (h : mz_vl LAY L) (hk : mz_lk L i = some v) : mz_vd LAY v := h _ (mz_lk_mem hk)
theorem mz_vs_c {LAY : List Nat} {st : List mz_V} {v : mz_V} (hv : mz_vd LAY v) (h : mz_vs LAY st) : mz_vs LAY (v :: st) := fun w hw => by
  rcases List.mem_cons.mp hw with rfl | hw
  · exact hv
  · exact h w hw
theorem mz_vs_t {LAY : List Nat} {st : List mz_V} {v : mz_V} (h : mz_vs LAY (v :: st)) : mz_vs LAY st := fun w hw => h w (List.mem_cons_of_mem _ hw)
theorem mz_vs_h {LAY : List Nat} {st : List mz_V} {v : mz_V} (h : mz_vs LAY (v :: st)) : mz_vd LAY v := h v List.mem_cons_self
