/-! Shelves (four series, the length, the draw) and the past. -/
abbrev es_Sn : Type := (Nat → List Int) × Nat × Int32
def es_sr (S : es_Sn) (s : Nat) (l : List Int) : es_Sn := (fun k => if k = s then l else S.1 k, S.2)
def es_sh (μ : mz_M) (q : Nat) (S : es_Sn) : Prop := (∀ s, s < 4 → es_row μ (q + 1 + 1 + 2 * s) (S.1 s)) ∧ μ.1 q 1 = nI S.2.1 ∧ μ.1 q 2 = S.2.2 ∧ 4 ≤ S.2.1 ∧ S.2.1 ≤ 40 ∧ 0 ≤ S.2.2.toInt
def es_bk (q n : Nat) : Nat → Prop := fun z => q ≤ z ∧ z < q + n
theorem es_fw1 {μ : mz_M} {p k : Nat} {x : Int32} : es_fr (fun z => z = p) μ (mz_wI μ p k x) := es_fr.wI (S := fun z => z = p) es_fr.rf rfl
theorem es_fw2 {μ : mz_M} {p k k' : Nat} {x x' : Int32} : es_fr (fun z => z = p) μ (mz_wI (mz_wI μ p k x) p k' x') := es_fr.wI (S := fun z => z = p) es_fw1 rfl
theorem es_sh.kept {T : Nat → Prop} {μ μ' : mz_M} {q : Nat} {S : es_Sn} (h : es_sh μ q S) (hf : es_fr T μ μ') (ht : ∀ z, q ≤ z → z < q + 10 → ¬ T z) : es_sh μ' q S := by
  obtain ⟨h1, h2, h3, h4⟩ := h
  refine ⟨fun s hs => (h1 s hs).kept hf (ht _ (by omega) (by omega)) (ht _ (by omega) (by omega)), ?_, ?_, h4⟩
  · rw [(hf q (ht q (by omega) (by omega))).1]; exact h2
  · rw [(hf q (ht q (by omega) (by omega))).1]; exact h3
theorem s_floorMod (d : Nat) {a m : Nat} (ha : a < 2147483648) (hm : 0 < m) (hm2 : m < 2147483648) (μ : mz_M) : es_I (d + 1) n_Math_floorMod [mz_I (nI a), mz_I (nI m)] μ (fun r μ' => μ' = μ ∧ r = nI (a % m)) := by
  refine es_I.mk (w_Math_floorMod_0 (nI a) (nI m) μ ⟨nI_ne0 hm (by omega), es_t ?_ (es_rI ⟨rfl, pk_rem (by omega) hm (by omega)⟩)⟩)
  rw [fb_xorI]
  exact nI_pos' (Nat.xor_lt_two_pow (n := 31) (by omega) (by omega))
theorem s_floorMod_m (d : Nat) (μ : mz_M) : es_I (d + 1) n_Math_floorMod [mz_I (-1), mz_I (nI 6)] μ (fun r μ' => μ' = μ ∧ r = nI 5) := by
  refine es_I.mk (w_Math_floorMod_0 (-1) (nI 6) μ ⟨by decide +kernel, es_f (by decide +kernel) (es_f (by decide +kernel) (es_rI ⟨rfl, by decide +kernel⟩))⟩)
theorem s_shtake (d : Nat) {q q' : Nat} {μ : mz_M} {S : es_Sn} (h : es_sh μ q' S) (hq : q + 10 ≤ q' ∨ q' + 10 ≤ q) : es_V (d + 2) n_Shelf_take [mz_R 1 q, mz_R 1 q'] μ (fun μ' => es_fr (es_bk q 10) μ μ' ∧ es_sh μ' q S) := by
  refine es_V.mk (w_Shelf_take_0 q q' μ ?_)
  have key : ∀ (g k : Nat) (μ' : mz_M), 4 - k ≤ g → k ≤ 4 → es_fr (es_bk q 10) μ μ' → (∀ s, s < k → es_row μ' (q + 1 + 1 + 2 * s) (S.1 s)) → v_Shelf_take (es_R (d + 1)) (es_qV (fun μ' => es_fr (es_bk q 10) μ μ' ∧ es_sh μ' q S)) (2, [(0, mz_R 1 q), (1, mz_R 1 q'), (2, mz_I (nI k))], [], μ') := by
    have stop : ∀ (k : Nat) (μ' : mz_M), k = 4 → es_fr (es_bk q 10) μ μ' → (∀ s, s < k → es_row μ' (q + 1 + 1 + 2 * s) (S.1 s)) → v_Shelf_take (es_R (d + 1)) (es_qV (fun μ' => es_fr (es_bk q 10) μ μ' ∧ es_sh μ' q S)) (2, [(0, mz_R 1 q), (1, mz_R 1 q'), (2, mz_I (nI k))], [], μ') := by
      intro k μ' hk hf hr
      have h' := h.kept hf (fun z a b c => by unfold es_bk at c; omega)
      have hw : es_fr (es_bk q 10) μ' (mz_wI (mz_wI μ' q 1 (μ'.1 q' 1)) q 2 ((mz_wI μ' q 1 (μ'.1 q' 1)).1 q' 2)) := (es_fr.rf.wI ⟨by omega, by omega⟩).wI ⟨by omega, by omega⟩
      refine w_Shelf_take_2 q q' (nI k) μ' (es_t (nI_le (by omega) (by omega)) (es_rV ⟨hf.tr hw, ?_⟩))
      refine ⟨fun s hs => ?_, ?_, ?_, h'.2.2.2⟩
      · refine (hr s (by omega)).kept (S := fun z => z = q) es_fw2 (by omega) (by omega)
      · rw [mz_wI_at, if_neg (by omega), mz_wI_at, if_pos ⟨rfl, rfl⟩]; exact h'.2.1
      · rw [mz_wI_at, if_pos ⟨rfl, rfl⟩, mz_wI_at, if_neg (by omega)]; exact h'.2.2.1
    intro g
    induction g with
    | zero => exact fun k μ' hg hk hf hr => stop k μ' (by omega) hf hr
    | succ g ih =>
      intro k μ' hg hk hf hr
      by_cases hk4 : k = 4
      · exact stop k μ' hk4 hf hr
      · refine w_Shelf_take_2 q q' (nI k) μ' (es_f (nI_ge (by omega) (by omega)) ⟨vp_in_nI (by omega) (by omega), vp_in_nI (by omega) (by omega), ?_⟩)
        rw [es_clamp (by omega)]
        have h' := h.kept hf (fun z a b c => by unfold es_bk at c; omega)
        obtain ⟨μ1, hC, hf1, hr1⟩ := s_take d (p := q + 1 + 1 + 2 * k) (h'.1 k (by omega)) (by unfold es_sep; omega)
        refine ⟨_, hC, ?_⟩
        rw [nI_1]
        refine ih (k + 1) μ1 (by omega) (by omega) (hf.tr (hf1.mono (fun z hz => by unfold es_2 at hz; unfold es_bk; omega))) (fun s hs => ?_)
        by_cases e : s = k
        · rw [e]; exact hr1
        · exact (hr s (by omega)).kept hf1 (by unfold es_2; omega) (by unfold es_2; omega)
  exact key 4 0 μ (by omega) (by omega) es_fr.rf (fun s hs => by omega)
theorem s_missing (d : Nat) {q : Nat} {x : Int32} {μ : mz_M} {S : es_Sn} (h : es_sh μ q S) (h0 : 0 ≤ x.toInt) (h4 : x.toInt < 4) : es_I (d + 2) n_Shelf_isMissing [mz_R 1 q, mz_I x] μ (fun r μ' => μ' = μ ∧ r = es_b (decide (S.1 x.toInt.toNat = []))) := by
  refine es_I.mk (w_Shelf_isMissing_0 q x μ ?_)
  refine ⟨_, _, es_pure (s_isFour d x μ), ?_⟩
  rw [decide_eq_true ⟨h0, h4⟩]
  refine es_f (by decide +kernel) ⟨es_in h0 h4, ?_⟩
  have hr := h.1 x.toInt.toNat (by omega)
  have h40 := hr.1.1
  rw [show x.toNatClampNeg = x.toInt.toNat from rfl, hr.2.1]
  refine es_br (fun c => ⟨Or.inr rfl, es_rI ⟨rfl, ?_⟩⟩) (fun c => ⟨Or.inl rfl, es_rI ⟨rfl, ?_⟩⟩)
  · have := (nI_eq (a := (S.1 x.toInt.toNat).length) (b := 0) (by omega) (by omega)).mp c
    rw [decide_eq_true (List.eq_nil_of_length_eq_zero this)]; rfl
  · rw [decide_eq_false (fun z => c (by rw [z]; rfl))]; rfl
/-- which series there are, as bits -/
def es_pr (S : es_Sn) : Nat → Int32
  | 0 => 0
  | k + 1 => if S.1 k = [] then es_pr S k else es_pr S k ||| (1 <<< (nI k &&& 31))
theorem s_present (d : Nat) {q : Nat} {μ : mz_M} {S : es_Sn} (h : es_sh μ q S) : es_I (d + 1) n_Shelf_present [mz_R 1 q] μ (fun r μ' => μ' = μ ∧ r = es_pr S 4) := by
  refine es_I.mk (w_Shelf_present_0 q μ ?_)
  have key : ∀ (g k : Nat), 4 - k ≤ g → k ≤ 4 → v_Shelf_present (es_R d) (es_qI (fun r μ' => μ' = μ ∧ r = es_pr S 4)) (4, [(0, mz_R 1 q), (1, mz_I (es_pr S k)), (2, mz_I (nI k))], [], μ) := by
    intro g
    induction g with
    | zero =>
      intro k hg hk
      have : k = 4 := by omega
      subst this
      exact w_Shelf_present_4 q _ _ μ (es_t (nI_le (by omega) (by omega)) (es_rI ⟨rfl, rfl⟩))
    | succ g ih =>
      intro k hg hk
      by_cases hk4 : k = 4
      · subst hk4
        exact w_Shelf_present_4 q _ _ μ (es_t (nI_le (by omega) (by omega)) (es_rI ⟨rfl, rfl⟩))
      · refine w_Shelf_present_4 q _ _ μ (es_f (nI_ge (by omega) (by omega)) ⟨vp_in_nI (by omega) (by omega), ?_⟩)
        have hr := h.1 k (by omega)
        have h40 := hr.1.1
        have nx := ih (k + 1) (by omega) (by omega)
        rw [es_clamp (by omega), hr.2.1, nI_1]
        refine es_br (fun c => ?_) (fun c => ?_)
        · have c := (nI_leI (a := (S.1 k).length) (b := 0) (by omega) (by omega)).mp c
          have e : es_pr S (k + 1) = es_pr S k := if_pos (List.eq_nil_of_length_eq_zero (by omega))
          rw [e] at nx
          exact nx
        · have e : es_pr S (k + 1) = es_pr S k ||| (1 <<< (nI k &&& 31)) := if_neg (fun z => c (by rw [z]; exact nI_le (a := 0) (b := 0) (by omega) (by omega)))
          rw [e] at nx
          exact nx
  exact key 4 0 (by omega) (by omega)
/-- the past: the latest first -/
def es_ps (μ : mz_M) (P : Nat) (U : List es_Sn) : Prop := ∃ (nx : Nat) (R : Nat → es_Sn), nx < 6 ∧ U.length ≤ 6 ∧ μ.1 P 1 = nI U.length ∧ μ.1 P 2 = nI nx ∧ (∀ i, i < 6 → es_sh μ (P + 1 + 1 + 10 * i) (R i)) ∧ ∀ i, i < U.length → U[i]? = some (R ((nx + 5 - i) % 6))
theorem es_ps.kept {T : Nat → Prop} {μ μ' : mz_M} {P : Nat} {U : List es_Sn} (h : es_ps μ P U) (hf : es_fr T μ μ') (ht : ∀ z, P ≤ z → z < P + 62 → ¬ T z) : es_ps μ' P U := by
  obtain ⟨nx, R, h1, h2, h3, h4, h5, h6⟩ := h
  refine ⟨nx, R, h1, h2, ?_, ?_, fun i hi => (h5 i hi).kept hf (fun z a b => ht z (by omega) (by omega)), h6⟩
  · rw [(hf P (ht P (by omega) (by omega))).1]; exact h3
  · rw [(hf P (ht P (by omega) (by omega))).1]; exact h4
theorem s_remember (d : Nat) {P q : Nat} {μ : mz_M} {U : List es_Sn} {S : es_Sn} (h : es_ps μ P U) (hs : es_sh μ q S) (hq : q + 10 ≤ P ∨ P + 62 ≤ q) : es_V (d + 3) n_Past_remember [mz_R 5 P, mz_R 1 q] μ (fun μ' => es_fr (es_bk P 62) μ μ' ∧ es_ps μ' P ((S :: U).take 6)) := by
  obtain ⟨nx, R, h1, h2, h3, h4, h5, h6⟩ := h
  refine es_V.mk (w_Past_remember_0 P q μ ?_)
  rw [h4]
  refine ⟨_, _, es_pure (s_floorMod (d + 1) (a := nx) (m := 6) (by omega) (by omega) (by omega) μ), vp_in_nI (Nat.mod_lt _ (by omega)) (by omega), ?_⟩
  rw [Nat.mod_eq_of_lt h1, es_clamp (by omega)]
  obtain ⟨μ1, hC, hf1, hs1⟩ := s_shtake d (q := P + 1 + 1 + 10 * nx) hs (by omega)
  refine ⟨_, hC, ?_⟩
  have hP1 : ∀ j, μ1.1 P j = μ.1 P j := fun j => congrFun (hf1 P (by unfold es_bk; omega)).1 j
  rw [hP1, h4, nI_1]
  refine ⟨_, _, es_pure (s_floorMod (d + 1) (a := nx + 1) (m := 6) (by omega) (by omega) (by omega) μ1), ?_⟩
  rw [mz_wI_at, if_neg (by omega), hP1, h3, nI_1]
  refine ⟨_, _, es_pure (s_min_n (d + 1) (a := U.length + 1) (b := 6) (by omega) (by omega) _), es_rV ?_⟩
  have hfw : es_fr (es_bk P 62) μ (mz_wI (mz_wI μ1 P 2 (nI ((nx + 1) % 6))) P 1 (nI (min (U.length + 1) 6))) := ((hf1.mono (fun z hz => by unfold es_bk at *; omega)).wI ⟨by omega, by omega⟩).wI ⟨by omega, by omega⟩
  refine ⟨hfw, (nx + 1) % 6, fun i => if i = nx then S else R i, Nat.mod_lt _ (by omega), ?_, ?_, ?_, fun i hi => ?_, fun i hi => ?_⟩
  · rw [List.length_take]; omega
  · rw [mz_wI_at, if_pos ⟨rfl, rfl⟩, List.length_take, List.length_cons, Nat.min_comm]
  · rw [mz_wI_at, if_neg (by omega), mz_wI_at, if_pos ⟨rfl, rfl⟩]
  · have hk : ∀ {Z : es_Sn} {μ2 : mz_M}, es_sh μ2 (P + 1 + 1 + 10 * i) Z → es_sh (mz_wI (mz_wI μ2 P 2 (nI ((nx + 1) % 6))) P 1 (nI (min (U.length + 1) 6))) (P + 1 + 1 + 10 * i) Z := fun hZ => hZ.kept (T := fun z => z = P) es_fw2 (fun z a b => by omega)
    show es_sh _ _ (if i = nx then S else R i)
    by_cases e : i = nx
    · rw [if_pos e]
      subst e
      exact hk hs1
    · rw [if_neg e]
      exact hk ((h5 i hi).kept hf1 (fun z a b c => by unfold es_bk at c; omega))
  · rw [List.length_take, List.length_cons] at hi
    rw [List.getElem?_take_of_lt (by omega)]
    cases i with
    | zero =>
      rw [List.getElem?_cons_zero, show ((nx + 1) % 6 + 5 - 0) % 6 = nx by omega]
      exact congrArg some (if_pos rfl).symm
    | succ i =>
      rw [List.getElem?_cons_succ, h6 i (by omega), show ((nx + 1) % 6 + 5 - (i + 1)) % 6 = (nx + 5 - i) % 6 by omega]
      exact congrArg some (if_neg (show ¬ (nx + 5 - i) % 6 = nx by omega)).symm
def es_bb (P q : Nat) (U : List es_Sn) (μ : mz_M) (r : Int32) (μ' : mz_M) : Prop := match U with
  | [] => r = 0 ∧ μ' = μ
  | S :: V => r = 1 ∧ es_fr (fun z => es_bk P 62 z ∨ es_bk q 10 z) μ μ' ∧ es_sh μ' q S ∧ es_ps μ' P V
theorem s_bringBack (d : Nat) {P q : Nat} {μ : mz_M} {U : List es_Sn} (h : es_ps μ P U) (hq : q + 10 ≤ P ∨ P + 62 ≤ q) : es_I (d + 3) n_Past_bringBack [mz_R 5 P, mz_R 1 q] μ (es_bb P q U μ) := by
  obtain ⟨nx, R, h1, h2, h3, h4, h5, h6⟩ := h
  refine es_I.mk (w_Past_bringBack_0 P q μ ?_)
  cases U with
  | nil => exact es_f (by rw [h3]; decide +kernel) ⟨Or.inl rfl, es_rI ⟨rfl, rfl⟩⟩
  | cons S V =>
    refine es_t (by rw [h3]; exact nI_le (a := 1) (by simp) (by simp at h2 ⊢; omega)) ?_
    have h60 := h6 0 (by simp)
    rw [List.getElem?_cons_zero] at h60
    have hS : S = R ((nx + 5) % 6) := Option.some.inj h60
    rw [h4]
    have hfm : es_R (d + 2) n_Math_floorMod [mz_I (nI nx - 1), mz_I (nI 6)] μ (some (mz_I (nI ((nx + 5) % 6)))) μ := by
      by_cases e : nx = 0
      · subst e
        exact es_pure (s_floorMod_m (d + 1) μ)
      · rw [show (1 : Int32) = nI 1 from rfl, pk_sub (by omega), show (nx + 5) % 6 = (nx - 1) % 6 by omega]
        exact es_pure (s_floorMod (d + 1) (a := nx - 1) (m := 6) (by omega) (by omega) (by omega) μ)
    refine ⟨_, _, hfm, ?_⟩
    rw [mz_wI_at, if_pos ⟨rfl, rfl⟩]
    have hlt : (nx + 5) % 6 < 6 := Nat.mod_lt _ (by omega)
    refine ⟨vp_in_nI hlt (by omega), ?_⟩
    rw [es_clamp (by omega)]
    have hw : es_fr (fun z => z = P) μ (mz_wI μ P 2 (nI ((nx + 5) % 6))) := es_fw1
    obtain ⟨μ1, hC, hf1, hs1⟩ := s_shtake d (q := q) ((h5 ((nx + 5) % 6) hlt).kept hw (fun z a b => by omega)) (by omega)
    refine ⟨_, hC, Or.inr rfl, es_rI ?_⟩
    have hP1 : ∀ j, μ1.1 P j = (mz_wI μ P 2 (nI ((nx + 5) % 6))).1 P j := fun j => congrFun (hf1 P (by unfold es_bk; omega)).1 j
    have hw2 : es_fr (fun z => z = P) μ1 (mz_wI μ1 P 1 (μ1.1 P 1 - 1)) := es_fw1
    refine ⟨rfl, ?_, ?_, nx - 1 + (if nx = 0 then 5 else 0), R, ?_, ?_, ?_, ?_, fun i hi => ?_, fun i hi => ?_⟩
    · exact ((hw.mono (fun z hz => Or.inl ⟨by omega, by omega⟩)).tr (hf1.mono (fun z hz => Or.inr hz))).tr (hw2.mono (fun z hz => Or.inl ⟨by omega, by omega⟩))
    · rw [hS]
      exact hs1.kept hw2 (fun z a b => by omega)
    · split <;> omega
    · simp at h2; omega
    · rw [mz_wI_at, if_pos ⟨rfl, rfl⟩, hP1, mz_wI_at, if_neg (by omega), h3, List.length_cons]
      exact nI_pred _
    · rw [mz_wI_at, if_neg (by omega), hP1, mz_wI_at, if_pos ⟨rfl, rfl⟩]
      congr 1
      split <;> omega
    · exact (((h5 i hi).kept hw (fun z a b => by omega)).kept hf1 (fun z a b c => by unfold es_bk at c; omega)).kept hw2 (fun z a b => by omega)
    · have := h6 (i + 1) (by simp; omega)
      rw [List.getElem?_cons_succ] at this
      rw [this]
      have hV : V.length + 1 ≤ 6 := h2
      congr 2
      split <;> omega
theorem s_takeAll (d : Nat) {P P' : Nat} {μ : mz_M} {U : List es_Sn} (h : es_ps μ P' U) (hq : P + 62 ≤ P' ∨ P' + 62 ≤ P) : es_V (d + 3) n_Past_takeAll [mz_R 5 P, mz_R 5 P'] μ (fun μ' => es_fr (es_bk P 62) μ μ' ∧ es_ps μ' P U) := by
  refine es_V.mk (w_Past_takeAll_0 P P' μ ?_)
  obtain ⟨nx, R, h1, h2, h3, h4, h5, h6⟩ := h
  have key : ∀ (g k : Nat) (μ' : mz_M), 6 - k ≤ g → k ≤ 6 → es_fr (es_bk P 62) μ μ' → (∀ i, i < k → es_sh μ' (P + 1 + 1 + 10 * i) (R i)) → v_Past_takeAll (es_R (d + 2)) (es_qV (fun μ' => es_fr (es_bk P 62) μ μ' ∧ es_ps μ' P U)) (2, [(0, mz_R 5 P), (1, mz_R 5 P'), (2, mz_I (nI k))], [], μ') := by
    have stop : ∀ (k : Nat) (μ' : mz_M), k = 6 → es_fr (es_bk P 62) μ μ' → (∀ i, i < k → es_sh μ' (P + 1 + 1 + 10 * i) (R i)) → v_Past_takeAll (es_R (d + 2)) (es_qV (fun μ' => es_fr (es_bk P 62) μ μ' ∧ es_ps μ' P U)) (2, [(0, mz_R 5 P), (1, mz_R 5 P'), (2, mz_I (nI k))], [], μ') := by
      intro k μ' hk hf hr
      have hP' : ∀ j, μ'.1 P' j = μ.1 P' j := fun j => congrFun (hf P' (by unfold es_bk; omega)).1 j
      have hw : es_fr (fun z => z = P) μ' (mz_wI (mz_wI μ' P 1 (μ'.1 P' 1)) P 2 ((mz_wI μ' P 1 (μ'.1 P' 1)).1 P' 2)) := es_fw2
      refine w_Past_takeAll_2 P P' (nI k) μ' (es_t (nI_le (by omega) (by omega)) (es_rV ⟨hf.tr (hw.mono (fun z hz => ⟨by omega, by omega⟩)), nx, R, h1, h2, ?_, ?_, fun i hi => (hr i (by omega)).kept hw (fun z a b => by omega), h6⟩))
      · rw [mz_wI_at, if_neg (by omega), mz_wI_at, if_pos ⟨rfl, rfl⟩, hP']; exact h3
      · rw [mz_wI_at, if_pos ⟨rfl, rfl⟩, mz_wI_at, if_neg (by omega), hP']; exact h4
    intro g
    induction g with
    | zero => exact fun k μ' hg hk hf hr => stop k μ' (by omega) hf hr
    | succ g ih =>
      intro k μ' hg hk hf hr
      by_cases hk6 : k = 6
      · exact stop k μ' hk6 hf hr
      · refine w_Past_takeAll_2 P P' (nI k) μ' (es_f (nI_ge (by omega) (by omega)) ⟨vp_in_nI (by omega) (by omega), vp_in_nI (by omega) (by omega), ?_⟩)
        rw [es_clamp (by omega)]
        obtain ⟨μ1, hC, hf1, hr1⟩ := s_shtake d (q := P + 1 + 1 + 10 * k) ((h5 k (by omega)).kept hf (fun z a b c => by unfold es_bk at c; omega)) (by omega)
        refine ⟨_, hC, ?_⟩
        rw [nI_1]
        refine ih (k + 1) μ1 (by omega) (by omega) (hf.tr (hf1.mono (fun z hz => by unfold es_bk at *; omega))) (fun i hi => ?_)
        by_cases e : i = k
        · rw [e]; exact hr1
        · exact (hr i (by omega)).kept hf1 (fun z a b c => by unfold es_bk at c; omega)
  exact key 6 0 μ (by omega) (by omega) es_fr.rf (fun s hs => by omega)
