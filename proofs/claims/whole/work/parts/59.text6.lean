/-! The reference works a text. -/
def mo_XT : Nat → Nat → Prop := fun q k => mo_XB q k ∨ (q = 0 ∧ k = 10)
theorem es_M.text {μ μ' : mz_M} {A : es_A} {w : Int32 × Int32} (h : es_M μ A) (hf : mo_f mo_XT mo_Y μ μ') (h1 : μ'.1 0 10 = 0) (h2 : μ'.1 0 12 = w.1 ∧ μ'.1 0 13 = w.2) : es_M μ' (es_cl A w) := by
  obtain ⟨a1, a2, a3, a4, a5, a6⟩ := h
  refine ⟨a1.cong (fun k _ => hf.1 1 k (by unfold mo_XT mo_XB mo_X; omega)), ?_, a3.kept hf (by unfold mo_XT mo_XB mo_X; omega) (fun k => by unfold mo_XT mo_XB mo_X; omega) (fun k => by unfold mo_XT mo_XB mo_X; omega), ⟨Nat.zero_le 60, h1, fun k hk => absurd hk (Nat.not_lt_zero k)⟩, h2, fun k hk => (a6 k hk).kept hf (by unfold mo_XT mo_XB mo_X; omega) (by unfold mo_XT mo_XB mo_X; omega) (by unfold mo_Y; omega)⟩
  show mo_ah (μ'.1 5) (μ'.1 0 8) A.2.1
  rw [hf.1 0 8 (by unfold mo_XT mo_XB mo_X; omega)]
  exact a2.cong (fun k _ => hf.1 5 k (by unfold mo_XT mo_XB mo_X; omega))
theorem mo_B_T : ∀ q k, mo_XB q k → mo_XT q k := fun q k h => Or.inl h
theorem mo_X_T : ∀ q k, mo_X q k → mo_XT q k := fun q k h => Or.inl (Or.inl h)
theorem q_work (d : Nat) {μ : mz_M} {A : es_A} (h : es_M μ A) (s : Int32) : es_I (d + 8) n_Mo_work [mz_R 16 0, mz_I s] μ (mo_ans (es_work A s)) := by
  have one0 : ¬ (1 : Int32) = 0 := by decide +kernel
  refine es_I.mk (w_Mo_work_0 0 s μ ⟨_, _, es_pure (r_isSeries (d + 5) s μ), es_br (fun q => es_rI ?_) (fun q => ?_)⟩)
  · unfold es_work
    rw [if_neg (es_4f q)]
    exact ⟨rfl, h⟩
  have b1 := es_4t q
  unfold es_work
  rw [if_pos (es_4T b1)]
  obtain ⟨sn, hs, rfl, es, -, -⟩ := h.len b1.1 b1.2
  rw [es]
  simp only [Int.toNat_natCast]
  have htp := h.2.2.2.1
  have hnow : μ.1 1 0 = nI A.1.2.1 := h.1.1
  have hl := h.1.2.2.1
  have h60 := htp.1
  have hwy := h.2.2.2.2.1
  obtain ⟨r3, μ3, hC3, hf3, hm⟩ := r_isText (d + 3) htp
  have hf3X := hf3.mono mo_xt_X mo_N_Y
  refine ⟨_, _, hC3, ?_⟩
  cases hR : tx_prs A.2.2.2.1 with
  | inl qf =>
    rw [hR] at hm
    obtain ⟨rfl, hp, hq, hn⟩ := hm
    refine es_t rfl ?_
    obtain ⟨r5, μ5, hC5, hf5, rfl, hl5⟩ := r_here (d + 6) hp hq
    rw [tx_sk_id hn] at hC5 hl5
    have sm := hp.small qf
    refine ⟨_, _, hC5, ?_⟩
    have hf5' : mo_f mo_X mo_Y μ μ5 := hf3X.tr (hf5.mono mo_x11_X mo_N_Y)
    have hM : es_M (mz_wI μ5 0 10 0) (es_cl A A.2.2.2.2.1) := by
      refine h.text ((hf5'.mono mo_X_T (fun _ z => z)).wI (Or.inr ⟨rfl, rfl⟩)) (by rw [mz_wI_at, if_pos ⟨rfl, rfl⟩]) ⟨?_, ?_⟩
      · rw [mz_wI_at, if_neg (by omega), hf5'.1 0 12 (by unfold mo_X; omega)]; exact hwy.1
      · rw [mz_wI_at, if_neg (by omega), hf5'.1 0 13 (by unfold mo_X; omega)]; exact hwy.2
    refine es_br (fun q6 => es_f one0 (es_rI ⟨?_, hM⟩)) (fun q6 => es_t trivial (es_rI ⟨?_, hM⟩))
    · have q6 := (nI_eq (b := 0) (by omega) (by omega)).mp q6
      have hend : A.2.2.2.1.length ≤ qf := by
        refine Nat.le_of_not_lt (fun z => ?_)
        have := (hp.1.2.2 _ z).2.1
        omega
      rw [hl5.1.2.1, show A.2.2.2.1.length = qf by omega]
      rfl
    · rw [hl5.2]
      rfl
  | inr ts =>
    rw [hR] at hm
    have hm : r3 = 1 := hm
    subst hm
    refine es_f one0 ?_
    have hff : mo_f (fun q k => q = 0 ∧ (k = 12 ∨ k = 13)) mo_N μ3 (mz_wI (mz_wI μ3 0 12 (-1000004)) 0 13 (-1000004)) := (mo_f.rf.wI (X := fun q k => q = 0 ∧ (k = 12 ∨ k = 13)) ⟨rfl, Or.inl rfl⟩).wI ⟨rfl, Or.inr rfl⟩
    have hf4 : mo_f mo_XB mo_Y μ (mz_wI (mz_wI μ3 0 12 (-1000004)) 0 13 (-1000004)) := (hf3X.mono mo_X_B (fun _ z => z)).tr (hff.mono (fun q k z => Or.inr z) mo_N_Y)
    have e12 : (mz_wI (mz_wI μ3 0 12 (-1000004)) 0 13 (-1000004)).1 0 12 = -1000004 := by rw [mz_wI_at, if_neg (by omega), mz_wI_at, if_pos ⟨rfl, rfl⟩]
    have e13 : (mz_wI (mz_wI μ3 0 12 (-1000004)) 0 13 (-1000004)).1 0 13 = -1000004 := by rw [mz_wI_at, if_pos ⟨rfl, rfl⟩]
    generalize mz_wI (mz_wI μ3 0 12 (-1000004)) 0 13 (-1000004) = μ4 at *
    obtain ⟨r7, μ7, hC7, hm7⟩ := r_works d (n := A.1.2.1) (ts := ts) (μ := μ4) ((htp.kept hf3 (by unfold mo_xt; omega) (fun k => by unfold mo_xt; omega)).kept hff (by omega) (fun k => by omega)) (by omega) hl.2 (by rw [hf4.1 1 0 (by unfold mo_XB mo_X; omega)]; exact hnow) hR
    refine ⟨_, _, hC7, ?_⟩
    show if _ then _ else _
    cases hE : tx_ev A.1.2.1 ts tx_0 [] none with
    | inl w =>
      rw [hE] at hm7
      obtain ⟨hf7, rfl, hneg, g12, g13⟩ := hm7
      refine es_f (fun z => by have := es_hle z; rw [es_i0] at this; omega) (es_rI ?_)
      show mo_ans (es_wv A sn (tx_ev A.1.2.1 ts tx_0 [] none)) _ _
      rw [hE]
      refine ⟨rfl, h.text (((hf4.tr hf7).mono mo_B_T (fun _ z => z)).wI (Or.inr ⟨rfl, rfl⟩)) (by rw [mz_wI_at, if_pos ⟨rfl, rfl⟩]) ⟨?_, ?_⟩⟩
      · rw [mz_wI_at, if_neg (by omega)]; exact g12
      · rw [mz_wI_at, if_neg (by omega)]; exact g13
    | inr l =>
      rw [hE] at hm7
      obtain ⟨rfl, hf7, hls, ok, -⟩ := hm7
      refine es_t (by decide +kernel) ?_
      have hM : es_M (mz_wI μ7 0 10 0) (es_cl A (-1000004, -1000004)) := by
        refine h.text ((hf4.mono mo_B_T (fun _ z => z)).tr (hf7.mono mo_X_T (fun _ z => z)) |>.wI (Or.inr ⟨rfl, rfl⟩)) (by rw [mz_wI_at, if_pos ⟨rfl, rfl⟩]) ⟨?_, ?_⟩
        · rw [mz_wI_at, if_neg (by omega), hf7.1 0 12 (by unfold mo_X; omega)]; exact e12
        · rw [mz_wI_at, if_neg (by omega), hf7.1 0 13 (by unfold mo_X; omega)]; exact e13
      have hls2 : mo_ls (mz_wI μ7 0 10 0) 4 6 l := ⟨hls.1, by rw [mz_wI_at, if_neg (by omega)]; exact hls.2.1, hls.2.2⟩
      obtain ⟨r9, μ9, hC9, hm9⟩ := r_keeps (d + 5) hM hls2 ok hs
      refine ⟨_, _, hC9, es_rI ?_⟩
      show mo_ans (es_wv A sn (tx_ev A.1.2.1 ts tx_0 [] none)) _ _
      rw [hE]
      exact hm9
