/-! The reference reads a whole text. -/
def mo_it (T : List Nat) (R : Nat ⊕ List (Nat × Nat)) (μ : mz_M) (r : Int32) (μ' : mz_M) : Prop := mo_f mo_xt mo_N μ μ' ∧ match R with
  | .inl q => r = 0 ∧ mo_pl μ' T q ∧ q ≤ T.length ∧ T.getD q 0 ≠ 32
  | .inr _ => r = 1
theorem mo_it_cons {T : List Nat} {t : Nat × Nat} {R : Nat ⊕ List (Nat × Nat)} {μ : mz_M} {r : Int32} {μ' : mz_M} (h : mo_it T R μ r μ') : mo_it T (tx_cons t R) μ r μ' := by
  cases R with
  | inl q => exact h
  | inr ts => exact h
theorem tx_due_2 {T : List Nat} {o p0 st' o' p' : Nat} {t : Nat × Nat} (hc : T.getD p0 0 ≠ 40) (h : tx_due T o p0 = .inr ((st', o', p'), t)) : st' = 2 ∧ o' = o ∧ tx_aok t := by
  unfold tx_due at h
  rw [if_neg hc] at h
  by_cases e1 : tx_fam (T.getD p0 0) = true
  · rw [if_pos e1] at h
    have hfam := of_decide_eq_true e1
    have l1 := tx_lt rfl (show T.getD p0 0 ≠ 0 by omega)
    obtain ⟨-, -, a, b, c, -⟩ := tx_fm_i l1 e1 h
    exact ⟨a, b, c⟩
  · rw [if_neg e1] at h
    by_cases e3 : tx_dg (T.getD p0 0) = true
    · rw [if_pos e3] at h
      cases h
      exact ⟨rfl, rfl, Or.inl ⟨rfl, (tx_np_i e3).2.2⟩⟩
    · rw [if_neg e3] at h; cases h
theorem es_a0 (x : Int32) : x + 0 = x := Int32.add_zero x
theorem r_isText (d : Nat) {μ : mz_M} {T : List Nat} (h : mo_tp μ T) : es_I (d + 4) n_Mo_isText [mz_R 16 0] μ (mo_it T (tx_prs T) μ) := by
  have h60 := h.1
  refine es_I.mk (w_Mo_isText_0 0 μ ?_)
  have one0 : ¬ (1 : Int32) = 0 := by decide +kernel
  have fail : ∀ (q : Nat) (x1 x2 x3 : Int32) (μ2 : mz_M), mo_f mo_xt mo_N μ μ2 → mo_pl μ2 T q → q ≤ T.length → T.getD q 0 ≠ 32 → (∀ r μ', mo_it T (.inl q) μ r μ' → mo_it T (tx_prs T) μ r μ') → v_Mo_isText (es_R (d + 3)) (es_qI (mo_it T (tx_prs T) μ)) (14, [(0, mz_R 16 0), (1, mz_I x1), (2, mz_I x2), (3, mz_I x3), (4, mz_I 0)], [], μ2) := by
    intro q x1 x2 x3 μ2 hf hl hq hn hK
    exact w_Mo_isText_14 0 _ _ _ _ μ2 (es_t rfl (w_Mo_isText_250 _ _ μ2 (es_t rfl ⟨Or.inl rfl, es_rI (hK _ _ ⟨hf, rfl, hl, hq, hn⟩)⟩)))
  have key : ∀ (g st o p : Nat) (x2 x3 : Int32) (μ' : mz_M), T.length + 1 ≤ p + g → (st = 1 ∨ st = 2 ∨ st = 3) → o ≤ 6 → p ≤ T.length → mo_f mo_xt mo_N μ μ' → mo_pl μ' T p → (st = 1 → x2 = 1) → (¬ st = 1 → x2 = 0) → (st = 2 → x3 = 1) → (st = 3 → x3 = 0) → (∀ r μ', mo_it T (tx_run T g st o p) μ r μ' → mo_it T (tx_prs T) μ r μ') → v_Mo_isText (es_R (d + 3)) (es_qI (mo_it T (tx_prs T) μ)) (14, [(0, mz_R 16 0), (1, mz_I (nI o)), (2, mz_I x2), (3, mz_I x3), (4, mz_I 1)], [], μ') := by
    intro g
    induction g with
    | zero => exact fun st o p x2 x3 μ' hg hst ho hp => by omega
    | succ g ih =>
      intro st o p x2 x3 μ' hg hst ho hp hf hl h21 h20 h32 h33 hK
      obtain ⟨r, μ1, hC1, hf1, rfl, hl1⟩ := r_here (d + 2) hl hp
      have hf1' := hf.tr (hf1.mono mo_x11_t (fun _ z => z))
      have s0 := tx_sk_len hp
      have s1 := tx_sk_le T p
      have nb := tx_sk_nb h60 p
      have sm := hl.small (tx_sk T p)
      have bad : ∀ q, ¬ (st ≠ 1 ∧ o = 0 ∧ T.length ≤ tx_sk T p) → tx_step T st o p = .inl q → (∀ r μ', mo_it T (.inl q) μ r μ' → mo_it T (tx_prs T) μ r μ') ∧ q ≤ T.length ∧ T.getD q 0 ≠ 32 := by
        intro q hne hs
        rw [tx_run_l hne hs] at hK
        exact ⟨hK, (tx_step_l hp hs).1, tx_step_nb h60 hs⟩
      have good : ∀ st' o' p' t, ¬ (st ≠ 1 ∧ o = 0 ∧ T.length ≤ tx_sk T p) → tx_step T st o p = .inr ((st', o', p'), t) → (∀ r μ', mo_it T (tx_run T g st' o' p') μ r μ' → mo_it T (tx_prs T) μ r μ') ∧ p < p' ∧ p' ≤ T.length ∧ (o ≤ 6 → o' ≤ 6) := by
        intro st' o' p' t hne hs
        rw [tx_run_r hne hs] at hK
        obtain ⟨a1, a2, a3, a4, a5⟩ := tx_step_i hst hp hs
        exact ⟨fun r μ' z => hK r μ' (mo_it_cons z), a1, a2, a5⟩
      by_cases e : st = 1
      · subst e
        rw [h21 rfl]
        have hne : ¬ (1 ≠ 1 ∧ o = 0 ∧ T.length ≤ tx_sk T p) := fun z => z.1 rfl
        have stp : tx_step T 1 o p = tx_due T o (tx_sk T p) := by unfold tx_step; rw [if_pos rfl]
        rw [stp] at bad good
        refine w_Mo_isText_14 0 _ _ _ _ μ' (es_f one0 (es_f one0 ?_))
        refine w_Mo_isText_30 0 _ _ _ _ μ' ⟨_, _, hC1, es_f one0 ?_⟩
        generalize tx_sk T p = p0 at *
        refine es_br (fun q => ?_) (fun q => ?_)
        · have q := (nI_eq (b := 40) (by omega) (by omega)).mp q
          have due : tx_due T o p0 = if o < 6 then .inr ((1, o + 1, p0 + 1), (40, 0)) else .inl p0 := by unfold tx_due; rw [if_pos q]
          rw [due] at bad good
          refine es_br (fun q2 => ?_) (fun q2 => ?_)
          · have q2 := (nI_leI (a := 6) (by omega) (by omega)).mp q2
            rw [if_neg (by omega)] at bad
            obtain ⟨k1, k2, k3⟩ := bad p0 hne rfl
            rw [q]
            exact w_Mo_isText_69 0 _ _ _ _ _ μ1 (es_f one0 (es_t rfl (fail p0 _ _ _ μ1 hf1' hl1 k2 k3 k1)))
          · have q2 : ¬ 6 ≤ o := fun z => q2 (nI_le (a := 6) z (by omega))
            rw [if_pos (by omega)] at good
            obtain ⟨k1, k2, k3, k4⟩ := good _ _ _ _ hne rfl
            rw [hl1.2, nI_1, nI_1]
            exact ih 1 (o + 1) (p0 + 1) _ _ _ (by omega) (Or.inl rfl) (by omega) k3 (hf1'.wI ⟨rfl, Or.inl rfl⟩) (hl1.set _) (fun _ => rfl) (fun z => absurd rfl z) (fun z => by omega) (fun z => by omega) k1
        · have q : ¬ T.getD p0 0 = 40 := fun z => q (by rw [z]; rfl)
          have rA := r_readsAtom d (o := o) (p := p0) hl1 s0 (by rw [tx_sk_id nb]; exact q)
          rw [tx_sk_id nb] at rA
          obtain ⟨r2, μ2, hC2, hf2, hm⟩ := rA
          have hf2' := hf1'.tr hf2
          refine w_Mo_isText_69 0 _ _ _ _ _ μ1 (es_f one0 (es_f (fun z => q ((nI_eq (b := 40) (by omega) (by omega)).mp z)) ⟨_, _, hC2, ?_⟩))
          cases hN : tx_due T o p0 with
          | inl qf =>
            rw [hN] at hm
            obtain ⟨k1, k2, k3⟩ := bad qf hne hN
            rw [hm.1]
            exact es_t rfl (fail qf _ _ _ μ2 hf2' hm.2 k2 k3 k1)
          | inr w =>
            obtain ⟨⟨st', o', p'⟩, t⟩ := w
            rw [hN] at hm
            obtain ⟨rfl, rfl, -⟩ := tx_due_2 q hN
            obtain ⟨k1, k2, k3, k4⟩ := good _ _ _ _ hne hN
            rw [hm.1]
            exact es_f one0 (ih 2 o' p' _ _ μ2 (by omega) (by omega) ho k3 hf2' hm.2.1 (fun z => by omega) (fun _ => rfl) (fun _ => rfl) (fun z => by omega) k1)
      · rw [h20 e]
        have stp : tx_step T st o p = tx_beh T st o (tx_sk T p) := by unfold tx_step; rw [if_neg e]
        rw [stp] at bad good
        refine w_Mo_isText_14 0 _ _ _ _ μ' (es_f one0 (es_t rfl ⟨_, _, hC1, es_br (fun q => ?_) (fun q => ?_)⟩))
        · have q := (nI_eq (b := 0) (by omega) (by omega)).mp q
          have hend : T.length ≤ tx_sk T p := by
            refine Nat.le_of_not_lt (fun z => ?_)
            have := (hl.1.2.2 _ z).2.1
            omega
          refine w_Mo_isText_250 _ _ μ1 (es_f one0 (es_br (fun q2 => ⟨Or.inr rfl, es_rI ?_⟩) (fun q2 => ⟨Or.inl rfl, es_rI ?_⟩)))
          · have q2 := (nI_eq (b := 0) (by omega) (by omega)).mp q2
            refine hK _ _ ?_
            rw [tx_run_end ⟨e, q2, hend⟩]
            exact ⟨hf1', rfl⟩
          · have q2 : ¬ o = 0 := fun z => q2 (by rw [z]; rfl)
            have beh : tx_beh T st o (tx_sk T p) = .inl (tx_sk T p) := by
              unfold tx_beh
              rw [q, if_neg (by omega), if_neg (by decide), if_neg (by omega)]
            obtain ⟨k1, k2, k3⟩ := bad _ (fun z => q2 z.2.1) beh
            exact k1 _ _ ⟨hf1', rfl, hl1, k2, k3⟩
        · have q : ¬ T.getD (tx_sk T p) 0 = 0 := fun z => q (by rw [z]; rfl)
          have lt := tx_lt rfl q
          have hne : ¬ (st ≠ 1 ∧ o = 0 ∧ T.length ≤ tx_sk T p) := fun z => by omega
          obtain ⟨r2, μ2, hC2, hf2, er2, hl2⟩ := r_here (d + 2) hl1 s0
          have hf2' := hf1'.tr (hf2.mono mo_x11_t (fun _ z => z))
          rw [tx_sk_id nb] at er2 hl2
          subst er2
          refine w_Mo_isText_30 0 _ _ _ _ μ1 ⟨_, _, hC2, es_t rfl ?_⟩
          generalize tx_sk T p = p0 at *
          have cq : ∀ b : Nat, b < 1000 → (nI (T.getD p0 0) = nI b ↔ T.getD p0 0 = b) := fun b hb => nI_eq (by omega) (by omega)
          have no191 : ∀ x3, tx_beh T st o p0 = .inl p0 → ¬ tx_opl (T.getD p0 0) = true → v_Mo_isText (es_R (d + 3)) (es_qI (mo_it T (tx_prs T) μ)) (191, [(0, mz_R 16 0), (1, mz_I (nI o)), (3, mz_I x3), (5, mz_I (nI (T.getD p0 0)))], [], μ2) := by
            intro x3 hb hop
            have hop : ¬ (T.getD p0 0 = 43 ∨ T.getD p0 0 = 45 ∨ T.getD p0 0 = 42 ∨ T.getD p0 0 = 47) := fun z => hop (decide_eq_true z)
            obtain ⟨k1, k2, k3⟩ := bad _ hne hb
            refine w_Mo_isText_191 0 _ _ _ μ2 (es_f (fun z => hop (by have := (cq 42 (by omega)).mp z; omega)) (es_f (fun z => hop (by have := (cq 43 (by omega)).mp z; omega)) (es_f (fun z => hop (by have := (cq 45 (by omega)).mp z; omega)) (es_f (fun z => hop (by have := (cq 47 (by omega)).mp z; omega)) (es_t rfl ?_)))))
            rw [es_a0, hl2.2]
            exact fail p0 _ _ _ _ (hf2'.wI ⟨rfl, Or.inl rfl⟩) (hl2.set p0) k2 k3 k1
          refine w_Mo_isText_69 0 _ _ _ _ _ μ2 (es_t rfl (es_br (fun q2 => ?_) (fun q2 => ?_)))
          · have q2 := (cq 94 (by omega)).mp q2
            by_cases e3 : st = 3
            · rw [h33 e3]
              have beh : tx_beh T st o p0 = .inl p0 := by
                unfold tx_beh
                rw [q2, if_neg (by omega), if_neg (by decide), if_neg (by omega)]
              refine es_t rfl (w_Mo_isText_162 0 _ _ _ _ _ μ2 (es_f (fun z => by have := (cq 41 (by omega)).mp z; omega) (no191 _ beh (by rw [q2]; decide))))
            · have e2 : st = 2 := by omega
              subst e2
              rw [h32 rfl]
              have beh : tx_beh T 2 o p0 = tx_fig T o (tx_sk T (p0 + 1)) := by
                unfold tx_beh
                rw [if_pos ⟨q2, rfl⟩]
              rw [beh] at bad good
              rw [hl2.2, nI_1]
              obtain ⟨r3, μ3, hC3, hf3, rfl, hl3⟩ := r_here (d + 2) (hl2.set (p0 + 1)) (by omega)
              have hf3' : mo_f mo_xt mo_N μ μ3 := (hf2'.wI ⟨rfl, Or.inl rfl⟩).tr (hf3.mono mo_x11_t (fun _ z => z))
              have sm3 := hl.small (tx_sk T (p0 + 1))
              unfold tx_fig at bad good
              generalize tx_sk T (p0 + 1) = p1 at *
              refine es_f one0 ⟨_, _, hC3, _, _, es_pure (r_inn (d + 2) (nI (T.getD p1 0)) 48 56 (by omega) (by omega) μ3), es_br (fun q3 => ?_) (fun q3 => ?_)⟩
              · have q4 := es_bf q3
                rw [nI_toInt (by omega)] at q4
                rw [if_neg (by omega)] at bad
                obtain ⟨k1, k2, k3⟩ := bad _ hne rfl
                rw [q3, es_a0, hl3.2]
                exact fail p1 _ _ _ _ (hf3'.wI ⟨rfl, Or.inl rfl⟩) (hl3.set p1) k2 k3 k1
              · have q4 := es_bt q3
                have e1 : es_b (decide (((48 : Nat) : Int) ≤ (nI (T.getD p1 0)).toInt ∧ (nI (T.getD p1 0)).toInt ≤ (56 : Nat))) = 1 := by rw [decide_eq_true q4]; rfl
                rw [nI_toInt (by omega)] at q4
                rw [if_pos (by omega)] at good
                obtain ⟨k1, k2, k3, k4⟩ := good _ _ _ _ hne rfl
                rw [e1, hl3.2, nI_1]
                exact ih 3 o (p1 + 1) _ _ _ (by omega) (by omega) ho k3 (hf3'.wI ⟨rfl, Or.inl rfl⟩) (hl3.set _) (fun z => by omega) (fun _ => rfl) (fun z => by omega) (fun _ => rfl) k1
          · have q2 : ¬ T.getD p0 0 = 94 := fun z => q2 ((cq 94 (by omega)).mpr z)
            refine w_Mo_isText_162 0 _ _ _ _ _ μ2 (es_br (fun q3 => ?_) (fun q3 => ?_))
            · have q3 := (cq 41 (by omega)).mp q3
              have beh : tx_beh T st o p0 = if T.getD p0 0 = 41 ∧ 0 < o then .inr ((2, o - 1, p0 + 1), (41, 0)) else .inl p0 := by
                unfold tx_beh
                rw [if_neg (by omega), if_neg (by rw [q3]; decide)]
              refine es_br (fun q4 => no191 _ ?_ (by rw [q3]; decide)) (fun q4 => ?_)
              · have q4 := (nI_leI (b := 0) (by omega) (by omega)).mp q4
                rw [beh, if_neg (by omega)]
              · have q4 : ¬ o ≤ 0 := fun z => q4 (nI_le (b := 0) z (by omega))
                rw [if_pos ⟨q3, by omega⟩] at beh
                obtain ⟨k1, k2, k3, k4⟩ := good _ _ _ _ hne beh
                obtain ⟨o2, rfl⟩ : ∃ o2, o = o2 + 1 := ⟨o - 1, by omega⟩
                rw [hl2.2, nI_1, pk_m1]
                exact ih 2 o2 (p0 + 1) _ _ _ (by omega) (by omega) (by omega) k3 (hf2'.wI ⟨rfl, Or.inl rfl⟩) (hl2.set _) (fun z => by omega) (fun _ => rfl) (fun _ => rfl) (fun z => by omega) k1
            · have q3 : ¬ T.getD p0 0 = 41 := fun z => q3 ((cq 41 (by omega)).mpr z)
              by_cases hop : tx_opl (T.getD p0 0) = true
              · have beh : tx_beh T st o p0 = .inr ((1, o, p0 + 1), (T.getD p0 0, 0)) := by
                  unfold tx_beh
                  rw [if_neg (by omega), if_pos hop]
                obtain ⟨k1, k2, k3, k4⟩ := good _ _ _ _ hne beh
                have go : ∀ x3, v_Mo_isText (es_R (d + 3)) (es_qI (mo_it T (tx_prs T) μ)) (14, [(0, mz_R 16 0), (1, mz_I (nI o)), (2, mz_I 1), (3, mz_I x3), (4, mz_I 1)], [], mz_wI μ2 0 11 ((μ2.1 0 11) + 1)) := by
                  intro x3
                  rw [hl2.2, nI_1]
                  exact ih 1 o (p0 + 1) _ _ _ (by omega) (by omega) ho k3 (hf2'.wI ⟨rfl, Or.inl rfl⟩) (hl2.set _) (fun _ => rfl) (fun z => absurd rfl z) (fun z => by omega) (fun z => by omega) k1
                have hop2 := of_decide_eq_true hop
                refine w_Mo_isText_191 0 _ _ _ μ2 (es_br (fun _ => es_f one0 (go _)) (fun c1 => es_br (fun _ => es_f one0 (go _)) (fun c2 => es_br (fun _ => es_f one0 (go _)) (fun c3 => es_br (fun _ => es_f one0 (go _)) (fun c4 => ?_)))))
                exfalso
                have c1 : ¬ T.getD p0 0 = 42 := fun z => c1 ((cq 42 (by omega)).mpr z)
                have c2 : ¬ T.getD p0 0 = 43 := fun z => c2 ((cq 43 (by omega)).mpr z)
                have c3 : ¬ T.getD p0 0 = 45 := fun z => c3 ((cq 45 (by omega)).mpr z)
                have c4 : ¬ T.getD p0 0 = 47 := fun z => c4 ((cq 47 (by omega)).mpr z)
                omega
              · have beh : tx_beh T st o p0 = .inl p0 := by
                  unfold tx_beh
                  rw [if_neg (by omega), if_neg hop, if_neg (by omega)]
                exact no191 _ beh hop
  refine key (T.length + 1) 1 0 0 _ _ _ (by omega) (by omega) (by omega) (by omega) (mo_f.rf.wI (X := mo_xt) ⟨rfl, Or.inl rfl⟩) ?_ (fun _ => rfl) (fun z => absurd rfl z) (fun z => by omega) (fun z => by omega) (fun _ _ z => z)
  obtain ⟨a, b, c⟩ := h
  refine ⟨⟨a, ?_, fun k hk => ?_⟩, ?_⟩
  · rw [mz_wI_at, if_neg (by omega)]; exact b
  · rw [mz_wI_at, if_neg (by omega)]; exact c k hk
  · rw [mz_wI_at, if_pos ⟨rfl, rfl⟩]; rfl
