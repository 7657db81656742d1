theorem m_part (a : Nat) {dp n : Nat} {U : List (Nat × Nat)} (hdp : dp ≤ 6) (h60 : U.length ≤ 60) (hW : ∀ i μ, tx_ml μ n U i → tx_vt (U.drop i) 1 dp → es_I (a + 5) n_Mill_workPower [mz_R 9 145, mz_I (nI dp)] μ (tx_pW dp n U i μ)) {i : Nat} {μ : mz_M} (h : tx_ml μ n U i) (hv : tx_vt (U.drop i) 1 dp) : es_I (a + 6) n_Mill_workPart [mz_R 9 145, mz_I (nI dp)] μ (tx_pP dp n U i μ) := by
  have hvin : vp_in (nI dp) 7 := vp_in_nI (by omega) (by omega)
  have hcl : (nI dp).toNatClampNeg = dp := es_clamp (by omega)
  obtain ⟨r, μ1, hC, hf1, hp⟩ := hW i μ h hv
  refine es_I.mk (w_Mill_workPart_0 145 _ μ ⟨_, _, hC, hvin, hvin, ?_⟩)
  rw [hcl]
  have n1 : ∀ z, z < 157 → ¬ es_2 (159 + 6 * dp) z := fun z hz => by unfold es_2; omega
  have f1 : es_fr (tx_W (159 + 6 * dp)) μ μ1 := hf1.mono (fun z hz => by unfold tx_W at hz ⊢; omega)
  have f2 : ∀ {μa μb : mz_M}, es_fr (es_2 (159 + 6 * dp)) μa μb → es_fr (tx_W (159 + 6 * dp)) μa μb := fun q => q.mono (fun z hz => by unfold es_2 at hz; unfold tx_W; omega)
  have stop : ∀ (k : Nat) (r : Int32) (μ' : mz_M), k < 60 → ¬ r = 0 → tx_pP dp n U i μ r μ' → v_Mill_workPart (es_R (a + 5)) (es_qI (tx_pP dp n U i μ)) (23, [(0, mz_R 9 145), (1, mz_I (nI dp)), (2, mz_I r), (3, mz_I (nI k))], [], μ') := by
    intro k r μ' hk hr hq
    exact w_Mill_workPart_23 145 _ _ _ μ' (es_f (nI_ge (b := 60) hk (by omega)) (es_f hr (es_rI hq)))
  have key : ∀ (g k j : Nat) (l : List Int) (μ' : mz_M), U.length - j ≤ g → k < j → i < j → j ≤ U.length → es_fr (tx_W (159 + 6 * dp)) μ μ' → tx_ml μ' n U j → (μ'.1 145 8 = μ.1 145 8 ∧ μ'.1 145 9 = μ.1 145 9) → es_row μ' (159 + 6 * dp) l → tx_vt (U.drop j) 3 dp → (∀ (F : tx_F) (G : List tx_F), G.length = dp → tx_ev n (U.drop i) (F.1, ([], 0)) G none = tx_ev n (U.drop j) (F.1, (l, 0)) G (some none)) → v_Mill_workPart (es_R (a + 5)) (es_qI (tx_pP dp n U i μ)) (23, [(0, mz_R 9 145), (1, mz_I (nI dp)), (2, mz_I 0), (3, mz_I (nI k))], [], μ') := by
    intro g
    induction g with
    | zero =>
      intro k j l μ' hg hk hij hj hf hm h89 hr hvj hE
      have hjl : ¬ j < U.length := by omega
      refine w_Mill_workPart_23 145 _ _ _ μ' (es_f (nI_ge (b := 60) (by omega) (by omega)) (es_t rfl ⟨_, _, es_pure (t_sign (a + 4) hm (by omega)), ?_⟩))
      rw [tx_tk_out (by omega)]
      refine es_f (by decide +kernel) (es_f (by decide +kernel) (es_rI ⟨hf, Or.inr ⟨rfl, j, l, hij, hj, hm, h89, hr, ⟨hvj, ?_⟩, hE⟩⟩))
      rw [tx_drop_0 hjl]
      intro t us z
      cases z
    | succ g ih =>
      intro k j l μ' hg hk hij hj hf hm h89 hr hvj hE
      refine w_Mill_workPart_23 145 _ _ _ μ' (es_f (nI_ge (b := 60) (by omega) (by omega)) (es_t rfl ⟨_, _, es_pure (t_sign (a + 4) hm (by omega)), ?_⟩))
      by_cases hjl : j < U.length
      · have hd := tx_drop hjl
        have hv2 := hvj
        rw [hd] at hv2
        unfold tx_vt at hv2
        have h94 := tx_vt_3 hvj _ _ hd
        rw [if_neg (by decide), if_neg h94] at hv2
        have hsm : (tx_tk U j).1 < 1000 := by
          by_cases e41 : (tx_tk U j).1 = 41
          · omega
          · rw [if_neg e41] at hv2
            have := of_decide_eq_true hv2.1
            omega
        have qe : ∀ b : Nat, b < 1000 → (nI (tx_tk U j).1 = nI b ↔ (tx_tk U j).1 = b) := fun b hb => nI_eq (by omega) (by omega)
        by_cases eop : (tx_tk U j).1 = 42 ∨ (tx_tk U j).1 = 47
        · rw [if_neg (by omega)] at hv2
          have go : ∃ (r4 : Int32) (μ3 : mz_M), es_R (a + 5) n_Mill_workPower [mz_R 9 145, mz_I (nI dp)] (mz_wI μ' 145 6 ((μ'.1 145 6) + 1)) (some (mz_I r4)) μ3 ∧
              (if (r4 : Int32) = (0 : Int32) then
                (vp_in (nI dp) 7 ∧ (vp_in (nI dp) 7 ∧ (∃ (r6 : Int32) (μ5 : mz_M), es_R (a + 5) n_Mill_combine [mz_R 9 145, mz_R 3 (159 + 6 * (nI dp : Int32).toNatClampNeg), mz_I (nI (tx_tk U j).1), mz_R 3 (161 + 6 * (nI dp : Int32).toNatClampNeg), mz_I (nI dp)] μ3 (some (mz_I r6)) μ5 ∧
                  (v_Mill_workPart (es_R (a + 5)) (es_qI (tx_pP dp n U i μ)) (23, [(0, mz_R 9 145), (1, mz_I (nI dp)), (2, mz_I r6), (3, mz_I (nI k + 1))], [], μ5)))))
              else
                (v_Mill_workPart (es_R (a + 5)) (es_qI (tx_pP dp n U i μ)) (23, [(0, mz_R 9 145), (1, mz_I (nI dp)), (2, mz_I r4), (3, mz_I (nI k + 1))], [], μ3))) := by
            rw [hm.2.1, nI_1 j, nI_1 k, hcl]
            have hw : es_fr (fun z => z = 145) μ' (mz_wI μ' 145 6 (nI (j + 1))) := es_fw1
            have k8 : (mz_wI μ' 145 6 (nI (j + 1))).1 145 8 = μ.1 145 8 := by rw [mz_wI_at, if_neg (by omega)]; exact h89.1
            have k9 : (mz_wI μ' 145 6 (nI (j + 1))).1 145 9 = μ.1 145 9 := by rw [mz_wI_at, if_neg (by omega)]; exact h89.2
            obtain ⟨r4, μ3, hD, hf3, hp3⟩ := hW (j + 1) _ (hm.pl (j + 1)) hv2.2
            have hf3' : es_fr (tx_W (159 + 6 * dp)) μ μ3 := (hf.tr (hw.mono (fun z hz => Or.inl hz))).tr (hf3.mono (fun z hz => by unfold tx_W at hz ⊢; omega))
            have hE2 : ∀ (F : tx_F) (G : List tx_F), G.length = dp → tx_ev n (U.drop i) (F.1, ([], 0)) G none = tx_ev n (U.drop (j + 1)) (F.1, (l, (tx_tk U j).1)) G none := by
              intro F G hG
              rw [hE F G hG, hd]
              exact tx_ev_mul eop
            refine ⟨_, _, hD, ?_⟩
            rcases hp3 with ⟨hr3, b, x, p1, p2, p3⟩ | ⟨rfl, j2, l2, p1, p2, p3, p4, p5, p6, p7⟩
            · exact es_f hr3 (stop (k + 1) r4 μ3 (by omega) hr3 ⟨hf3', Or.inl ⟨hr3, b, x, p1, p2, fun F G hG => (hE2 F G hG).trans (p3 (F.1, (l, (tx_tk U j).1)) G hG)⟩⟩)
            · have hr3 := (hr.kept hw (by omega) (by omega)).kept hf3 (by unfold tx_W; omega) (by unfold tx_W; omega)
              obtain ⟨r6, μ5, hF, hfin⟩ := m_combine a (dp := dp) (x := (tx_tk U j).1) hv2.1 hr3 p5 (by omega) (by omega)
              refine es_t rfl ⟨hvin, hvin, _, _, hF, ?_⟩
              have hE3 : ∀ (F : tx_F) (G : List tx_F), G.length = dp → tx_ev n (U.drop i) (F.1, ([], 0)) G none = tx_or (es_jr (tx_act (tx_tk U j).1) l l2) G.length (tx_tk U j).1 (fun l3 => tx_ev n (U.drop j2) (F.1, (l3, (tx_tk U j).1)) G (some none)) := by
                intro F G hG
                refine (hE2 F G hG).trans ((p7 (F.1, (l, (tx_tk U j).1)) G hG).trans ?_)
                show tx_or (if (tx_tk U j).1 = 0 then _ else es_jr (if (tx_tk U j).1 = 42 then 2 else 3) l l2) _ _ _ = _
                rw [if_neg (by omega)]
                have ea : (if (tx_tk U j).1 = 42 then 2 else 3) = tx_act (tx_tk U j).1 := by
                  unfold tx_act
                  by_cases e42 : (tx_tk U j).1 = 42
                  · rw [if_pos e42, if_pos e42]
                  · rw [if_neg e42, if_neg e42, if_neg (by omega), if_neg (by omega)]
                rw [ea]
              cases ho : es_jr (tx_act (tx_tk U j).1) l l2 with
              | inl c =>
                rw [ho] at hfin hE3
                obtain ⟨rfl, q2, q3, q4, q5⟩ := hfin
                exact stop (k + 1) _ μ5 (by omega) q2 ⟨hf3'.tr (q3.mono (fun z hz => by unfold tx_W; omega)), Or.inl ⟨q2, dp, (tx_tk U j).1, q4, q5, fun F G hG => (hE3 F G hG).trans (by rw [hG]; rfl)⟩⟩
              | inr l3 =>
                rw [ho] at hfin hE3
                obtain ⟨rfl, q2, q3⟩ := hfin
                have n149 : ¬ ((153 ≤ 145 ∧ 145 ≤ 156) ∨ es_2 (159 + 6 * dp) 145) := by unfold es_2; omega
                have n14 : ∀ z, z < 150 → ¬ ((153 ≤ z ∧ z ≤ 156) ∨ es_2 (159 + 6 * dp) z) := fun z hz => by unfold es_2; omega
                refine ih (k + 1) j2 l3 μ5 (by omega) (by omega) (by omega) p2 (hf3'.tr (q2.mono (fun z hz => by unfold es_2 at hz; unfold tx_W; omega))) (p3.kept q2 (n14 _ (by omega)) (n14 _ (by omega)) (n14 _ (by omega)) n149) ⟨?_, ?_⟩ q3 p6 (fun F G hG => ?_)
                · rw [(q2 145 n149).1, p4.1, k8]
                · rw [(q2 145 n149).1, p4.2, k9]
                · rw [hE3 F G hG]
                  exact tx_ev_by (tx_vt_3 p6)
          rcases eop with e | e
          · exact es_t (by rw [e]; rfl) go
          · exact es_f (fun z => by have := (qe 42 (by omega)).mp z; omega) (es_t (by rw [e]; rfl) go)
        · refine es_f (fun z => eop (Or.inl ((qe 42 (by omega)).mp z))) (es_f (fun z => eop (Or.inr ((qe 47 (by omega)).mp z))) (es_rI ⟨hf, Or.inr ⟨rfl, j, l, hij, hj, hm, h89, hr, ⟨hvj, ?_⟩, hE⟩⟩))
          rw [hd]
          intro t us z
          cases z
          exact ⟨h94, fun z => eop (Or.inl z), fun z => eop (Or.inr z)⟩
      · rw [tx_tk_out (by omega)]
        refine es_f (by decide +kernel) (es_f (by decide +kernel) (es_rI ⟨hf, Or.inr ⟨rfl, j, l, hij, hj, hm, h89, hr, ⟨hvj, ?_⟩, hE⟩⟩))
        rw [tx_drop_0 hjl]
        intro t us z
        cases z
  rcases hp with ⟨hr, b, x, p1, p2, p3⟩ | ⟨rfl, j, l, p1, p2, p3, p4, p5, p6, p7⟩
  · obtain ⟨μ2, hD, hf2⟩ := s_take0 (a + 4) (p := 159 + 6 * dp) (q := 161 + 6 * dp) μ1
    refine ⟨_, hD, stop 0 r μ2 (by omega) hr ⟨f1.tr (f2 hf2), Or.inl ⟨hr, b, x, ?_, ?_, fun F G hG => p3 (F.1, ([], 0)) G hG⟩⟩⟩
    · rw [(hf2 145 (n1 _ (by omega))).1]; exact p1
    · rw [(hf2 145 (n1 _ (by omega))).1]; exact p2
  · obtain ⟨μ2, hD, hf2, hr2⟩ := s_take (a + 4) (p := 159 + 6 * dp) p5 (by unfold es_sep; omega)
    refine ⟨_, hD, key (U.length - j) 0 j l μ2 (by omega) (by omega) p1 p2 (f1.tr (f2 hf2)) (p3.kept hf2 (n1 _ (by omega)) (n1 _ (by omega)) (n1 _ (by omega)) (n1 _ (by omega))) ⟨?_, ?_⟩ hr2 p6 (fun F G hG => p7 (F.1, ([], 0)) G hG)⟩
    · rw [(hf2 145 (n1 _ (by omega))).1]; exact p4.1
    · rw [(hf2 145 (n1 _ (by omega))).1]; exact p4.2
theorem m_sum (a : Nat) {dp n : Nat} {U : List (Nat × Nat)} (hdp : dp ≤ 6) (h60 : U.length ≤ 60) (hP : ∀ i μ, tx_ml μ n U i → tx_vt (U.drop i) 1 dp → es_I (a + 6) n_Mill_workPart [mz_R 9 145, mz_I (nI dp)] μ (tx_pP dp n U i μ)) {i : Nat} {μ : mz_M} (h : tx_ml μ n U i) (hv : tx_vt (U.drop i) 1 dp) : es_I (a + 7) n_Mill_workSum [mz_R 9 145, mz_I (nI dp)] μ (tx_pS dp n U i μ) := by
  have hvin : vp_in (nI dp) 7 := vp_in_nI (by omega) (by omega)
  have hcl : (nI dp).toNatClampNeg = dp := es_clamp (by omega)
  obtain ⟨r, μ1, hC, hf1, hp⟩ := hP i μ h hv
  refine es_I.mk (w_Mill_workSum_0 145 _ μ (es_f (nI_pos (by omega)) (es_t (nI_le (b := 6) hdp (by omega)) ⟨_, _, hC, hvin, hvin, ?_⟩)))
  rw [hcl]
  have n1 : ∀ z, z < 157 → ¬ es_2 (157 + 6 * dp) z := fun z hz => by unfold es_2; omega
  have f1 : es_fr (tx_W (157 + 6 * dp)) μ μ1 := hf1.mono (fun z hz => by unfold tx_W at hz ⊢; omega)
  have f2 : ∀ {μa μb : mz_M}, es_fr (es_2 (157 + 6 * dp)) μa μb → es_fr (tx_W (157 + 6 * dp)) μa μb := fun q => q.mono (fun z hz => by unfold es_2 at hz; unfold tx_W; omega)
  have stop : ∀ (k : Nat) (r : Int32) (μ' : mz_M), k < 60 → ¬ r = 0 → tx_pS dp n U i μ r μ' → v_Mill_workSum (es_R (a + 6)) (es_qI (tx_pS dp n U i μ)) (36, [(0, mz_R 9 145), (1, mz_I (nI dp)), (2, mz_I r), (3, mz_I (nI k))], [], μ') := by
    intro k r μ' hk hr hq
    exact w_Mill_workSum_36 145 _ _ _ μ' (es_f (nI_ge (b := 60) hk (by omega)) (es_f hr (es_rI hq)))
  have key : ∀ (g k j : Nat) (l : List Int) (μ' : mz_M), U.length - j ≤ g → k < j → i < j → j ≤ U.length → es_fr (tx_W (157 + 6 * dp)) μ μ' → tx_ml μ' n U j → (μ'.1 145 8 = μ.1 145 8 ∧ μ'.1 145 9 = μ.1 145 9) → es_row μ' (157 + 6 * dp) l → tx_vt (U.drop j) 3 dp → tx_npm (U.drop j) → (∀ (G : List tx_F), G.length = dp → tx_ev n (U.drop i) tx_0 G none = tx_aft n (U.drop j) l G) → v_Mill_workSum (es_R (a + 6)) (es_qI (tx_pS dp n U i μ)) (36, [(0, mz_R 9 145), (1, mz_I (nI dp)), (2, mz_I 0), (3, mz_I (nI k))], [], μ') := by
    intro g
    induction g with
    | zero =>
      intro k j l μ' hg hk hij hj hf hm h89 hr hvj hnp hE
      have hjl : ¬ j < U.length := by omega
      refine w_Mill_workSum_36 145 _ _ _ μ' (es_f (nI_ge (b := 60) (by omega) (by omega)) (es_t rfl ⟨_, _, es_pure (t_sign (a + 5) hm (by omega)), ?_⟩))
      rw [tx_tk_out (by omega)]
      refine es_f (by decide +kernel) (es_f (by decide +kernel) (es_rI ⟨hf, Or.inr ⟨rfl, j, l, hij, hj, hm, h89, hr, ⟨hvj, ?_⟩, fun _ G hG => hE G hG⟩⟩))
      rw [tx_drop_0 hjl]
      intro t us z
      cases z
    | succ g ih =>
      intro k j l μ' hg hk hij hj hf hm h89 hr hvj hnp hE
      refine w_Mill_workSum_36 145 _ _ _ μ' (es_f (nI_ge (b := 60) (by omega) (by omega)) (es_t rfl ⟨_, _, es_pure (t_sign (a + 5) hm (by omega)), ?_⟩))
      by_cases hjl : j < U.length
      · have hd := tx_drop hjl
        have hv2 := hvj
        rw [hd] at hv2
        unfold tx_vt at hv2
        have h94 := hnp _ _ hd
        rw [if_neg (by decide), if_neg h94.1] at hv2
        have hsm : (tx_tk U j).1 < 1000 := by
          by_cases e41 : (tx_tk U j).1 = 41
          · omega
          · rw [if_neg e41] at hv2
            have := of_decide_eq_true hv2.1
            omega
        have qe : ∀ b : Nat, b < 1000 → (nI (tx_tk U j).1 = nI b ↔ (tx_tk U j).1 = b) := fun b hb => nI_eq (by omega) (by omega)
        by_cases eop : (tx_tk U j).1 = 43 ∨ (tx_tk U j).1 = 45
        · rw [if_neg (by omega)] at hv2
          have go : ∃ (r4 : Int32) (μ3 : mz_M), es_R (a + 6) n_Mill_workPart [mz_R 9 145, mz_I (nI dp)] (mz_wI μ' 145 6 ((μ'.1 145 6) + 1)) (some (mz_I r4)) μ3 ∧
              (if (r4 : Int32) = (0 : Int32) then
                (vp_in (nI dp) 7 ∧ (vp_in (nI dp) 7 ∧ (∃ (r6 : Int32) (μ5 : mz_M), es_R (a + 6) n_Mill_combine [mz_R 9 145, mz_R 3 (157 + 6 * (nI dp : Int32).toNatClampNeg), mz_I (nI (tx_tk U j).1), mz_R 3 (159 + 6 * (nI dp : Int32).toNatClampNeg), mz_I (nI dp)] μ3 (some (mz_I r6)) μ5 ∧
                  (v_Mill_workSum (es_R (a + 6)) (es_qI (tx_pS dp n U i μ)) (36, [(0, mz_R 9 145), (1, mz_I (nI dp)), (2, mz_I r6), (3, mz_I (nI k + 1))], [], μ5)))))
              else
                (v_Mill_workSum (es_R (a + 6)) (es_qI (tx_pS dp n U i μ)) (36, [(0, mz_R 9 145), (1, mz_I (nI dp)), (2, mz_I r4), (3, mz_I (nI k + 1))], [], μ3))) := by
            rw [hm.2.1, nI_1 j, nI_1 k, hcl]
            have hw : es_fr (fun z => z = 145) μ' (mz_wI μ' 145 6 (nI (j + 1))) := es_fw1
            have k8 : (mz_wI μ' 145 6 (nI (j + 1))).1 145 8 = μ.1 145 8 := by rw [mz_wI_at, if_neg (by omega)]; exact h89.1
            have k9 : (mz_wI μ' 145 6 (nI (j + 1))).1 145 9 = μ.1 145 9 := by rw [mz_wI_at, if_neg (by omega)]; exact h89.2
            obtain ⟨r4, μ3, hD, hf3, hp3⟩ := hP (j + 1) _ (hm.pl (j + 1)) hv2.2
            have hf3' : es_fr (tx_W (157 + 6 * dp)) μ μ3 := (hf.tr (hw.mono (fun z hz => Or.inl hz))).tr (hf3.mono (fun z hz => by unfold tx_W at hz ⊢; omega))
            have hE2 : ∀ (G : List tx_F), G.length = dp → tx_ev n (U.drop i) tx_0 G none = tx_ev n (U.drop (j + 1)) ((l, (tx_tk U j).1), ([], 0)) G none := by
              intro G hG
              rw [hE G hG, hd]
              show (if (tx_tk U j).1 = 41 then _ else _) = _
              rw [if_neg (by omega)]
            refine ⟨_, _, hD, ?_⟩
            rcases hp3 with ⟨hr3, b, x, p1, p2, p3⟩ | ⟨rfl, j2, l2, p1, p2, p3, p4, p5, p6, p7⟩
            · exact es_f hr3 (stop (k + 1) r4 μ3 (by omega) hr3 ⟨hf3', Or.inl ⟨hr3, b, x, p1, p2, fun _ G hG => (hE2 G hG).trans (p3 ((l, (tx_tk U j).1), ([], 0)) G hG)⟩⟩)
            · have hr3 := (hr.kept hw (by omega) (by omega)).kept hf3 (by unfold tx_W; omega) (by unfold tx_W; omega)
              obtain ⟨r6, μ5, hF, hfin⟩ := m_combine (a + 1) (dp := dp) (x := (tx_tk U j).1) hv2.1 hr3 p5 (by omega) (by omega)
              refine es_t rfl ⟨hvin, hvin, _, _, hF, ?_⟩
              have hE3 : ∀ (G : List tx_F), G.length = dp → tx_ev n (U.drop i) tx_0 G none = tx_or (es_jr (tx_act (tx_tk U j).1) l l2) G.length (tx_tk U j).1 (fun l3 => tx_aft n (U.drop j2) l3 G) := by
                intro G hG
                refine (hE2 G hG).trans ((p7 ((l, (tx_tk U j).1), ([], 0)) G hG).trans ((tx_ev_sum p6.2).trans ?_))
                show tx_or (if (tx_tk U j).1 = 0 then _ else es_jr (if (tx_tk U j).1 = 43 then 0 else 1) l l2) _ _ _ = _
                rw [if_neg (by omega)]
                have ea : (if (tx_tk U j).1 = 43 then 0 else 1) = tx_act (tx_tk U j).1 := by
                  unfold tx_act
                  rw [if_neg h94.2.1]
                  by_cases e42 : (tx_tk U j).1 = 43
                  · rw [if_pos e42, if_pos e42]
                  · rw [if_neg e42, if_neg e42, if_pos (by omega)]
                rw [ea]
              cases ho : es_jr (tx_act (tx_tk U j).1) l l2 with
              | inl c =>
                rw [ho] at hfin hE3
                obtain ⟨rfl, q2, q3, q4, q5⟩ := hfin
                exact stop (k + 1) _ μ5 (by omega) q2 ⟨hf3'.tr (q3.mono (fun z hz => by unfold tx_W; omega)), Or.inl ⟨q2, dp, (tx_tk U j).1, q4, q5, fun _ G hG => (hE3 G hG).trans (by rw [hG]; rfl)⟩⟩
              | inr l3 =>
                rw [ho] at hfin hE3
                obtain ⟨rfl, q2, q3⟩ := hfin
                have n149 : ¬ ((153 ≤ 145 ∧ 145 ≤ 156) ∨ es_2 (157 + 6 * dp) 145) := by unfold es_2; omega
                have n14 : ∀ z, z < 150 → ¬ ((153 ≤ z ∧ z ≤ 156) ∨ es_2 (157 + 6 * dp) z) := fun z hz => by unfold es_2; omega
                refine ih (k + 1) j2 l3 μ5 (by omega) (by omega) (by omega) p2 (hf3'.tr (q2.mono (fun z hz => by unfold es_2 at hz; unfold tx_W; omega))) (p3.kept q2 (n14 _ (by omega)) (n14 _ (by omega)) (n14 _ (by omega)) n149) ⟨?_, ?_⟩ q3 p6.1 p6.2 (fun G hG => hE3 G hG)
                · rw [(q2 145 n149).1, p4.1, k8]
                · rw [(q2 145 n149).1, p4.2, k9]
          rcases eop with e | e
          · exact es_t (by rw [e]; rfl) go
          · exact es_f (fun z => by have := (qe 43 (by omega)).mp z; omega) (es_t (by rw [e]; rfl) go)
        · refine es_f (fun z => eop (Or.inl ((qe 43 (by omega)).mp z))) (es_f (fun z => eop (Or.inr ((qe 45 (by omega)).mp z))) (es_rI ⟨hf, Or.inr ⟨rfl, j, l, hij, hj, hm, h89, hr, ⟨hvj, ?_⟩, fun _ G hG => hE G hG⟩⟩))
          rw [hd]
          intro t us z
          cases z
          by_cases e41 : (tx_tk U j).1 = 41
          · exact e41
          · rw [if_neg e41] at hv2
            have := of_decide_eq_true hv2.1
            omega
      · rw [tx_tk_out (by omega)]
        refine es_f (by decide +kernel) (es_f (by decide +kernel) (es_rI ⟨hf, Or.inr ⟨rfl, j, l, hij, hj, hm, h89, hr, ⟨hvj, ?_⟩, fun _ G hG => hE G hG⟩⟩))
        rw [tx_drop_0 hjl]
        intro t us z
        cases z
  rcases hp with ⟨hr, b, x, p1, p2, p3⟩ | ⟨rfl, j, l, p1, p2, p3, p4, p5, p6, p7⟩
  · obtain ⟨μ2, hD, hf2⟩ := s_take0 (a + 5) (p := 157 + 6 * dp) (q := 159 + 6 * dp) μ1
    refine ⟨_, hD, stop 0 r μ2 (by omega) hr ⟨f1.tr (f2 hf2), Or.inl ⟨hr, b, x, ?_, ?_, fun _ G hG => p3 tx_0 G hG⟩⟩⟩
    · rw [(hf2 145 (n1 _ (by omega))).1]; exact p1
    · rw [(hf2 145 (n1 _ (by omega))).1]; exact p2
  · obtain ⟨μ2, hD, hf2, hr2⟩ := s_take (a + 5) (p := 157 + 6 * dp) p5 (by unfold es_sep; omega)
    refine ⟨_, hD, key (U.length - j) 0 j l μ2 (by omega) (by omega) p1 p2 (f1.tr (f2 hf2)) (p3.kept hf2 (n1 _ (by omega)) (n1 _ (by omega)) (n1 _ (by omega)) (n1 _ (by omega))) ⟨?_, ?_⟩ hr2 p6.1 p6.2 (fun G hG => ?_)⟩
    · rw [(hf2 145 (n1 _ (by omega))).1]; exact p4.1
    · rw [(hf2 145 (n1 _ (by omega))).1]; exact p4.2
    · exact (p7 tx_0 G hG).trans (tx_ev_sum p6.2)
theorem m_all (a : Nat) {n : Nat} {U : List (Nat × Nat)} (h60 : U.length ≤ 60) (hn1 : 1 ≤ n) (hn : n ≤ 40) : ∀ (g dp : Nat), dp + g = 6 → ∀ i μ, tx_ml μ n U i → tx_vt (U.drop i) 1 dp → es_I (a + 4 * g + 7) n_Mill_workSum [mz_R 9 145, mz_I (nI dp)] μ (tx_pS dp n U i μ) := by
  intro g
  induction g with
  | zero =>
    intro dp hdp i μ h hv
    exact m_sum a (by omega) h60 (fun i μ h hv => m_part a (by omega) h60 (fun i μ h hv => m_power a (by omega) h60 (m_atom a (by omega) hn1 hn (fun z => by omega) h hv)) h hv) h hv
  | succ g ih =>
    intro dp hdp i μ h hv
    have hS := ih (dp + 1) (by omega)
    rw [show a + 4 * (g + 1) + 7 = (a + 4 * g + 4) + 7 by omega]
    exact m_sum (a + 4 * g + 4) (by omega) h60 (fun i μ h hv => m_part (a + 4 * g + 4) (by omega) h60 (fun i μ h hv => m_power (a + 4 * g + 4) (by omega) h60 (m_atom (a + 4 * g + 4) (by omega) hn1 hn (fun _ => hS) h hv)) h hv) h hv
/-- a text is worked out into a series -/
def es_cl (A : es_A) (w : Int32 × Int32) : es_A := (A.1, A.2.1, A.2.2.1, [], w, A.2.2.2.2.2)
def es_wv (A : es_A) (s : Nat) (R : tx_R) : Int32 × es_A := match R with
  | .inl c => (c.1, es_cl A (nI c.2.1, nI c.2.2))
  | .inr l => (nI l.length, es_kp (es_cl A (-1000004, -1000004)) s l)
def es_wp (A : es_A) (s : Nat) (R : Nat ⊕ List (Nat × Nat)) : Int32 × es_A := match R with
  | .inl q => (-1000020 - nI q, es_cl A A.2.2.2.2.1)
  | .inr ts => es_wv A s (tx_ev A.1.2.1 ts tx_0 [] none)
def es_work (A : es_A) (s : Int32) : Int32 × es_A := if es_4ok s = true then es_wp A s.toInt.toNat (tx_prs A.2.2.2.1) else (-1000001, A)
theorem es_C.text {μ μ' : mz_M} {A : es_A} {w : Int32 × Int32} (h : es_C μ A) (hf : es_fr (fun z => 145 ≤ z ∧ z < 204) μ μ') (h1 : μ'.1 146 1 = 0) (h2 : μ'.1 145 8 = w.1 ∧ μ'.1 145 9 = w.2) : es_C μ' (es_cl A w) := by
  obtain ⟨a1, a2, a3, a4, a5, a6⟩ := h
  exact ⟨a1.kept hf (fun z a b => by omega), a2.kept hf (fun z a b => by omega), a3.kept hf (by omega) (fun z a b => by omega), ⟨Nat.zero_le 60, h1, fun k hk => absurd hk (Nat.not_lt_zero k)⟩, h2, fun k hk => (a6 k hk).kept hf (by omega) (by omega)⟩
theorem c_work (d : Nat) {μ : mz_M} {A : es_A} (h : es_C μ A) (s : Int32) : es_I (d + 32) n_ES_work [mz_R 0 0, mz_I s] μ (es_ans (es_work A s)) := by
  refine es_I.mk (w_ES_work_0 0 s μ ?_)
  refine ⟨_, _, es_pure (s_isFour (d + 30) s μ), es_br (fun q => es_rI ?_) (fun q => ?_)⟩
  · unfold es_work
    rw [if_neg (show ¬ es_4ok s = true from fun z => es_bf q (of_decide_eq_true z))]
    exact ⟨rfl, h⟩
  have b1 := es_bt q
  unfold es_work
  rw [if_pos (show es_4ok s = true from decide_eq_true b1)]
  obtain ⟨r, μ1, hC, hf1, hm⟩ := t_parse (d + 25) h.2.2.2.1
  refine ⟨_, _, hC, ?_⟩
  generalize hT : A.2.2.2.1 = T at hm hf1
  have hw1 : es_fr (fun z => z = 146) μ1 (mz_wI μ1 146 1 0) := es_fw1
  have hf1' : es_fr (fun z => 145 ≤ z ∧ z < 204) μ (mz_wI μ1 146 1 0) := (hf1.mono (fun z hz => by unfold tx_S at hz; omega)).tr (hw1.mono (fun z hz => by omega))
  cases hR : tx_prs T with
  | inl p =>
    rw [hR] at hm
    obtain ⟨rfl, hp⟩ := hm
    have ne0 : ¬ (-1000020 - nI p : Int32) = 0 := by
      intro z
      have e1 : (-1000020 - nI p : Int32) = -(nI (1000020 + p)) := by
        rw [← nI_add, Int32.neg_add]
        rfl
      rw [e1] at z
      have := congrArg Int32.toInt z
      rw [Int32.toInt_neg, nI_toInt (by omega), es_i0, fb_bmod (by omega) (by omega)] at this
      omega
    have ew : es_wp A s.toInt.toNat (.inl p) = (-1000020 - nI p, es_cl A A.2.2.2.2.1) := rfl
    rw [ew]
    generalize (-1000020 - nI p : Int32) = X at ne0
    refine es_f ne0 (es_rI ⟨rfl, h.text hf1' ?_ ⟨?_, ?_⟩⟩)
    · rw [mz_wI_at, if_pos ⟨rfl, rfl⟩]
    · rw [mz_wI_at, if_neg (by omega), (hf1 145 (by unfold tx_S; omega)).1]
      exact h.2.2.2.2.1.1
    · rw [mz_wI_at, if_neg (by omega), (hf1 145 (by unfold tx_S; omega)).1]
      exact h.2.2.2.2.1.2
  | inr ts =>
    rw [hR] at hm
    obtain ⟨rfl, p, o, ht⟩ := hm
    refine es_t rfl ?_
    have hsp := h.1.2
    have hT60 : T.length ≤ 60 := by rw [← hT]; exact h.2.2.2.1.1
    obtain ⟨hvt, hlen⟩ := tx_run_vt (T := T) (Or.inl rfl) (Nat.zero_le _) hR
    have h60 : ts.length ≤ 60 := by omega
    have e11 : (mz_wI μ1 146 1 0).1 1 1 = nI A.1.2.1 := by
      rw [mz_wI_at, if_neg (by omega), (hf1 1 (by unfold tx_S; omega)).1]
      exact hsp.1
    rw [e11]
    have hrs : es_V (d + 31) n_Mill_reset [mz_R 9 145, mz_I (nI A.1.2.1)] (mz_wI μ1 146 1 0) (fun μ' => μ' = mz_wI (mz_wI (mz_wI (mz_wI (mz_wI μ1 146 1 0) 145 6 0) 145 7 (nI A.1.2.1)) 145 8 (-1000004)) 145 9 (-1000004)) := es_V.mk (w_Mill_reset_0 145 _ _ (es_rV rfl))
    obtain ⟨μ5, hD, h5⟩ := hrs
    refine ⟨_, hD, ?_⟩
    have hf5 : es_fr (fun z => z = 145) (mz_wI μ1 146 1 0) μ5 := by
      rw [h5]
      exact es_fr.wI (S := fun z => z = 145) (es_fr.wI (S := fun z => z = 145) es_fw2 rfl) rfl
    have k5 : ∀ k, μ5.1 145 k = if k = 9 then -1000004 else if k = 8 then -1000004 else if k = 7 then nI A.1.2.1 else if k = 6 then 0 else μ1.1 145 k := by
      intro k
      rw [h5, mz_wI_at]
      by_cases e9 : k = 9
      · rw [if_pos ⟨rfl, e9⟩, if_pos e9]
      · rw [if_neg (fun z => e9 z.2), if_neg e9, mz_wI_at]
        by_cases e8 : k = 8
        · rw [if_pos ⟨rfl, e8⟩, if_pos e8]
        · rw [if_neg (fun z => e8 z.2), if_neg e8, mz_wI_at]
          by_cases e7 : k = 7
          · rw [if_pos ⟨rfl, e7⟩, if_pos e7]
          · rw [if_neg (fun z => e7 z.2), if_neg e7, mz_wI_at]
            by_cases e6 : k = 6
            · rw [if_pos ⟨rfl, e6⟩, if_pos e6]
            · rw [if_neg (fun z => e6 z.2), if_neg e6, mz_wI_at, if_neg (by omega)]
    have hml : tx_ml μ5 A.1.2.1 ts 0 := by
      refine ⟨⟨h60, ?_, fun k hk => ?_⟩, ?_, ?_⟩
      · rw [(hf5 146 (by omega)).1, mz_wI_at, if_neg (by omega)]
        exact ht.2.2.2.1
      · rw [(hf5 148 (by omega)).1, (hf5 149 (by omega)).1, mz_wI_at, if_neg (by omega), mz_wI_at, if_neg (by omega)]
        exact ht.2.2.2.2 k hk
      · rw [k5]; rfl
      · rw [k5]; rfl
    obtain ⟨r6, μ6, hE, hf6, hp⟩ := m_all d h60 (show 1 ≤ A.1.2.1 by omega) hsp.2.2.2.1 6 0 rfl 0 μ5 hml hvt
    refine ⟨_, _, hE, ?_⟩
    have hf6' : es_fr (fun z => 145 ≤ z ∧ z < 204) μ μ6 := (hf1'.tr (hf5.mono (fun z hz => by omega))).tr (hf6.mono (fun z hz => by unfold tx_W at hz; omega))
    have h145 : μ6.1 146 1 = 0 := by
      rw [(hf6 146 (by unfold tx_W; omega)).1, (hf5 146 (by omega)).1, mz_wI_at, if_pos ⟨rfl, rfl⟩]
    have ew : es_wp A s.toInt.toNat (.inr ts) = es_wv A s.toInt.toNat (tx_ev A.1.2.1 ts tx_0 [] none) := rfl
    rw [ew]
    rcases hp with ⟨hr, b, x, p1, p2, p3⟩ | ⟨rfl, j, l, p1, p2, p3, p4, p5, p6, p7⟩
    · have he : tx_ev A.1.2.1 ts tx_0 [] none = .inl (r6, b, x) := p3 tx_0 [] rfl
      rw [he]
      exact es_f hr (es_rI ⟨rfl, h.text hf6' h145 ⟨p1, p2⟩⟩)
    · have hdr : ts.drop j = [] := by
        by_cases e : j < ts.length
        · have h41 := p6.2 _ _ (tx_drop e)
          have hvj := p6.1
          rw [tx_drop e] at hvj
          unfold tx_vt at hvj
          rw [if_neg (by decide), if_neg (by omega), if_pos h41] at hvj
          exact absurd hvj.1 (by decide)
        · exact tx_drop_0 e
      have he : tx_ev A.1.2.1 ts tx_0 [] none = .inr l := by
        refine (p7 tx_0 [] rfl).trans ?_
        show tx_aft A.1.2.1 (ts.drop j) l [] = _
        rw [hdr]; rfl
      rw [he]
      have h6 : es_C μ6 (es_cl A (-1000004, -1000004)) := h.text hf6' h145 ⟨by rw [p4.1, k5]; rfl, by rw [p4.2, k5]; rfl⟩
      obtain ⟨r7, μ7, hF, he7⟩ := s_settle (d + 27) h6 p5 (by omega) (by omega) b1.1 b1.2
      exact es_t rfl ⟨_, _, s_result (d + 30) μ6, _, _, hF, es_rI he7⟩
