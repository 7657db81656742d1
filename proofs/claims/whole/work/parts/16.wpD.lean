/-! What the stretches of the methods ask: by program, closed by evaluation. -/
/-! EtaSeriesModel.in(JJJ)Z, number 101 -/
abbrev v_Mo_in (C : mz_Cl) (Q : Option mz_V → mz_M → Prop) : mz_S → Prop := mz_Ev es_SH tb_Mo_in C Q
set_option maxRecDepth 20000 in
set_option maxHeartbeats 4000000 in
theorem w_Mo_in_0 {C : mz_Cl} {Q : Option mz_V → mz_M → Prop} (y0 : Int64) (y2 : Int64) (y4 : Int64) (μ : mz_M) (h :
    if (lg_cmp y0 y2 : Int32) < (0 : Int32) then
      (((0 : Int32) = 0 ∨ (0 : Int32) = 1) ∧ Q (some (mz_I 0)) μ)
    else
      (if (0 : Int32) < (lg_cmp y0 y4 : Int32) then
        (((0 : Int32) = 0 ∨ (0 : Int32) = 1) ∧ Q (some (mz_I 0)) μ)
      else
        (((1 : Int32) = 0 ∨ (1 : Int32) = 1) ∧ Q (some (mz_I 1)) μ))) :
  v_Mo_in C Q (0, [(0, mz_L y0), (2, mz_L y2), (4, mz_L y4)], [], μ) := mz_Ev.run [] 400 h
/-! EtaSeriesModel.isSeries(I)Z, number 102 -/
abbrev v_Mo_isSeries (C : mz_Cl) (Q : Option mz_V → mz_M → Prop) : mz_S → Prop := mz_Ev es_SH tb_Mo_isSeries C Q
set_option maxRecDepth 20000 in
set_option maxHeartbeats 4000000 in
theorem w_Mo_isSeries_0 {C : mz_Cl} {Q : Option mz_V → mz_M → Prop} (x0 : Int32) (μ : mz_M) (h :
    ∃ (r2 : Int32) (μ1 : mz_M), C n_Mo_in [mz_L ((x0 : Int32).toInt64), mz_L 0, mz_L 3] μ (some (mz_I r2)) μ1 ∧
      (((r2 : Int32) = 0 ∨ (r2 : Int32) = 1) ∧ Q (some (mz_I r2)) μ1)) :
  v_Mo_isSeries C Q (0, [(0, mz_I x0)], [], μ) := mz_Ev.run [] 400 h
/-! EtaSeriesModel.many(I)I, number 103 -/
abbrev v_Mo_many (C : mz_Cl) (Q : Option mz_V → mz_M → Prop) : mz_S → Prop := mz_Ev es_SH tb_Mo_many C Q
set_option maxRecDepth 20000 in
set_option maxHeartbeats 4000000 in
theorem w_Mo_many_0 {C : mz_Cl} {Q : Option mz_V → mz_M → Prop} (p0 : Nat) (x1 : Int32) (μ : mz_M) (h :
    vp_in (2 + x1) 166 ∧ (Q (some (mz_I (μ.1 1 (2 + x1 : Int32).toNatClampNeg))) μ)) :
  v_Mo_many C Q (0, [(0, mz_R 16 p0), (1, mz_I x1)], [], μ) := mz_Ev.run [] 400 h
/-! EtaSeriesModel.termOf(II)I, number 104 -/
abbrev v_Mo_termOf (C : mz_Cl) (Q : Option mz_V → mz_M → Prop) : mz_S → Prop := mz_Ev es_SH tb_Mo_termOf C Q
set_option maxRecDepth 20000 in
set_option maxHeartbeats 4000000 in
theorem w_Mo_termOf_0 {C : mz_Cl} {Q : Option mz_V → mz_M → Prop} (p0 : Nat) (x1 : Int32) (x2 : Int32) (μ : mz_M) (h :
    vp_in ((6 + (40 * x1)) + x2) 166 ∧ (Q (some (mz_I (μ.1 1 ((6 + (40 * x1)) + x2 : Int32).toNatClampNeg))) μ)) :
  v_Mo_termOf C Q (0, [(0, mz_R 16 p0), (1, mz_I x1), (2, mz_I x2)], [], μ) := mz_Ev.run [] 400 h
/-! EtaSeriesModel.takesOne(I)V, number 105 -/
abbrev v_Mo_takesOne (C : mz_Cl) (Q : Option mz_V → mz_M → Prop) : mz_S → Prop := mz_Ev es_SH tb_Mo_takesOne C Q
set_option maxRecDepth 20000 in
set_option maxHeartbeats 4000000 in
theorem w_Mo_takesOne_0 {C : mz_Cl} {Q : Option mz_V → mz_M → Prop} (p0 : Nat) (x1 : Int32) (μ : mz_M) (h :
    ∃ (r2 : Int32) (μ1 : mz_M), C n_Mo_many [mz_R 16 p0, mz_I x1] μ (some (mz_I r2)) μ1 ∧
      (v_Mo_takesOne C Q (11, [(0, mz_R 16 p0), (1, mz_I x1), (2, mz_I 0)], [], mz_wI μ1 p0 2 r2))) :
  v_Mo_takesOne C Q (0, [(0, mz_R 16 p0), (1, mz_I x1)], [], μ) := mz_Ev.run [11] 400 h
set_option maxRecDepth 20000 in
set_option maxHeartbeats 4000000 in
theorem w_Mo_takesOne_11 {C : mz_Cl} {Q : Option mz_V → mz_M → Prop} (p0 : Nat) (x1 : Int32) (x2 : Int32) (μ : mz_M) (h :
    if (μ.1 p0 2 : Int32) ≤ (x2 : Int32) then
      (Q none μ)
    else
      (∃ (r2 : Int32) (μ1 : mz_M), C n_Mo_termOf [mz_R 16 p0, mz_I x1, mz_I x2] μ (some (mz_I r2)) μ1 ∧
        (vp_in x2 40 ∧ (v_Mo_takesOne C Q (11, [(0, mz_R 16 p0), (1, mz_I x1), (2, mz_I (x2 + 1))], [], mz_wL μ1 2 (x2 : Int32).toNatClampNeg ((r2 : Int32).toInt64)))))) :
  v_Mo_takesOne C Q (11, [(0, mz_R 16 p0), (1, mz_I x1), (2, mz_I x2)], [], μ) := mz_Ev.run [11] 400 h
/-! EtaSeriesModel.takesTwo(I)V, number 106 -/
abbrev v_Mo_takesTwo (C : mz_Cl) (Q : Option mz_V → mz_M → Prop) : mz_S → Prop := mz_Ev es_SH tb_Mo_takesTwo C Q
set_option maxRecDepth 20000 in
set_option maxHeartbeats 4000000 in
theorem w_Mo_takesTwo_0 {C : mz_Cl} {Q : Option mz_V → mz_M → Prop} (p0 : Nat) (x1 : Int32) (μ : mz_M) (h :
    ∃ (r2 : Int32) (μ1 : mz_M), C n_Mo_many [mz_R 16 p0, mz_I x1] μ (some (mz_I r2)) μ1 ∧
      (v_Mo_takesTwo C Q (11, [(0, mz_R 16 p0), (1, mz_I x1), (2, mz_I 0)], [], mz_wI μ1 p0 4 r2))) :
  v_Mo_takesTwo C Q (0, [(0, mz_R 16 p0), (1, mz_I x1)], [], μ) := mz_Ev.run [11] 400 h
set_option maxRecDepth 20000 in
set_option maxHeartbeats 4000000 in
theorem w_Mo_takesTwo_11 {C : mz_Cl} {Q : Option mz_V → mz_M → Prop} (p0 : Nat) (x1 : Int32) (x2 : Int32) (μ : mz_M) (h :
    if (μ.1 p0 4 : Int32) ≤ (x2 : Int32) then
      (Q none μ)
    else
      (∃ (r2 : Int32) (μ1 : mz_M), C n_Mo_termOf [mz_R 16 p0, mz_I x1, mz_I x2] μ (some (mz_I r2)) μ1 ∧
        (vp_in x2 40 ∧ (v_Mo_takesTwo C Q (11, [(0, mz_R 16 p0), (1, mz_I x1), (2, mz_I (x2 + 1))], [], mz_wL μ1 3 (x2 : Int32).toNatClampNeg ((r2 : Int32).toInt64)))))) :
  v_Mo_takesTwo C Q (11, [(0, mz_R 16 p0), (1, mz_I x1), (2, mz_I x2)], [], μ) := mz_Ev.run [11] 400 h
/-! EtaSeriesModel.goesOn()V, number 107 -/
abbrev v_Mo_goesOn (C : mz_Cl) (Q : Option mz_V → mz_M → Prop) : mz_S → Prop := mz_Ev es_SH tb_Mo_goesOn C Q
set_option maxRecDepth 20000 in
set_option maxHeartbeats 4000000 in
theorem w_Mo_goesOn_0 {C : mz_Cl} {Q : Option mz_V → mz_M → Prop} (p0 : Nat) (μ : mz_M) (h :
    v_Mo_goesOn C Q (10, [(0, mz_R 16 p0), (1, mz_I 0)], [], mz_wI μ p0 2 (μ.1 p0 6))) :
  v_Mo_goesOn C Q (0, [(0, mz_R 16 p0)], [], μ) := mz_Ev.run [10] 400 h
set_option maxRecDepth 20000 in
set_option maxHeartbeats 4000000 in
theorem w_Mo_goesOn_10 {C : mz_Cl} {Q : Option mz_V → mz_M → Prop} (p0 : Nat) (x1 : Int32) (μ : mz_M) (h :
    if (μ.1 p0 6 : Int32) ≤ (x1 : Int32) then
      (Q none μ)
    else
      (vp_in x1 40 ∧ (vp_in x1 40 ∧ (v_Mo_goesOn C Q (10, [(0, mz_R 16 p0), (1, mz_I (x1 + 1))], [], mz_wL μ 2 (x1 : Int32).toNatClampNeg (μ.2 4 (x1 : Int32).toNatClampNeg)))))) :
  v_Mo_goesOn C Q (10, [(0, mz_R 16 p0), (1, mz_I x1)], [], μ) := mz_Ev.run [10] 400 h
/-! EtaSeriesModel.copiesToTwo()V, number 108 -/
abbrev v_Mo_copiesToTwo (C : mz_Cl) (Q : Option mz_V → mz_M → Prop) : mz_S → Prop := mz_Ev es_SH tb_Mo_copiesToTwo C Q
set_option maxRecDepth 20000 in
set_option maxHeartbeats 4000000 in
theorem w_Mo_copiesToTwo_0 {C : mz_Cl} {Q : Option mz_V → mz_M → Prop} (p0 : Nat) (μ : mz_M) (h :
    v_Mo_copiesToTwo C Q (10, [(0, mz_R 16 p0), (1, mz_I 0)], [], mz_wI μ p0 4 (μ.1 p0 6))) :
  v_Mo_copiesToTwo C Q (0, [(0, mz_R 16 p0)], [], μ) := mz_Ev.run [10] 400 h
set_option maxRecDepth 20000 in
set_option maxHeartbeats 4000000 in
theorem w_Mo_copiesToTwo_10 {C : mz_Cl} {Q : Option mz_V → mz_M → Prop} (p0 : Nat) (x1 : Int32) (μ : mz_M) (h :
    if (μ.1 p0 6 : Int32) ≤ (x1 : Int32) then
      (Q none μ)
    else
      (vp_in x1 40 ∧ (vp_in x1 40 ∧ (v_Mo_copiesToTwo C Q (10, [(0, mz_R 16 p0), (1, mz_I (x1 + 1))], [], mz_wL μ 3 (x1 : Int32).toNatClampNeg (μ.2 4 (x1 : Int32).toNatClampNeg)))))) :
  v_Mo_copiesToTwo C Q (10, [(0, mz_R 16 p0), (1, mz_I x1)], [], μ) := mz_Ev.run [10] 400 h
/-! EtaSeriesModel.keeps(I)I, number 109 -/
abbrev v_Mo_keeps (C : mz_Cl) (Q : Option mz_V → mz_M → Prop) : mz_S → Prop := mz_Ev es_SH tb_Mo_keeps C Q
set_option maxRecDepth 20000 in
set_option maxHeartbeats 4000000 in
theorem w_Mo_keeps_0 {C : mz_Cl} {Q : Option mz_V → mz_M → Prop} (p0 : Nat) (x1 : Int32) (μ : mz_M) (h :
    ∃ μ1, C n_Mo_notes [mz_R 16 p0] μ none μ1 ∧
      (vp_in (2 + x1) 166 ∧ (v_Mo_keeps C Q (18, [(0, mz_R 16 p0), (1, mz_I x1), (2, mz_I 0)], [], mz_wI μ1 1 (2 + x1 : Int32).toNatClampNeg (μ1.1 p0 6))))) :
  v_Mo_keeps C Q (0, [(0, mz_R 16 p0), (1, mz_I x1)], [], μ) := mz_Ev.run [18] 400 h
set_option maxRecDepth 20000 in
set_option maxHeartbeats 4000000 in
theorem w_Mo_keeps_18 {C : mz_Cl} {Q : Option mz_V → mz_M → Prop} (p0 : Nat) (x1 : Int32) (x2 : Int32) (μ : mz_M) (h :
    if (40 : Int32) ≤ (x2 : Int32) then
      (Q (some (mz_I (μ.1 p0 6))) μ)
    else
      (if (μ.1 p0 6 : Int32) ≤ (x2 : Int32) then
        (vp_in ((6 + (40 * x1)) + x2) 166 ∧ (v_Mo_keeps C Q (18, [(0, mz_R 16 p0), (1, mz_I x1), (2, mz_I (x2 + 1))], [], mz_wI μ 1 ((6 + (40 * x1)) + x2 : Int32).toNatClampNeg 0)))
      else
        (vp_in x2 40 ∧ (vp_in ((6 + (40 * x1)) + x2) 166 ∧ (v_Mo_keeps C Q (18, [(0, mz_R 16 p0), (1, mz_I x1), (2, mz_I (x2 + 1))], [], mz_wI μ 1 ((6 + (40 * x1)) + x2 : Int32).toNatClampNeg ((μ.2 4 (x2 : Int32).toNatClampNeg : Int64).toInt32))))))) :
  v_Mo_keeps C Q (18, [(0, mz_R 16 p0), (1, mz_I x1), (2, mz_I x2)], [], μ) := mz_Ev.run [18] 400 h
/-! EtaSeriesModel.wide()I, number 110 -/
abbrev v_Mo_wide (C : mz_Cl) (Q : Option mz_V → mz_M → Prop) : mz_S → Prop := mz_Ev es_SH tb_Mo_wide C Q
set_option maxRecDepth 20000 in
set_option maxHeartbeats 4000000 in
theorem w_Mo_wide_0 {C : mz_Cl} {Q : Option mz_V → mz_M → Prop} (p0 : Nat) (μ : mz_M) (h :
    v_Mo_wide C Q (4, [(0, mz_R 16 p0), (1, mz_I 0), (2, mz_I 0)], [], μ)) :
  v_Mo_wide C Q (0, [(0, mz_R 16 p0)], [], μ) := mz_Ev.run [4] 400 h
set_option maxRecDepth 20000 in
set_option maxHeartbeats 4000000 in
theorem w_Mo_wide_4 {C : mz_Cl} {Q : Option mz_V → mz_M → Prop} (p0 : Nat) (x1 : Int32) (x2 : Int32) (μ : mz_M) (h :
    if (μ.1 p0 6 : Int32) ≤ (x2 : Int32) then
      (if (x1 : Int32) = (0 : Int32) then
        (Q (some (mz_I 0)) μ)
      else
        (Q (some (mz_I ((-1000005)))) μ))
    else
      (if (x1 : Int32) = (0 : Int32) then
        (vp_in x2 40 ∧ (∃ (r2 : Int32) (μ1 : mz_M), C n_Mo_in [mz_L (μ.2 4 (x2 : Int32).toNatClampNeg), mz_L ((-100000000)), mz_L 100000000] μ (some (mz_I r2)) μ1 ∧
          (if (r2 : Int32) = (0 : Int32) then
            (v_Mo_wide C Q (4, [(0, mz_R 16 p0), (1, mz_I 1), (2, mz_I (x2 + 1))], [], μ1))
          else
            (v_Mo_wide C Q (4, [(0, mz_R 16 p0), (1, mz_I 0), (2, mz_I (x2 + 1))], [], μ1)))))
      else
        (v_Mo_wide C Q (4, [(0, mz_R 16 p0), (1, mz_I 1), (2, mz_I (x2 + 1))], [], μ)))) :
  v_Mo_wide C Q (4, [(0, mz_R 16 p0), (1, mz_I x1), (2, mz_I x2)], [], μ) := mz_Ev.run [4] 400 h
/-! EtaSeriesModel.product(I)J, number 111 -/
abbrev v_Mo_product (C : mz_Cl) (Q : Option mz_V → mz_M → Prop) : mz_S → Prop := mz_Ev es_SH tb_Mo_product C Q
set_option maxRecDepth 20000 in
set_option maxHeartbeats 4000000 in
theorem w_Mo_product_0 {C : mz_Cl} {Q : Option mz_V → mz_M → Prop} (p0 : Nat) (x1 : Int32) (μ : mz_M) (h :
    v_Mo_product C Q (5, [(0, mz_R 16 p0), (1, mz_I x1), (2, mz_L 0), (4, mz_I 0)], [], μ)) :
  v_Mo_product C Q (0, [(0, mz_R 16 p0), (1, mz_I x1)], [], μ) := mz_Ev.run [5] 400 h
set_option maxRecDepth 20000 in
set_option maxHeartbeats 4000000 in
theorem w_Mo_product_5 {C : mz_Cl} {Q : Option mz_V → mz_M → Prop} (p0 : Nat) (x1 : Int32) (y2 : Int64) (x4 : Int32) (μ : mz_M) (h :
    if (x1 : Int32) < (x4 : Int32) then
      (Q (some (mz_L y2)) μ)
    else
      (vp_in x4 40 ∧ (vp_in (x1 - x4) 40 ∧ (v_Mo_product C Q (5, [(0, mz_R 16 p0), (1, mz_I x1), (2, mz_L (y2 + ((μ.2 2 (x4 : Int32).toNatClampNeg) * (μ.2 3 (x1 - x4 : Int32).toNatClampNeg)))), (4, mz_I (x4 + 1))], [], μ))))) :
  v_Mo_product C Q (5, [(0, mz_R 16 p0), (1, mz_I x1), (2, mz_L y2), (4, mz_I x4)], [], μ) := mz_Ev.run [5] 400 h
/-! EtaSeriesModel.over()I, number 112 -/
abbrev v_Mo_over (C : mz_Cl) (Q : Option mz_V → mz_M → Prop) : mz_S → Prop := mz_Ev es_SH tb_Mo_over C Q
set_option maxRecDepth 20000 in
set_option maxHeartbeats 4000000 in
theorem w_Mo_over_0 {C : mz_Cl} {Q : Option mz_V → mz_M → Prop} (p0 : Nat) (μ : mz_M) (h :
    vp_in 0 40 ∧ (if (lg_cmp (μ.2 3 (0 : Int32).toNatClampNeg) 1 : Int32) = (0 : Int32) then
      (v_Mo_over C Q (29, [(0, mz_R 16 p0), (1, mz_I 0)], [], μ))
    else
      (vp_in 0 40 ∧ (if (lg_cmp (μ.2 3 (0 : Int32).toNatClampNeg) ((-1)) : Int32) = (0 : Int32) then
        (v_Mo_over C Q (29, [(0, mz_R 16 p0), (1, mz_I 0)], [], μ))
      else
        (Q (some (mz_I ((-1000006)))) μ))))) :
  v_Mo_over C Q (0, [(0, mz_R 16 p0)], [], μ) := mz_Ev.run [29, 47] 400 h
set_option maxRecDepth 20000 in
set_option maxHeartbeats 4000000 in
theorem w_Mo_over_29 {C : mz_Cl} {Q : Option mz_V → mz_M → Prop} (p0 : Nat) (x1 : Int32) (μ : mz_M) (h :
    if (μ.1 p0 6 : Int32) ≤ (x1 : Int32) then
      (Q (some (mz_I 0)) μ)
    else
      (vp_in x1 40 ∧ (v_Mo_over C Q (47, [(0, mz_R 16 p0), (1, mz_I x1), (2, mz_L (μ.2 2 (x1 : Int32).toNatClampNeg)), (4, mz_I 1)], [], μ)))) :
  v_Mo_over C Q (29, [(0, mz_R 16 p0), (1, mz_I x1)], [], μ) := mz_Ev.run [29, 47] 400 h
set_option maxRecDepth 20000 in
set_option maxHeartbeats 4000000 in
theorem w_Mo_over_47 {C : mz_Cl} {Q : Option mz_V → mz_M → Prop} (p0 : Nat) (x1 : Int32) (y2 : Int64) (x4 : Int32) (μ : mz_M) (h :
    if (x1 : Int32) < (x4 : Int32) then
      (vp_in 0 40 ∧ (vp_in x1 40 ∧ (vp_in x1 40 ∧ (∃ (r2 : Int32) (μ1 : mz_M), C n_Mo_in [mz_L ((mz_wL μ 4 (x1 : Int32).toNatClampNeg (y2 * (μ.2 3 (0 : Int32).toNatClampNeg))).2 4 (x1 : Int32).toNatClampNeg), mz_L ((-100000000)), mz_L 100000000] (mz_wL μ 4 (x1 : Int32).toNatClampNeg (y2 * (μ.2 3 (0 : Int32).toNatClampNeg))) (some (mz_I r2)) μ1 ∧
        (if (r2 : Int32) = (0 : Int32) then
          (Q (some (mz_I ((-1000005)))) μ1)
        else
          (v_Mo_over C Q (29, [(0, mz_R 16 p0), (1, mz_I (x1 + 1))], [], μ1)))))))
    else
      (vp_in x4 40 ∧ (vp_in (x1 - x4) 40 ∧ (v_Mo_over C Q (47, [(0, mz_R 16 p0), (1, mz_I x1), (2, mz_L (y2 - ((μ.2 3 (x4 : Int32).toNatClampNeg) * (μ.2 4 (x1 - x4 : Int32).toNatClampNeg)))), (4, mz_I (x4 + 1))], [], μ))))) :
  v_Mo_over C Q (47, [(0, mz_R 16 p0), (1, mz_I x1), (2, mz_L y2), (4, mz_I x4)], [], μ) := mz_Ev.run [29, 47] 400 h
/-! EtaSeriesModel.joins(I)I, number 113 -/
abbrev v_Mo_joins (C : mz_Cl) (Q : Option mz_V → mz_M → Prop) : mz_S → Prop := mz_Ev es_SH tb_Mo_joins C Q
set_option maxRecDepth 20000 in
set_option maxHeartbeats 4000000 in
theorem w_Mo_joins_0 {C : mz_Cl} {Q : Option mz_V → mz_M → Prop} (p0 : Nat) (x1 : Int32) (μ : mz_M) (h :
    if (μ.1 p0 4 : Int32) ≤ (μ.1 p0 2 : Int32) then
      (if (x1 : Int32) = (3 : Int32) then
        (∃ (r2 : Int32) (μ1 : mz_M), C n_Mo_over [mz_R 16 p0] (mz_wI μ p0 6 (μ.1 p0 4)) (some (mz_I r2)) μ1 ∧
          (Q (some (mz_I r2)) μ1))
      else
        (v_Mo_joins C Q (38, [(0, mz_R 16 p0), (1, mz_I x1), (2, mz_I 0)], [], mz_wI μ p0 6 (μ.1 p0 4))))
    else
      (if (x1 : Int32) = (3 : Int32) then
        (∃ (r4 : Int32) (μ3 : mz_M), C n_Mo_over [mz_R 16 p0] (mz_wI μ p0 6 (μ.1 p0 2)) (some (mz_I r4)) μ3 ∧
          (Q (some (mz_I r4)) μ3))
      else
        (v_Mo_joins C Q (38, [(0, mz_R 16 p0), (1, mz_I x1), (2, mz_I 0)], [], mz_wI μ p0 6 (μ.1 p0 2))))) :
  v_Mo_joins C Q (0, [(0, mz_R 16 p0), (1, mz_I x1)], [], μ) := mz_Ev.run [38] 400 h
set_option maxRecDepth 20000 in
set_option maxHeartbeats 4000000 in
theorem w_Mo_joins_38 {C : mz_Cl} {Q : Option mz_V → mz_M → Prop} (p0 : Nat) (x1 : Int32) (x2 : Int32) (μ : mz_M) (h :
    if (μ.1 p0 6 : Int32) ≤ (x2 : Int32) then
      (∃ (r2 : Int32) (μ1 : mz_M), C n_Mo_wide [mz_R 16 p0] μ (some (mz_I r2)) μ1 ∧
        (Q (some (mz_I r2)) μ1))
    else
      (if (x1 : Int32) = (0 : Int32) then
        (vp_in x2 40 ∧ (vp_in x2 40 ∧ (vp_in x2 40 ∧ (v_Mo_joins C Q (38, [(0, mz_R 16 p0), (1, mz_I x1), (2, mz_I (x2 + 1))], [], mz_wL μ 4 (x2 : Int32).toNatClampNeg ((μ.2 2 (x2 : Int32).toNatClampNeg) + (μ.2 3 (x2 : Int32).toNatClampNeg)))))))
      else
        (if (x1 : Int32) = (1 : Int32) then
          (vp_in x2 40 ∧ (vp_in x2 40 ∧ (vp_in x2 40 ∧ (v_Mo_joins C Q (38, [(0, mz_R 16 p0), (1, mz_I x1), (2, mz_I (x2 + 1))], [], mz_wL μ 4 (x2 : Int32).toNatClampNeg ((μ.2 2 (x2 : Int32).toNatClampNeg) - (μ.2 3 (x2 : Int32).toNatClampNeg)))))))
        else
          (∃ (r4 : Int64) (μ3 : mz_M), C n_Mo_product [mz_R 16 p0, mz_I x2] μ (some (mz_L r4)) μ3 ∧
            (vp_in x2 40 ∧ (v_Mo_joins C Q (38, [(0, mz_R 16 p0), (1, mz_I x1), (2, mz_I (x2 + 1))], [], mz_wL μ3 4 (x2 : Int32).toNatClampNeg r4))))))) :
  v_Mo_joins C Q (38, [(0, mz_R 16 p0), (1, mz_I x1), (2, mz_I x2)], [], μ) := mz_Ev.run [38] 400 h
/-! EtaSeriesModel.makes(III)V, number 114 -/
abbrev v_Mo_makes (C : mz_Cl) (Q : Option mz_V → mz_M → Prop) : mz_S → Prop := mz_Ev es_SH tb_Mo_makes C Q
set_option maxRecDepth 20000 in
set_option maxHeartbeats 4000000 in
theorem w_Mo_makes_0 {C : mz_Cl} {Q : Option mz_V → mz_M → Prop} (p0 : Nat) (x1 : Int32) (x2 : Int32) (x3 : Int32) (μ : mz_M) (h :
    v_Mo_makes C Q (8, [(0, mz_R 16 p0), (1, mz_I x1), (2, mz_I x2), (3, mz_I x3), (4, mz_I 0)], [], mz_wI μ p0 6 x3)) :
  v_Mo_makes C Q (0, [(0, mz_R 16 p0), (1, mz_I x1), (2, mz_I x2), (3, mz_I x3)], [], μ) := mz_Ev.run [8, 65] 400 h
set_option maxRecDepth 20000 in
set_option maxHeartbeats 4000000 in
theorem w_Mo_makes_8 {C : mz_Cl} {Q : Option mz_V → mz_M → Prop} (p0 : Nat) (x1 : Int32) (x2 : Int32) (x3 : Int32) (x4 : Int32) (μ : mz_M) (h :
    if (x3 : Int32) ≤ (x4 : Int32) then
      (if (x1 : Int32) = (0 : Int32) then
        (if (x3 : Int32) ≤ (x2 : Int32) then
          (Q none μ)
        else
          (vp_in x2 40 ∧ (Q none (mz_wL μ 4 (x2 : Int32).toNatClampNeg 1))))
      else
        (if (x1 : Int32) = (4 : Int32) then
          (if (x3 : Int32) ≤ (x2 : Int32) then
            (Q none μ)
          else
            (vp_in x2 40 ∧ (Q none (mz_wL μ 4 (x2 : Int32).toNatClampNeg 1))))
        else
          (if (x1 : Int32) = (3 : Int32) then
            (∃ μ1, C n_Mo_euler [mz_R 16 p0, mz_I x2, mz_I x3] μ none μ1 ∧
              (Q none μ1))
          else
            (v_Mo_makes C Q (65, [(0, mz_R 16 p0), (1, mz_I x1), (2, mz_I x2), (3, mz_I x3), (4, mz_I 0)], [], μ)))))
    else
      (vp_in x4 40 ∧ (v_Mo_makes C Q (8, [(0, mz_R 16 p0), (1, mz_I x1), (2, mz_I x2), (3, mz_I x3), (4, mz_I (x4 + 1))], [], mz_wL μ 4 (x4 : Int32).toNatClampNeg 0)))) :
  v_Mo_makes C Q (8, [(0, mz_R 16 p0), (1, mz_I x1), (2, mz_I x2), (3, mz_I x3), (4, mz_I x4)], [], μ) := mz_Ev.run [8, 65] 400 h
set_option maxRecDepth 20000 in
set_option maxHeartbeats 4000000 in
theorem w_Mo_makes_65 {C : mz_Cl} {Q : Option mz_V → mz_M → Prop} (p0 : Nat) (x1 : Int32) (x2 : Int32) (x3 : Int32) (x4 : Int32) (μ : mz_M) (h :
    if (40 : Int32) ≤ (x4 : Int32) then
      (Q none μ)
    else
      (if (x1 : Int32) = (1 : Int32) then
        (if (x3 : Int32) ≤ ((x2 * x4) * x4 : Int32) then
          (v_Mo_makes C Q (65, [(0, mz_R 16 p0), (1, mz_I x1), (2, mz_I x2), (3, mz_I x3), (4, mz_I (x4 + 1))], [], μ))
        else
          (vp_in ((x2 * x4) * x4) 40 ∧ (if (x1 : Int32) = (1 : Int32) then
            (if (x4 : Int32) ≤ (0 : Int32) then
              (vp_in ((x2 * x4) * x4) 40 ∧ (v_Mo_makes C Q (65, [(0, mz_R 16 p0), (1, mz_I x1), (2, mz_I x2), (3, mz_I x3), (4, mz_I (x4 + 1))], [], mz_wL μ 4 ((x2 * x4) * x4 : Int32).toNatClampNeg ((μ.2 4 ((x2 * x4) * x4 : Int32).toNatClampNeg) + 1))))
            else
              (vp_in ((x2 * x4) * x4) 40 ∧ (v_Mo_makes C Q (65, [(0, mz_R 16 p0), (1, mz_I x1), (2, mz_I x2), (3, mz_I x3), (4, mz_I (x4 + 1))], [], mz_wL μ 4 ((x2 * x4) * x4 : Int32).toNatClampNeg ((μ.2 4 ((x2 * x4) * x4 : Int32).toNatClampNeg) + 2)))))
          else
            (vp_in ((x2 * x4) * x4) 40 ∧ (v_Mo_makes C Q (65, [(0, mz_R 16 p0), (1, mz_I x1), (2, mz_I x2), (3, mz_I x3), (4, mz_I (x4 + 1))], [], mz_wL μ 4 ((x2 * x4) * x4 : Int32).toNatClampNeg ((μ.2 4 ((x2 * x4) * x4 : Int32).toNatClampNeg) + 1)))))))
      else
        (¬ (2 : Int32) = 0 ∧ (if (x3 : Int32) ≤ (((x2 * x4) * (x4 + 1)) / 2 : Int32) then
          (v_Mo_makes C Q (65, [(0, mz_R 16 p0), (1, mz_I x1), (2, mz_I x2), (3, mz_I x3), (4, mz_I (x4 + 1))], [], μ))
        else
          (vp_in (((x2 * x4) * (x4 + 1)) / 2) 40 ∧ (if (x1 : Int32) = (1 : Int32) then
            (if (x4 : Int32) ≤ (0 : Int32) then
              (vp_in (((x2 * x4) * (x4 + 1)) / 2) 40 ∧ (v_Mo_makes C Q (65, [(0, mz_R 16 p0), (1, mz_I x1), (2, mz_I x2), (3, mz_I x3), (4, mz_I (x4 + 1))], [], mz_wL μ 4 (((x2 * x4) * (x4 + 1)) / 2 : Int32).toNatClampNeg ((μ.2 4 (((x2 * x4) * (x4 + 1)) / 2 : Int32).toNatClampNeg) + 1))))
            else
              (vp_in (((x2 * x4) * (x4 + 1)) / 2) 40 ∧ (v_Mo_makes C Q (65, [(0, mz_R 16 p0), (1, mz_I x1), (2, mz_I x2), (3, mz_I x3), (4, mz_I (x4 + 1))], [], mz_wL μ 4 (((x2 * x4) * (x4 + 1)) / 2 : Int32).toNatClampNeg ((μ.2 4 (((x2 * x4) * (x4 + 1)) / 2 : Int32).toNatClampNeg) + 2)))))
          else
            (vp_in (((x2 * x4) * (x4 + 1)) / 2) 40 ∧ (v_Mo_makes C Q (65, [(0, mz_R 16 p0), (1, mz_I x1), (2, mz_I x2), (3, mz_I x3), (4, mz_I (x4 + 1))], [], mz_wL μ 4 (((x2 * x4) * (x4 + 1)) / 2 : Int32).toNatClampNeg ((μ.2 4 (((x2 * x4) * (x4 + 1)) / 2 : Int32).toNatClampNeg) + 1)))))))))) :
  v_Mo_makes C Q (65, [(0, mz_R 16 p0), (1, mz_I x1), (2, mz_I x2), (3, mz_I x3), (4, mz_I x4)], [], μ) := mz_Ev.run [8, 65] 400 h
/-! EtaSeriesModel.euler(II)V, number 115 -/
abbrev v_Mo_euler (C : mz_Cl) (Q : Option mz_V → mz_M → Prop) : mz_S → Prop := mz_Ev es_SH tb_Mo_euler C Q
set_option maxRecDepth 20000 in
set_option maxHeartbeats 4000000 in
theorem w_Mo_euler_0 {C : mz_Cl} {Q : Option mz_V → mz_M → Prop} (p0 : Nat) (x1 : Int32) (x2 : Int32) (μ : mz_M) (h :
    vp_in 0 40 ∧ (v_Mo_euler C Q (9, [(0, mz_R 16 p0), (1, mz_I x1), (2, mz_I x2), (3, mz_I x1)], [], mz_wL μ 4 (0 : Int32).toNatClampNeg 1))) :
  v_Mo_euler C Q (0, [(0, mz_R 16 p0), (1, mz_I x1), (2, mz_I x2)], [], μ) := mz_Ev.run [9, 19] 400 h
set_option maxRecDepth 20000 in
set_option maxHeartbeats 4000000 in
theorem w_Mo_euler_9 {C : mz_Cl} {Q : Option mz_V → mz_M → Prop} (p0 : Nat) (x1 : Int32) (x2 : Int32) (x3 : Int32) (μ : mz_M) (h :
    if (x2 : Int32) ≤ (x3 : Int32) then
      (Q none μ)
    else
      (v_Mo_euler C Q (19, [(0, mz_R 16 p0), (1, mz_I x1), (2, mz_I x2), (3, mz_I x3), (4, mz_I (x2 - 1))], [], μ))) :
  v_Mo_euler C Q (9, [(0, mz_R 16 p0), (1, mz_I x1), (2, mz_I x2), (3, mz_I x3)], [], μ) := mz_Ev.run [9, 19] 400 h
set_option maxRecDepth 20000 in
set_option maxHeartbeats 4000000 in
theorem w_Mo_euler_19 {C : mz_Cl} {Q : Option mz_V → mz_M → Prop} (p0 : Nat) (x1 : Int32) (x2 : Int32) (x3 : Int32) (x4 : Int32) (μ : mz_M) (h :
    if (x4 : Int32) < (x3 : Int32) then
      (v_Mo_euler C Q (9, [(0, mz_R 16 p0), (1, mz_I x1), (2, mz_I x2), (3, mz_I (x3 + x1))], [], μ))
    else
      (vp_in x4 40 ∧ (vp_in (x4 - x3) 40 ∧ (vp_in x4 40 ∧ (v_Mo_euler C Q (19, [(0, mz_R 16 p0), (1, mz_I x1), (2, mz_I x2), (3, mz_I x3), (4, mz_I (x4 + (-1)))], [], mz_wL μ 4 (x4 : Int32).toNatClampNeg ((μ.2 4 (x4 : Int32).toNatClampNeg) - (μ.2 4 (x4 - x3 : Int32).toNatClampNeg)))))))) :
  v_Mo_euler C Q (19, [(0, mz_R 16 p0), (1, mz_I x1), (2, mz_I x2), (3, mz_I x3), (4, mz_I x4)], [], μ) := mz_Ev.run [9, 19] 400 h
/-! EtaSeriesModel.powers(I)I, number 116 -/
abbrev v_Mo_powers (C : mz_Cl) (Q : Option mz_V → mz_M → Prop) : mz_S → Prop := mz_Ev es_SH tb_Mo_powers C Q
set_option maxRecDepth 20000 in
set_option maxHeartbeats 4000000 in
theorem w_Mo_powers_0 {C : mz_Cl} {Q : Option mz_V → mz_M → Prop} (p0 : Nat) (x1 : Int32) (μ : mz_M) (h :
    ∃ μ1, C n_Mo_copiesToTwo [mz_R 16 p0] μ none μ1 ∧
      (∃ μ2, C n_Mo_makes [mz_R 16 p0, mz_I 0, mz_I 0, mz_I (μ.1 p0 6)] μ1 none μ2 ∧
        (v_Mo_powers C Q (21, [(0, mz_R 16 p0), (1, mz_I x1), (3, mz_I 0), (4, mz_I 0)], [], μ2)))) :
  v_Mo_powers C Q (0, [(0, mz_R 16 p0), (1, mz_I x1)], [], μ) := mz_Ev.run [21] 400 h
set_option maxRecDepth 20000 in
set_option maxHeartbeats 4000000 in
theorem w_Mo_powers_21 {C : mz_Cl} {Q : Option mz_V → mz_M → Prop} (p0 : Nat) (x1 : Int32) (x3 : Int32) (x4 : Int32) (μ : mz_M) (h :
    if (x1 : Int32) ≤ (x4 : Int32) then
      (Q (some (mz_I x3)) μ)
    else
      (if (x3 : Int32) = (0 : Int32) then
        (∃ μ1, C n_Mo_goesOn [mz_R 16 p0] μ none μ1 ∧
          (∃ (r3 : Int32) (μ2 : mz_M), C n_Mo_joins [mz_R 16 p0, mz_I 2] μ1 (some (mz_I r3)) μ2 ∧
            (v_Mo_powers C Q (21, [(0, mz_R 16 p0), (1, mz_I x1), (3, mz_I r3), (4, mz_I (x4 + 1))], [], μ2))))
      else
        (Q (some (mz_I x3)) μ))) :
  v_Mo_powers C Q (21, [(0, mz_R 16 p0), (1, mz_I x1), (3, mz_I x3), (4, mz_I x4)], [], μ) := mz_Ev.run [21] 400 h
/-! EtaSeriesModel.isKind(II)Z, number 117 -/
abbrev v_Mo_isKind (C : mz_Cl) (Q : Option mz_V → mz_M → Prop) : mz_S → Prop := mz_Ev es_SH tb_Mo_isKind C Q
set_option maxRecDepth 20000 in
set_option maxHeartbeats 4000000 in
theorem w_Mo_isKind_0 {C : mz_Cl} {Q : Option mz_V → mz_M → Prop} (x0 : Int32) (x1 : Int32) (μ : mz_M) (h :
    if (x0 : Int32) = (0 : Int32) then
      (if (x1 : Int32) = (0 : Int32) then
        (((1 : Int32) = 0 ∨ (1 : Int32) = 1) ∧ Q (some (mz_I 1)) μ)
      else
        (((0 : Int32) = 0 ∨ (0 : Int32) = 1) ∧ Q (some (mz_I 0)) μ))
    else
      (if (x0 : Int32) = (4 : Int32) then
        (∃ (r2 : Int32) (μ1 : mz_M), C n_Mo_in [mz_L ((x1 : Int32).toInt64), mz_L 0, mz_L 39] μ (some (mz_I r2)) μ1 ∧
          (((r2 : Int32) = 0 ∨ (r2 : Int32) = 1) ∧ Q (some (mz_I r2)) μ1))
      else
        (∃ (r4 : Int32) (μ3 : mz_M), C n_Mo_in [mz_L ((x0 : Int32).toInt64), mz_L 1, mz_L 3] μ (some (mz_I r4)) μ3 ∧
          (if (r4 : Int32) = (0 : Int32) then
            (((0 : Int32) = 0 ∨ (0 : Int32) = 1) ∧ Q (some (mz_I 0)) μ3)
          else
            (∃ (r6 : Int32) (μ5 : mz_M), C n_Mo_in [mz_L ((x1 : Int32).toInt64), mz_L 1, mz_L 9] μ3 (some (mz_I r6)) μ5 ∧
              (if (r6 : Int32) = (0 : Int32) then
                (((0 : Int32) = 0 ∨ (0 : Int32) = 1) ∧ Q (some (mz_I 0)) μ5)
              else
                (((1 : Int32) = 0 ∨ (1 : Int32) = 1) ∧ Q (some (mz_I 1)) μ5))))))) :
  v_Mo_isKind C Q (0, [(0, mz_I x0), (1, mz_I x1)], [], μ) := mz_Ev.run [] 400 h
/-! EtaSeriesModel.make(III)I, number 118 -/
abbrev v_Mo_make (C : mz_Cl) (Q : Option mz_V → mz_M → Prop) : mz_S → Prop := mz_Ev es_SH tb_Mo_make C Q
set_option maxRecDepth 20000 in
set_option maxHeartbeats 4000000 in
theorem w_Mo_make_0 {C : mz_Cl} {Q : Option mz_V → mz_M → Prop} (p0 : Nat) (x1 : Int32) (x2 : Int32) (x3 : Int32) (μ : mz_M) (h :
    ∃ (r2 : Int32) (μ1 : mz_M), C n_Mo_isSeries [mz_I x1] μ (some (mz_I r2)) μ1 ∧
      (if (r2 : Int32) = (0 : Int32) then
        (Q (some (mz_I ((-1000001)))) μ1)
      else
        (∃ (r4 : Int32) (μ3 : mz_M), C n_Mo_isKind [mz_I x2, mz_I x3] μ1 (some (mz_I r4)) μ3 ∧
          (if (r4 : Int32) = (0 : Int32) then
            (Q (some (mz_I ((-1000001)))) μ3)
          else
            (vp_in 0 166 ∧ (∃ μ5, C n_Mo_makes [mz_R 16 p0, mz_I x2, mz_I x3, mz_I (μ3.1 1 (0 : Int32).toNatClampNeg)] μ3 none μ5 ∧
              (∃ (r7 : Int32) (μ6 : mz_M), C n_Mo_keeps [mz_R 16 p0, mz_I x1] μ5 (some (mz_I r7)) μ6 ∧
                (Q (some (mz_I r7)) μ6)))))))) :
  v_Mo_make C Q (0, [(0, mz_R 16 p0), (1, mz_I x1), (2, mz_I x2), (3, mz_I x3)], [], μ) := mz_Ev.run [] 400 h
/-! EtaSeriesModel.join(IIII)I, number 119 -/
abbrev v_Mo_join (C : mz_Cl) (Q : Option mz_V → mz_M → Prop) : mz_S → Prop := mz_Ev es_SH tb_Mo_join C Q
set_option maxRecDepth 20000 in
set_option maxHeartbeats 4000000 in
theorem w_Mo_join_0 {C : mz_Cl} {Q : Option mz_V → mz_M → Prop} (p0 : Nat) (x1 : Int32) (x2 : Int32) (x3 : Int32) (x4 : Int32) (μ : mz_M) (h :
    ∃ (r2 : Int32) (μ1 : mz_M), C n_Mo_isSeries [mz_I x1] μ (some (mz_I r2)) μ1 ∧
      (if (r2 : Int32) = (0 : Int32) then
        (Q (some (mz_I ((-1000001)))) μ1)
      else
        (∃ (r4 : Int32) (μ3 : mz_M), C n_Mo_in [mz_L ((x2 : Int32).toInt64), mz_L 0, mz_L 3] μ1 (some (mz_I r4)) μ3 ∧
          (if (r4 : Int32) = (0 : Int32) then
            (Q (some (mz_I ((-1000001)))) μ3)
          else
            (∃ (r6 : Int32) (μ5 : mz_M), C n_Mo_isSeries [mz_I x3] μ3 (some (mz_I r6)) μ5 ∧
              (if (r6 : Int32) = (0 : Int32) then
                (Q (some (mz_I ((-1000001)))) μ5)
              else
                (∃ (r8 : Int32) (μ7 : mz_M), C n_Mo_isSeries [mz_I x4] μ5 (some (mz_I r8)) μ7 ∧
                  (if (r8 : Int32) = (0 : Int32) then
                    (Q (some (mz_I ((-1000001)))) μ7)
                  else
                    (∃ (r10 : Int32) (μ9 : mz_M), C n_Mo_many [mz_R 16 p0, mz_I x3] μ7 (some (mz_I r10)) μ9 ∧
                      (if (r10 : Int32) = (0 : Int32) then
                        (Q (some (mz_I ((-1000011)))) μ9)
                      else
                        (∃ (r12 : Int32) (μ11 : mz_M), C n_Mo_many [mz_R 16 p0, mz_I x4] μ9 (some (mz_I r12)) μ11 ∧
                          (if (r12 : Int32) = (0 : Int32) then
                            (Q (some (mz_I ((-1000011)))) μ11)
                          else
                            (∃ μ13, C n_Mo_takesOne [mz_R 16 p0, mz_I x3] μ11 none μ13 ∧
                              (∃ μ14, C n_Mo_takesTwo [mz_R 16 p0, mz_I x4] μ13 none μ14 ∧
                                (∃ (r16 : Int32) (μ15 : mz_M), C n_Mo_joins [mz_R 16 p0, mz_I x2] μ14 (some (mz_I r16)) μ15 ∧
                                  (if (0 : Int32) ≤ (r16 : Int32) then
                                    (∃ (r18 : Int32) (μ17 : mz_M), C n_Mo_keeps [mz_R 16 p0, mz_I x1] μ15 (some (mz_I r18)) μ17 ∧
                                      (Q (some (mz_I r18)) μ17))
                                  else
                                    (Q (some (mz_I r16)) μ15))))))))))))))))) :
  v_Mo_join C Q (0, [(0, mz_R 16 p0), (1, mz_I x1), (2, mz_I x2), (3, mz_I x3), (4, mz_I x4)], [], μ) := mz_Ev.run [] 400 h
/-! EtaSeriesModel.isChange(II)Z, number 120 -/
abbrev v_Mo_isChange (C : mz_Cl) (Q : Option mz_V → mz_M → Prop) : mz_S → Prop := mz_Ev es_SH tb_Mo_isChange C Q
set_option maxRecDepth 20000 in
set_option maxHeartbeats 4000000 in
theorem w_Mo_isChange_0 {C : mz_Cl} {Q : Option mz_V → mz_M → Prop} (x0 : Int32) (x1 : Int32) (μ : mz_M) (h :
    if (x0 : Int32) = nI 0 then
      (∃ (r2 : Int32) (μ1 : mz_M), C n_Mo_in [mz_L ((x1 : Int32).toInt64), mz_L 0, mz_L 9] μ (some (mz_I r2)) μ1 ∧
        (((r2 : Int32) = 0 ∨ (r2 : Int32) = 1) ∧ Q (some (mz_I r2)) μ1))
    else if (x0 : Int32) = nI 1 then
      (∃ (r4 : Int32) (μ3 : mz_M), C n_Mo_in [mz_L ((x1 : Int32).toInt64), mz_L 1, mz_L 8] μ (some (mz_I r4)) μ3 ∧
        (((r4 : Int32) = 0 ∨ (r4 : Int32) = 1) ∧ Q (some (mz_I r4)) μ3))
    else if (x0 : Int32) = nI 2 then
      (if (x1 : Int32) = (0 : Int32) then
        (((1 : Int32) = 0 ∨ (1 : Int32) = 1) ∧ Q (some (mz_I 1)) μ)
      else
        (((0 : Int32) = 0 ∨ (0 : Int32) = 1) ∧ Q (some (mz_I 0)) μ))
    else if (x0 : Int32) = nI 3 then
      (¬ (10 : Int32) = 0 ∧ (∃ (r6 : Int32) (μ5 : mz_M), C n_Mo_in [mz_L ((x1 / 10 : Int32).toInt64), mz_L 1, mz_L 8] μ (some (mz_I r6)) μ5 ∧
        (if (r6 : Int32) = (0 : Int32) then
          (((0 : Int32) = 0 ∨ (0 : Int32) = 1) ∧ Q (some (mz_I 0)) μ5)
        else
          (¬ (10 : Int32) = 0 ∧ (¬ (10 : Int32) = 0 ∧ (∃ (r8 : Int32) (μ7 : mz_M), C n_Mo_in [mz_L ((x1 - x1 / 10 * 10 : Int32).toInt64), mz_L 0, mz_L (((x1 / 10) - 1 : Int32).toInt64)] μ5 (some (mz_I r8)) μ7 ∧
            (if (r8 : Int32) = (0 : Int32) then
              (((0 : Int32) = 0 ∨ (0 : Int32) = 1) ∧ Q (some (mz_I 0)) μ7)
            else
              (((1 : Int32) = 0 ∨ (1 : Int32) = 1) ∧ Q (some (mz_I 1)) μ7))))))))
    else if (x0 : Int32) = nI 4 then
      (if (x1 : Int32) < (1 : Int32) then
        (((0 : Int32) = 0 ∨ (0 : Int32) = 1) ∧ Q (some (mz_I 0)) μ)
      else
        (((1 : Int32) = 0 ∨ (1 : Int32) = 1) ∧ Q (some (mz_I 1)) μ))
    else if (x0 : Int32) = nI 5 then
      (∃ (r10 : Int32) (μ9 : mz_M), C n_Mo_in [mz_L ((x1 : Int32).toInt64), mz_L 0, mz_L 8] μ (some (mz_I r10)) μ9 ∧
        (((r10 : Int32) = 0 ∨ (r10 : Int32) = 1) ∧ Q (some (mz_I r10)) μ9))
    else if (x0 : Int32) = nI 6 then
      (∃ (r12 : Int32) (μ11 : mz_M), C n_Mo_in [mz_L ((x1 : Int32).toInt64), mz_L ((-99)), mz_L 99] μ (some (mz_I r12)) μ11 ∧
        (((r12 : Int32) = 0 ∨ (r12 : Int32) = 1) ∧ Q (some (mz_I r12)) μ11))
    else (((0 : Int32) = 0 ∨ (0 : Int32) = 1) ∧ Q (some (mz_I 0)) μ)) :
  v_Mo_isChange C Q (0, [(0, mz_I x0), (1, mz_I x1)], [], μ) := mz_Ev.run [] 400 h
/-! EtaSeriesModel.changes(II)I, number 121 -/
abbrev v_Mo_changes (C : mz_Cl) (Q : Option mz_V → mz_M → Prop) : mz_S → Prop := mz_Ev es_SH tb_Mo_changes C Q
set_option maxRecDepth 20000 in
set_option maxHeartbeats 4000000 in
theorem w_Mo_changes_0 {C : mz_Cl} {Q : Option mz_V → mz_M → Prop} (p0 : Nat) (x1 : Int32) (x2 : Int32) (μ : mz_M) (h :
    if (x1 : Int32) = (4 : Int32) then
      (if (x1 : Int32) = (3 : Int32) then
        (¬ (10 : Int32) = 0 ∧ (v_Mo_changes C Q (32, [(0, mz_R 16 p0), (2, mz_I x2), (3, mz_I (x2 - x2 / 10 * 10))], [], mz_wI (mz_wI μ p0 6 x2) p0 6 0)))
      else
        (v_Mo_changes C Q (91, [(0, mz_R 16 p0), (1, mz_I x1), (2, mz_I x2), (3, mz_I 0)], [], mz_wI μ p0 6 x2)))
    else
      (if (x1 : Int32) = (3 : Int32) then
        (¬ (10 : Int32) = 0 ∧ (v_Mo_changes C Q (32, [(0, mz_R 16 p0), (2, mz_I x2), (3, mz_I (x2 - x2 / 10 * 10))], [], mz_wI (mz_wI μ p0 6 (μ.1 p0 2)) p0 6 0)))
      else
        (v_Mo_changes C Q (91, [(0, mz_R 16 p0), (1, mz_I x1), (2, mz_I x2), (3, mz_I 0)], [], mz_wI μ p0 6 (μ.1 p0 2))))) :
  v_Mo_changes C Q (0, [(0, mz_R 16 p0), (1, mz_I x1), (2, mz_I x2)], [], μ) := mz_Ev.run [32, 91] 400 h
set_option maxRecDepth 20000 in
set_option maxHeartbeats 4000000 in
theorem w_Mo_changes_32 {C : mz_Cl} {Q : Option mz_V → mz_M → Prop} (p0 : Nat) (x2 : Int32) (x3 : Int32) (μ : mz_M) (h :
    if (μ.1 p0 2 : Int32) ≤ (x3 : Int32) then
      (if (μ.1 p0 6 : Int32) = (0 : Int32) then
        (Q (some (mz_I ((-1000002)))) μ)
      else
        (Q (some (mz_I 0)) μ))
    else
      (vp_in x3 40 ∧ (vp_in (μ.1 p0 6) 40 ∧ (¬ (10 : Int32) = 0 ∧ (v_Mo_changes C Q (32, [(0, mz_R 16 p0), (2, mz_I x2), (3, mz_I (x3 + (x2 / 10)))], [], mz_wI (mz_wL μ 4 (μ.1 p0 6 : Int32).toNatClampNeg (μ.2 2 (x3 : Int32).toNatClampNeg)) p0 6 (((mz_wL μ 4 (μ.1 p0 6 : Int32).toNatClampNeg (μ.2 2 (x3 : Int32).toNatClampNeg)).1 p0 6) + 1))))))) :
  v_Mo_changes C Q (32, [(0, mz_R 16 p0), (2, mz_I x2), (3, mz_I x3)], [], μ) := mz_Ev.run [32, 91] 400 h
set_option maxRecDepth 20000 in
set_option maxHeartbeats 4000000 in
theorem w_Mo_changes_91 {C : mz_Cl} {Q : Option mz_V → mz_M → Prop} (p0 : Nat) (x1 : Int32) (x2 : Int32) (x3 : Int32) (μ : mz_M) (h :
    if (μ.1 p0 6 : Int32) ≤ (x3 : Int32) then
      (if (x1 : Int32) = (5 : Int32) then
        (∃ (r2 : Int32) (μ1 : mz_M), C n_Mo_powers [mz_R 16 p0, mz_I x2] μ (some (mz_I r2)) μ1 ∧
          (Q (some (mz_I r2)) μ1))
      else
        (∃ (r4 : Int32) (μ3 : mz_M), C n_Mo_wide [mz_R 16 p0] μ (some (mz_I r4)) μ3 ∧
          (Q (some (mz_I r4)) μ3)))
    else
      (if (x1 : Int32) = nI 0 then
        (if (x2 : Int32) ≤ (x3 : Int32) then
          (vp_in (x3 - x2) 40 ∧ (vp_in x3 40 ∧ (v_Mo_changes C Q (91, [(0, mz_R 16 p0), (1, mz_I x1), (2, mz_I x2), (3, mz_I (x3 + 1))], [], mz_wL μ 4 (x3 : Int32).toNatClampNeg (μ.2 2 (x3 - x2 : Int32).toNatClampNeg)))))
        else
          (vp_in x3 40 ∧ (v_Mo_changes C Q (91, [(0, mz_R 16 p0), (1, mz_I x1), (2, mz_I x2), (3, mz_I (x3 + 1))], [], mz_wL μ 4 (x3 : Int32).toNatClampNeg 0))))
      else if (x1 : Int32) = nI 1 then
        (¬ (x2 : Int32) = 0 ∧ (if (x3 - x3 / x2 * x2 : Int32) = (0 : Int32) then
          (¬ (x2 : Int32) = 0 ∧ (vp_in (x3 / x2) 40 ∧ (vp_in x3 40 ∧ (v_Mo_changes C Q (91, [(0, mz_R 16 p0), (1, mz_I x1), (2, mz_I x2), (3, mz_I (x3 + 1))], [], mz_wL μ 4 (x3 : Int32).toNatClampNeg (μ.2 2 (x3 / x2 : Int32).toNatClampNeg))))))
        else
          (vp_in x3 40 ∧ (v_Mo_changes C Q (91, [(0, mz_R 16 p0), (1, mz_I x1), (2, mz_I x2), (3, mz_I (x3 + 1))], [], mz_wL μ 4 (x3 : Int32).toNatClampNeg 0)))))
      else if (x1 : Int32) = nI 2 then
        (¬ (2 : Int32) = 0 ∧ (if (x3 - x3 / 2 * 2 : Int32) = (0 : Int32) then
          (vp_in x3 40 ∧ (vp_in x3 40 ∧ (v_Mo_changes C Q (91, [(0, mz_R 16 p0), (1, mz_I x1), (2, mz_I x2), (3, mz_I (x3 + 1))], [], mz_wL μ 4 (x3 : Int32).toNatClampNeg (μ.2 2 (x3 : Int32).toNatClampNeg)))))
        else
          (vp_in x3 40 ∧ (vp_in x3 40 ∧ (v_Mo_changes C Q (91, [(0, mz_R 16 p0), (1, mz_I x1), (2, mz_I x2), (3, mz_I (x3 + 1))], [], mz_wL μ 4 (x3 : Int32).toNatClampNeg (-(μ.2 2 (x3 : Int32).toNatClampNeg))))))))
      else if (x1 : Int32) = nI 3 then
        (vp_in x3 40 ∧ (vp_in x3 40 ∧ (v_Mo_changes C Q (91, [(0, mz_R 16 p0), (1, mz_I x1), (2, mz_I x2), (3, mz_I (x3 + 1))], [], mz_wL μ 4 (x3 : Int32).toNatClampNeg (μ.2 2 (x3 : Int32).toNatClampNeg)))))
      else if (x1 : Int32) = nI 4 then
        (vp_in x3 40 ∧ (vp_in x3 40 ∧ (v_Mo_changes C Q (91, [(0, mz_R 16 p0), (1, mz_I x1), (2, mz_I x2), (3, mz_I (x3 + 1))], [], mz_wL μ 4 (x3 : Int32).toNatClampNeg (μ.2 2 (x3 : Int32).toNatClampNeg)))))
      else if (x1 : Int32) = nI 5 then
        (vp_in x3 40 ∧ (vp_in x3 40 ∧ (v_Mo_changes C Q (91, [(0, mz_R 16 p0), (1, mz_I x1), (2, mz_I x2), (3, mz_I (x3 + 1))], [], mz_wL μ 4 (x3 : Int32).toNatClampNeg (μ.2 2 (x3 : Int32).toNatClampNeg)))))
      else if (x1 : Int32) = nI 6 then
        (vp_in x3 40 ∧ (vp_in x3 40 ∧ (v_Mo_changes C Q (91, [(0, mz_R 16 p0), (1, mz_I x1), (2, mz_I x2), (3, mz_I (x3 + 1))], [], mz_wL μ 4 (x3 : Int32).toNatClampNeg ((μ.2 2 (x3 : Int32).toNatClampNeg) * ((x2 : Int32).toInt64))))))
      else (vp_in x3 40 ∧ (vp_in x3 40 ∧ (v_Mo_changes C Q (91, [(0, mz_R 16 p0), (1, mz_I x1), (2, mz_I x2), (3, mz_I (x3 + 1))], [], mz_wL μ 4 (x3 : Int32).toNatClampNeg (μ.2 2 (x3 : Int32).toNatClampNeg))))))) :
  v_Mo_changes C Q (91, [(0, mz_R 16 p0), (1, mz_I x1), (2, mz_I x2), (3, mz_I x3)], [], μ) := mz_Ev.run [32, 91] 400 h
/-! EtaSeriesModel.change(III)I, number 122 -/
abbrev v_Mo_change (C : mz_Cl) (Q : Option mz_V → mz_M → Prop) : mz_S → Prop := mz_Ev es_SH tb_Mo_change C Q
set_option maxRecDepth 20000 in
set_option maxHeartbeats 4000000 in
theorem w_Mo_change_0 {C : mz_Cl} {Q : Option mz_V → mz_M → Prop} (p0 : Nat) (x1 : Int32) (x2 : Int32) (x3 : Int32) (μ : mz_M) (h :
    ∃ (r2 : Int32) (μ1 : mz_M), C n_Mo_isSeries [mz_I x1] μ (some (mz_I r2)) μ1 ∧
      (if (r2 : Int32) = (0 : Int32) then
        (Q (some (mz_I ((-1000001)))) μ1)
      else
        (∃ (r4 : Int32) (μ3 : mz_M), C n_Mo_isChange [mz_I x2, mz_I x3] μ1 (some (mz_I r4)) μ3 ∧
          (if (r4 : Int32) = (0 : Int32) then
            (Q (some (mz_I ((-1000001)))) μ3)
          else
            (∃ (r6 : Int32) (μ5 : mz_M), C n_Mo_many [mz_R 16 p0, mz_I x1] μ3 (some (mz_I r6)) μ5 ∧
              (if (r6 : Int32) = (0 : Int32) then
                (Q (some (mz_I ((-1000011)))) μ5)
              else
                (if (x2 : Int32) = (4 : Int32) then
                  (∃ (r8 : Int32) (μ7 : mz_M), C n_Mo_many [mz_R 16 p0, mz_I x1] μ5 (some (mz_I r8)) μ7 ∧
                    (if (x3 : Int32) ≤ (r8 : Int32) then
                      (∃ μ9, C n_Mo_takesOne [mz_R 16 p0, mz_I x1] μ7 none μ9 ∧
                        (∃ (r11 : Int32) (μ10 : mz_M), C n_Mo_changes [mz_R 16 p0, mz_I x2, mz_I x3] μ9 (some (mz_I r11)) μ10 ∧
                          (if (0 : Int32) ≤ (r11 : Int32) then
                            (∃ (r13 : Int32) (μ12 : mz_M), C n_Mo_keeps [mz_R 16 p0, mz_I x1] μ10 (some (mz_I r13)) μ12 ∧
                              (Q (some (mz_I r13)) μ12))
                          else
                            (Q (some (mz_I r11)) μ10))))
                    else
                      (Q (some (mz_I ((-1000001)))) μ7)))
                else
                  (∃ μ14, C n_Mo_takesOne [mz_R 16 p0, mz_I x1] μ5 none μ14 ∧
                    (∃ (r16 : Int32) (μ15 : mz_M), C n_Mo_changes [mz_R 16 p0, mz_I x2, mz_I x3] μ14 (some (mz_I r16)) μ15 ∧
                      (if (0 : Int32) ≤ (r16 : Int32) then
                        (∃ (r18 : Int32) (μ17 : mz_M), C n_Mo_keeps [mz_R 16 p0, mz_I x1] μ15 (some (mz_I r18)) μ17 ∧
                          (Q (some (mz_I r18)) μ17))
                      else
                        (Q (some (mz_I r16)) μ15))))))))))) :
  v_Mo_change C Q (0, [(0, mz_R 16 p0), (1, mz_I x1), (2, mz_I x2), (3, mz_I x3)], [], μ) := mz_Ev.run [] 400 h
/-! EtaSeriesModel.out(I)I, number 123 -/
abbrev v_Mo_out (C : mz_Cl) (Q : Option mz_V → mz_M → Prop) : mz_S → Prop := mz_Ev es_SH tb_Mo_out C Q
set_option maxRecDepth 20000 in
set_option maxHeartbeats 4000000 in
theorem w_Mo_out_0 {C : mz_Cl} {Q : Option mz_V → mz_M → Prop} (p0 : Nat) (x1 : Int32) (μ : mz_M) (h :
    ∃ (r2 : Int32) (μ1 : mz_M), C n_Mo_isSeries [mz_I x1] μ (some (mz_I r2)) μ1 ∧
      (if (r2 : Int32) = (0 : Int32) then
        (Q (some (mz_I ((-1000001)))) μ1)
      else
        (∃ (r4 : Int32) (μ3 : mz_M), C n_Mo_many [mz_R 16 p0, mz_I x1] μ1 (some (mz_I r4)) μ3 ∧
          (if (r4 : Int32) = (0 : Int32) then
            (Q (some (mz_I ((-1000011)))) μ3)
          else
            (∃ (r6 : Int32) (μ5 : mz_M), C n_Mo_keeps [mz_R 16 p0, mz_I x1] (mz_wI μ3 p0 6 0) (some (mz_I r6)) μ5 ∧
              (Q (some (mz_I r4)) μ5)))))) :
  v_Mo_out C Q (0, [(0, mz_R 16 p0), (1, mz_I x1)], [], μ) := mz_Ev.run [] 400 h
/-! EtaSeriesModel.length(I)I, number 124 -/
abbrev v_Mo_length (C : mz_Cl) (Q : Option mz_V → mz_M → Prop) : mz_S → Prop := mz_Ev es_SH tb_Mo_length C Q
set_option maxRecDepth 20000 in
set_option maxHeartbeats 4000000 in
theorem w_Mo_length_0 {C : mz_Cl} {Q : Option mz_V → mz_M → Prop} (p0 : Nat) (x1 : Int32) (μ : mz_M) (h :
    ∃ (r2 : Int32) (μ1 : mz_M), C n_Mo_in [mz_L ((x1 : Int32).toInt64), mz_L 4, mz_L 40] μ (some (mz_I r2)) μ1 ∧
      (if (r2 : Int32) = (0 : Int32) then
        (Q (some (mz_I ((-1000001)))) μ1)
      else
        (vp_in 0 166 ∧ (if (μ1.1 1 (0 : Int32).toNatClampNeg : Int32) = (x1 : Int32) then
          (Q (some (mz_I ((-1000002)))) μ1)
        else
          (∃ μ3, C n_Mo_notes [mz_R 16 p0] μ1 none μ3 ∧
            (vp_in 0 166 ∧ (Q (some (mz_I (μ1.1 1 (0 : Int32).toNatClampNeg))) (mz_wI μ3 1 (0 : Int32).toNatClampNeg x1)))))))) :
  v_Mo_length C Q (0, [(0, mz_R 16 p0), (1, mz_I x1)], [], μ) := mz_Ev.run [] 400 h
/-! EtaSeriesModel.there()I, number 125 -/
abbrev v_Mo_there (C : mz_Cl) (Q : Option mz_V → mz_M → Prop) : mz_S → Prop := mz_Ev es_SH tb_Mo_there C Q
set_option maxRecDepth 20000 in
set_option maxHeartbeats 4000000 in
theorem w_Mo_there_0 {C : mz_Cl} {Q : Option mz_V → mz_M → Prop} (p0 : Nat) (μ : mz_M) (h :
    v_Mo_there C Q (4, [(0, mz_R 16 p0), (1, mz_I 0), (2, mz_I 0)], [], μ)) :
  v_Mo_there C Q (0, [(0, mz_R 16 p0)], [], μ) := mz_Ev.run [4] 400 h
set_option maxRecDepth 20000 in
set_option maxHeartbeats 4000000 in
theorem w_Mo_there_4 {C : mz_Cl} {Q : Option mz_V → mz_M → Prop} (p0 : Nat) (x1 : Int32) (x2 : Int32) (μ : mz_M) (h :
    if (4 : Int32) ≤ (x2 : Int32) then
      (Q (some (mz_I x1)) μ)
    else
      (∃ (r2 : Int32) (μ1 : mz_M), C n_Mo_many [mz_R 16 p0, mz_I x2] μ (some (mz_I r2)) μ1 ∧
        (if (r2 : Int32) ≤ (0 : Int32) then
          (v_Mo_there C Q (4, [(0, mz_R 16 p0), (1, mz_I (x1 ||| 0)), (2, mz_I (x2 + 1))], [], μ1))
        else
          (v_Mo_there C Q (4, [(0, mz_R 16 p0), (1, mz_I (x1 ||| (1 <<< (x2 &&& 31)))), (2, mz_I (x2 + 1))], [], μ1))))) :
  v_Mo_there C Q (4, [(0, mz_R 16 p0), (1, mz_I x1), (2, mz_I x2)], [], μ) := mz_Ev.run [4] 400 h
/-! EtaSeriesModel.drift(I)I, number 126 -/
abbrev v_Mo_drift (C : mz_Cl) (Q : Option mz_V → mz_M → Prop) : mz_S → Prop := mz_Ev es_SH tb_Mo_drift C Q
set_option maxRecDepth 20000 in
set_option maxHeartbeats 4000000 in
theorem w_Mo_drift_0 {C : mz_Cl} {Q : Option mz_V → mz_M → Prop} (p0 : Nat) (x1 : Int32) (μ : mz_M) (h :
    ∃ (r2 : Int32) (μ1 : mz_M), C n_Mo_in [mz_L ((x1 : Int32).toInt64), mz_L 1, mz_L 40] μ (some (mz_I r2)) μ1 ∧
      (if (r2 : Int32) = (0 : Int32) then
        (Q (some (mz_I ((-1000001)))) μ1)
      else
        (v_Mo_drift C Q (17, [(0, mz_R 16 p0), (1, mz_I x1), (2, mz_I 0)], [], μ1)))) :
  v_Mo_drift C Q (0, [(0, mz_R 16 p0), (1, mz_I x1)], [], μ) := mz_Ev.run [17] 400 h
set_option maxRecDepth 20000 in
set_option maxHeartbeats 4000000 in
theorem w_Mo_drift_17 {C : mz_Cl} {Q : Option mz_V → mz_M → Prop} (p0 : Nat) (x1 : Int32) (x2 : Int32) (μ : mz_M) (h :
    if (x1 : Int32) ≤ (x2 : Int32) then
      (∃ (r2 : Int32) (μ1 : mz_M), C n_Mo_there [mz_R 16 p0] μ (some (mz_I r2)) μ1 ∧
        (Q (some (mz_I r2)) μ1))
    else
      (vp_in 1 166 ∧ (¬ (2147483648 : Int64) = 0 ∧ (¬ (65536 : Int64) = 0 ∧ (¬ (4 : Int32) = 0 ∧ (¬ (3 : Int32) = 0 ∧ (¬ (16 : Int32) = 0 ∧ (¬ (9 : Int32) = 0 ∧ (vp_in 0 166 ∧ (∃ μ3, C n_Mo_makes [mz_R 16 p0, mz_I (1 + (((((((((μ.1 1 (1 : Int32).toNatClampNeg : Int32).toInt64) * 1103515245) + 12345) - ((((μ.1 1 (1 : Int32).toNatClampNeg : Int32).toInt64) * 1103515245) + 12345) / 2147483648 * 2147483648) / 65536 : Int64).toInt32) / 4) - ((((((((μ.1 1 (1 : Int32).toNatClampNeg : Int32).toInt64) * 1103515245) + 12345) - ((((μ.1 1 (1 : Int32).toNatClampNeg : Int32).toInt64) * 1103515245) + 12345) / 2147483648 * 2147483648) / 65536 : Int64).toInt32) / 4) / 3 * 3)), mz_I (1 + (((((((((μ.1 1 (1 : Int32).toNatClampNeg : Int32).toInt64) * 1103515245) + 12345) - ((((μ.1 1 (1 : Int32).toNatClampNeg : Int32).toInt64) * 1103515245) + 12345) / 2147483648 * 2147483648) / 65536 : Int64).toInt32) / 16) - ((((((((μ.1 1 (1 : Int32).toNatClampNeg : Int32).toInt64) * 1103515245) + 12345) - ((((μ.1 1 (1 : Int32).toNatClampNeg : Int32).toInt64) * 1103515245) + 12345) / 2147483648 * 2147483648) / 65536 : Int64).toInt32) / 16) / 9 * 9)), mz_I (μ.1 1 (0 : Int32).toNatClampNeg)] μ none μ3 ∧
        (¬ (4 : Int32) = 0 ∧ (∃ (r5 : Int32) (μ4 : mz_M), C n_Mo_keeps [mz_R 16 p0, mz_I ((((((((μ.1 1 (1 : Int32).toNatClampNeg : Int32).toInt64) * 1103515245) + 12345) - ((((μ.1 1 (1 : Int32).toNatClampNeg : Int32).toInt64) * 1103515245) + 12345) / 2147483648 * 2147483648) / 65536 : Int64).toInt32) - (((((((μ.1 1 (1 : Int32).toNatClampNeg : Int32).toInt64) * 1103515245) + 12345) - ((((μ.1 1 (1 : Int32).toNatClampNeg : Int32).toInt64) * 1103515245) + 12345) / 2147483648 * 2147483648) / 65536 : Int64).toInt32) / 4 * 4)] μ3 (some (mz_I r5)) μ4 ∧
          (vp_in 1 166 ∧ (v_Mo_drift C Q (17, [(0, mz_R 16 p0), (1, mz_I x1), (2, mz_I (x2 + 1))], [], mz_wI μ4 1 (1 : Int32).toNatClampNeg ((((((μ.1 1 (1 : Int32).toNatClampNeg : Int32).toInt64) * 1103515245) + 12345) - ((((μ.1 1 (1 : Int32).toNatClampNeg : Int32).toInt64) * 1103515245) + 12345) / 2147483648 * 2147483648 : Int64).toInt32)))))))))))))))) :
  v_Mo_drift C Q (17, [(0, mz_R 16 p0), (1, mz_I x1), (2, mz_I x2)], [], μ) := mz_Ev.run [17] 400 h
/-! EtaSeriesModel.notes()V, number 127 -/
abbrev v_Mo_notes (C : mz_Cl) (Q : Option mz_V → mz_M → Prop) : mz_S → Prop := mz_Ev es_SH tb_Mo_notes C Q
set_option maxRecDepth 20000 in
set_option maxHeartbeats 4000000 in
theorem w_Mo_notes_0 {C : mz_Cl} {Q : Option mz_V → mz_M → Prop} (p0 : Nat) (μ : mz_M) (h :
    if (μ.1 p0 8 : Int32) = (6 : Int32) then
      (v_Mo_notes C Q (13, [(0, mz_R 16 p0), (1, mz_I 166)], [], μ))
    else
      (v_Mo_notes C Q (49, [(0, mz_R 16 p0), (1, mz_I 0)], [], μ))) :
  v_Mo_notes C Q (0, [(0, mz_R 16 p0)], [], μ) := mz_Ev.run [13, 49] 400 h
set_option maxRecDepth 20000 in
set_option maxHeartbeats 4000000 in
theorem w_Mo_notes_13 {C : mz_Cl} {Q : Option mz_V → mz_M → Prop} (p0 : Nat) (x1 : Int32) (μ : mz_M) (h :
    if (996 : Int32) ≤ (x1 : Int32) then
      (v_Mo_notes C Q (49, [(0, mz_R 16 p0), (1, mz_I 0)], [], mz_wI μ p0 8 5))
    else
      (vp_in x1 996 ∧ (vp_in (x1 - 166) 996 ∧ (v_Mo_notes C Q (13, [(0, mz_R 16 p0), (1, mz_I (x1 + 1))], [], mz_wI μ 5 (x1 - 166 : Int32).toNatClampNeg (μ.1 5 (x1 : Int32).toNatClampNeg)))))) :
  v_Mo_notes C Q (13, [(0, mz_R 16 p0), (1, mz_I x1)], [], μ) := mz_Ev.run [13, 49] 400 h
set_option maxRecDepth 20000 in
set_option maxHeartbeats 4000000 in
theorem w_Mo_notes_49 {C : mz_Cl} {Q : Option mz_V → mz_M → Prop} (p0 : Nat) (x1 : Int32) (μ : mz_M) (h :
    if (166 : Int32) ≤ (x1 : Int32) then
      (Q none (mz_wI μ p0 8 ((μ.1 p0 8) + 1)))
    else
      (vp_in x1 166 ∧ (vp_in ((166 * (μ.1 p0 8)) + x1) 996 ∧ (v_Mo_notes C Q (49, [(0, mz_R 16 p0), (1, mz_I (x1 + 1))], [], mz_wI μ 5 ((166 * (μ.1 p0 8)) + x1 : Int32).toNatClampNeg (μ.1 1 (x1 : Int32).toNatClampNeg)))))) :
  v_Mo_notes C Q (49, [(0, mz_R 16 p0), (1, mz_I x1)], [], μ) := mz_Ev.run [13, 49] 400 h
/-! EtaSeriesModel.undo()I, number 128 -/
abbrev v_Mo_undo (C : mz_Cl) (Q : Option mz_V → mz_M → Prop) : mz_S → Prop := mz_Ev es_SH tb_Mo_undo C Q
set_option maxRecDepth 20000 in
set_option maxHeartbeats 4000000 in
theorem w_Mo_undo_0 {C : mz_Cl} {Q : Option mz_V → mz_M → Prop} (p0 : Nat) (μ : mz_M) (h :
    if (μ.1 p0 8 : Int32) = (0 : Int32) then
      (Q (some (mz_I ((-1000004)))) μ)
    else
      (v_Mo_undo C Q (22, [(0, mz_R 16 p0), (1, mz_I 0)], [], mz_wI μ p0 8 ((μ.1 p0 8) - 1)))) :
  v_Mo_undo C Q (0, [(0, mz_R 16 p0)], [], μ) := mz_Ev.run [22] 400 h
set_option maxRecDepth 20000 in
set_option maxHeartbeats 4000000 in
theorem w_Mo_undo_22 {C : mz_Cl} {Q : Option mz_V → mz_M → Prop} (p0 : Nat) (x1 : Int32) (μ : mz_M) (h :
    if (166 : Int32) ≤ (x1 : Int32) then
      (Q (some (mz_I (μ.1 p0 8))) μ)
    else
      (vp_in ((166 * (μ.1 p0 8)) + x1) 996 ∧ (vp_in x1 166 ∧ (v_Mo_undo C Q (22, [(0, mz_R 16 p0), (1, mz_I (x1 + 1))], [], mz_wI μ 1 (x1 : Int32).toNatClampNeg (μ.1 5 ((166 * (μ.1 p0 8)) + x1 : Int32).toNatClampNeg)))))) :
  v_Mo_undo C Q (22, [(0, mz_R 16 p0), (1, mz_I x1)], [], μ) := mz_Ev.run [22] 400 h
/-! EtaSeriesModel.seed(I)I, number 129 -/
abbrev v_Mo_seed (C : mz_Cl) (Q : Option mz_V → mz_M → Prop) : mz_S → Prop := mz_Ev es_SH tb_Mo_seed C Q
set_option maxRecDepth 20000 in
set_option maxHeartbeats 4000000 in
theorem w_Mo_seed_0 {C : mz_Cl} {Q : Option mz_V → mz_M → Prop} (p0 : Nat) (x1 : Int32) (μ : mz_M) (h :
    if (0 : Int32) ≤ (x1 : Int32) then
      (vp_in 1 166 ∧ (vp_in 1 166 ∧ (Q (some (mz_I (μ.1 1 (1 : Int32).toNatClampNeg))) (mz_wI μ 1 (1 : Int32).toNatClampNeg x1))))
    else
      (Q (some (mz_I ((-1000001)))) μ)) :
  v_Mo_seed C Q (0, [(0, mz_R 16 p0), (1, mz_I x1)], [], μ) := mz_Ev.run [] 400 h
/-! EtaSeriesModel.term(II)I, number 130 -/
abbrev v_Mo_term (C : mz_Cl) (Q : Option mz_V → mz_M → Prop) : mz_S → Prop := mz_Ev es_SH tb_Mo_term C Q
set_option maxRecDepth 20000 in
set_option maxHeartbeats 4000000 in
theorem w_Mo_term_0 {C : mz_Cl} {Q : Option mz_V → mz_M → Prop} (p0 : Nat) (x1 : Int32) (x2 : Int32) (μ : mz_M) (h :
    ∃ (r2 : Int32) (μ1 : mz_M), C n_Mo_isSeries [mz_I x1] μ (some (mz_I r2)) μ1 ∧
      (if (r2 : Int32) = (0 : Int32) then
        (Q (some (mz_I ((-1000001)))) μ1)
      else
        (if (0 : Int32) ≤ (x2 : Int32) then
          (∃ (r4 : Int32) (μ3 : mz_M), C n_Mo_many [mz_R 16 p0, mz_I x1] μ1 (some (mz_I r4)) μ3 ∧
            (if (r4 : Int32) = (0 : Int32) then
              (Q (some (mz_I ((-1000011)))) μ3)
            else
              (∃ (r6 : Int32) (μ5 : mz_M), C n_Mo_many [mz_R 16 p0, mz_I x1] μ3 (some (mz_I r6)) μ5 ∧
                (if (r6 : Int32) ≤ (x2 : Int32) then
                  (Q (some (mz_I ((-1000001)))) μ5)
                else
                  (∃ (r8 : Int32) (μ7 : mz_M), C n_Mo_termOf [mz_R 16 p0, mz_I x1, mz_I x2] μ5 (some (mz_I r8)) μ7 ∧
                    (Q (some (mz_I r8)) μ7))))))
        else
          (Q (some (mz_I ((-1000001)))) μ1)))) :
  v_Mo_term C Q (0, [(0, mz_R 16 p0), (1, mz_I x1), (2, mz_I x2)], [], μ) := mz_Ev.run [] 400 h
/-! EtaSeriesModel.count(I)I, number 131 -/
abbrev v_Mo_count (C : mz_Cl) (Q : Option mz_V → mz_M → Prop) : mz_S → Prop := mz_Ev es_SH tb_Mo_count C Q
set_option maxRecDepth 20000 in
set_option maxHeartbeats 4000000 in
theorem w_Mo_count_0 {C : mz_Cl} {Q : Option mz_V → mz_M → Prop} (p0 : Nat) (x1 : Int32) (μ : mz_M) (h :
    if (x1 : Int32) = nI 0 then
      (vp_in 0 166 ∧ (Q (some (mz_I (μ.1 1 (0 : Int32).toNatClampNeg))) μ))
    else if (x1 : Int32) = nI 1 then
      (∃ (r2 : Int32) (μ1 : mz_M), C n_Mo_there [mz_R 16 p0] μ (some (mz_I r2)) μ1 ∧
        (Q (some (mz_I r2)) μ1))
    else if (x1 : Int32) = nI 2 then
      (∃ (r4 : Int32) (μ3 : mz_M), C n_Mo_many [mz_R 16 p0, mz_I (x1 - 2)] μ (some (mz_I r4)) μ3 ∧
        (Q (some (mz_I r4)) μ3))
    else if (x1 : Int32) = nI 3 then
      (∃ (r6 : Int32) (μ5 : mz_M), C n_Mo_many [mz_R 16 p0, mz_I (x1 - 2)] μ (some (mz_I r6)) μ5 ∧
        (Q (some (mz_I r6)) μ5))
    else if (x1 : Int32) = nI 4 then
      (∃ (r8 : Int32) (μ7 : mz_M), C n_Mo_many [mz_R 16 p0, mz_I (x1 - 2)] μ (some (mz_I r8)) μ7 ∧
        (Q (some (mz_I r8)) μ7))
    else if (x1 : Int32) = nI 5 then
      (∃ (r10 : Int32) (μ9 : mz_M), C n_Mo_many [mz_R 16 p0, mz_I (x1 - 2)] μ (some (mz_I r10)) μ9 ∧
        (Q (some (mz_I r10)) μ9))
    else if (x1 : Int32) = nI 6 then
      (Q (some (mz_I (μ.1 p0 12))) μ)
    else if (x1 : Int32) = nI 7 then
      (Q (some (mz_I (μ.1 p0 13))) μ)
    else if (x1 : Int32) = nI 8 then
      (Q (some (mz_I (μ.1 p0 8))) μ)
    else (Q (some (mz_I ((-1000001)))) μ)) :
  v_Mo_count C Q (0, [(0, mz_R 16 p0), (1, mz_I x1)], [], μ) := mz_Ev.run [] 400 h
/-! EtaSeriesModel.type(I)I, number 132 -/
abbrev v_Mo_type (C : mz_Cl) (Q : Option mz_V → mz_M → Prop) : mz_S → Prop := mz_Ev es_SH tb_Mo_type C Q
set_option maxRecDepth 20000 in
set_option maxHeartbeats 4000000 in
theorem w_Mo_type_0 {C : mz_Cl} {Q : Option mz_V → mz_M → Prop} (p0 : Nat) (x1 : Int32) (μ : mz_M) (h :
    ∃ (r2 : Int32) (μ1 : mz_M), C n_Mo_in [mz_L ((x1 : Int32).toInt64), mz_L 32, mz_L 126] μ (some (mz_I r2)) μ1 ∧
      (if (r2 : Int32) = (0 : Int32) then
        (Q (some (mz_I ((-1000001)))) μ1)
      else
        (if (μ1.1 p0 10 : Int32) = (60 : Int32) then
          (Q (some (mz_I ((-1000003)))) μ1)
        else
          (vp_in (μ1.1 p0 10) 60 ∧ (Q (some (mz_I ((mz_wI (mz_wI μ1 6 (μ1.1 p0 10 : Int32).toNatClampNeg x1) p0 10 (((mz_wI μ1 6 (μ1.1 p0 10 : Int32).toNatClampNeg x1).1 p0 10) + 1)).1 p0 10))) (mz_wI (mz_wI μ1 6 (μ1.1 p0 10 : Int32).toNatClampNeg x1) p0 10 (((mz_wI μ1 6 (μ1.1 p0 10 : Int32).toNatClampNeg x1).1 p0 10) + 1))))))) :
  v_Mo_type C Q (0, [(0, mz_R 16 p0), (1, mz_I x1)], [], μ) := mz_Ev.run [] 400 h
/-! EtaSeriesModel.here()I, number 133 -/
abbrev v_Mo_here (C : mz_Cl) (Q : Option mz_V → mz_M → Prop) : mz_S → Prop := mz_Ev es_SH tb_Mo_here C Q
set_option maxRecDepth 20000 in
set_option maxHeartbeats 4000000 in
theorem w_Mo_here_0 {C : mz_Cl} {Q : Option mz_V → mz_M → Prop} (p0 : Nat) (μ : mz_M) (h :
    if (μ.1 p0 10 : Int32) ≤ (μ.1 p0 11 : Int32) then
      (if (μ.1 p0 10 : Int32) ≤ (μ.1 p0 11 : Int32) then
        (Q (some (mz_I 0)) μ)
      else
        (vp_in (μ.1 p0 11) 60 ∧ (Q (some (mz_I (μ.1 6 (μ.1 p0 11 : Int32).toNatClampNeg))) μ)))
    else
      (vp_in (μ.1 p0 11) 60 ∧ (if (μ.1 6 (μ.1 p0 11 : Int32).toNatClampNeg : Int32) = (32 : Int32) then
        (v_Mo_here C Q (0, [(0, mz_R 16 p0)], [], mz_wI μ p0 11 ((μ.1 p0 11) + 1)))
      else
        (if (μ.1 p0 10 : Int32) ≤ (μ.1 p0 11 : Int32) then
          (Q (some (mz_I 0)) μ)
        else
          (vp_in (μ.1 p0 11) 60 ∧ (Q (some (mz_I (μ.1 6 (μ.1 p0 11 : Int32).toNatClampNeg))) μ)))))) :
  v_Mo_here C Q (0, [(0, mz_R 16 p0)], [], μ) := mz_Ev.run [0] 400 h
/-! EtaSeriesModel.has(I)Z, number 134 -/
abbrev v_Mo_has (C : mz_Cl) (Q : Option mz_V → mz_M → Prop) : mz_S → Prop := mz_Ev es_SH tb_Mo_has C Q
set_option maxRecDepth 20000 in
set_option maxHeartbeats 4000000 in
theorem w_Mo_has_0 {C : mz_Cl} {Q : Option mz_V → mz_M → Prop} (p0 : Nat) (x1 : Int32) (μ : mz_M) (h :
    ∃ (r2 : Int32) (μ1 : mz_M), C n_Mo_here [mz_R 16 p0] μ (some (mz_I r2)) μ1 ∧
      (if (r2 : Int32) = (x1 : Int32) then
        (((1 : Int32) = 0 ∨ (1 : Int32) = 1) ∧ Q (some (mz_I 1)) (mz_wI μ1 p0 11 ((μ1.1 p0 11) + 1)))
      else
        (((0 : Int32) = 0 ∨ (0 : Int32) = 1) ∧ Q (some (mz_I 0)) μ1))) :
  v_Mo_has C Q (0, [(0, mz_R 16 p0), (1, mz_I x1)], [], μ) := mz_Ev.run [] 400 h
/-! EtaSeriesModel.number()I, number 135 -/
abbrev v_Mo_number (C : mz_Cl) (Q : Option mz_V → mz_M → Prop) : mz_S → Prop := mz_Ev es_SH tb_Mo_number C Q
set_option maxRecDepth 20000 in
set_option maxHeartbeats 4000000 in
theorem w_Mo_number_0 {C : mz_Cl} {Q : Option mz_V → mz_M → Prop} (p0 : Nat) (μ : mz_M) (h :
    ∃ (r2 : Int32) (μ1 : mz_M), C n_Mo_here [mz_R 16 p0] μ (some (mz_I r2)) μ1 ∧
      (∃ (r4 : Int32) (μ3 : mz_M), C n_Mo_in [mz_L ((r2 : Int32).toInt64), mz_L 48, mz_L 57] μ1 (some (mz_I r4)) μ3 ∧
        (if (r4 : Int32) = (0 : Int32) then
          (Q (some (mz_I ((-1)))) μ3)
        else
          (vp_in (μ3.1 p0 11) 60 ∧ (if ((mz_wI μ3 p0 11 ((μ3.1 p0 11) + 1)).1 p0 10 : Int32) ≤ ((mz_wI μ3 p0 11 ((μ3.1 p0 11) + 1)).1 p0 11 : Int32) then
            (Q (some (mz_I ((μ3.1 6 (μ3.1 p0 11 : Int32).toNatClampNeg) - 48))) (mz_wI μ3 p0 11 ((μ3.1 p0 11) + 1)))
          else
            (vp_in ((mz_wI μ3 p0 11 ((μ3.1 p0 11) + 1)).1 p0 11) 60 ∧ (∃ (r6 : Int32) (μ5 : mz_M), C n_Mo_in [mz_L (((mz_wI μ3 p0 11 ((μ3.1 p0 11) + 1)).1 6 ((mz_wI μ3 p0 11 ((μ3.1 p0 11) + 1)).1 p0 11 : Int32).toNatClampNeg : Int32).toInt64), mz_L 48, mz_L 57] (mz_wI μ3 p0 11 ((μ3.1 p0 11) + 1)) (some (mz_I r6)) μ5 ∧
              (if (r6 : Int32) = (0 : Int32) then
                (Q (some (mz_I ((μ3.1 6 (μ3.1 p0 11 : Int32).toNatClampNeg) - 48))) μ5)
              else
                (vp_in (μ5.1 p0 11) 60 ∧ (Q (some (mz_I (((10 * ((μ3.1 6 (μ3.1 p0 11 : Int32).toNatClampNeg) - 48)) + (μ5.1 6 (μ5.1 p0 11 : Int32).toNatClampNeg)) - 48))) (mz_wI μ5 p0 11 ((μ5.1 p0 11) + 1)))))))))))) :
  v_Mo_number C Q (0, [(0, mz_R 16 p0)], [], μ) := mz_Ev.run [] 400 h
/-! EtaSeriesModel.kindOf(I)I, number 136 -/
abbrev v_Mo_kindOf (C : mz_Cl) (Q : Option mz_V → mz_M → Prop) : mz_S → Prop := mz_Ev es_SH tb_Mo_kindOf C Q
set_option maxRecDepth 20000 in
set_option maxHeartbeats 4000000 in
theorem w_Mo_kindOf_0 {C : mz_Cl} {Q : Option mz_V → mz_M → Prop} (x0 : Int32) (μ : mz_M) (h :
    if (x0 : Int32) = (116 : Int32) then
      (Q (some (mz_I 1)) μ)
    else
      (if (x0 : Int32) = (115 : Int32) then
        (Q (some (mz_I 2)) μ)
      else
        (if (x0 : Int32) = (101 : Int32) then
          (Q (some (mz_I 3)) μ)
        else
          (if (x0 : Int32) = (113 : Int32) then
            (Q (some (mz_I 4)) μ)
          else
            (Q (some (mz_I ((-1)))) μ))))) :
  v_Mo_kindOf C Q (0, [(0, mz_I x0)], [], μ) := mz_Ev.run [] 400 h
/-! EtaSeriesModel.readsAtom()Z, number 137 -/
abbrev v_Mo_readsAtom (C : mz_Cl) (Q : Option mz_V → mz_M → Prop) : mz_S → Prop := mz_Ev es_SH tb_Mo_readsAtom C Q
set_option maxRecDepth 20000 in
set_option maxHeartbeats 4000000 in
theorem w_Mo_readsAtom_0 {C : mz_Cl} {Q : Option mz_V → mz_M → Prop} (p0 : Nat) (μ : mz_M) (h :
    ∃ (r2 : Int32) (μ1 : mz_M), C n_Mo_here [mz_R 16 p0] μ (some (mz_I r2)) μ1 ∧
      (∃ (r4 : Int32) (μ3 : mz_M), C n_Mo_kindOf [mz_I r2] μ1 (some (mz_I r4)) μ3 ∧
        (if (0 : Int32) ≤ ((mz_wI μ3 p0 14 r4).1 p0 14 : Int32) then
          (∃ (r6 : Int32) (μ5 : mz_M), C n_Mo_has [mz_R 16 p0, mz_I 40] (mz_wI (mz_wI μ3 p0 14 r4) p0 11 (((mz_wI μ3 p0 14 r4).1 p0 11) + 1)) (some (mz_I r6)) μ5 ∧
            (if (r6 : Int32) = (0 : Int32) then
              (((0 : Int32) = 0 ∨ (0 : Int32) = 1) ∧ Q (some (mz_I 0)) μ5)
            else
              (∃ (r8 : Int32) (μ7 : mz_M), C n_Mo_here [mz_R 16 p0] μ5 (some (mz_I r8)) μ7 ∧
                (∃ (r10 : Int32) (μ9 : mz_M), C n_Mo_in [mz_L ((r8 : Int32).toInt64), mz_L 48, mz_L 57] μ7 (some (mz_I r10)) μ9 ∧
                  (if (r10 : Int32) = (0 : Int32) then
                    (∃ (r12 : Int32) (μ11 : mz_M), C n_Mo_isKind [mz_I ((mz_wI μ9 p0 15 ((-1))).1 p0 14), mz_I ((mz_wI μ9 p0 15 ((-1))).1 p0 15)] (mz_wI μ9 p0 15 ((-1))) (some (mz_I r12)) μ11 ∧
                      (if (r12 : Int32) = (0 : Int32) then
                        (((0 : Int32) = 0 ∨ (0 : Int32) = 1) ∧ Q (some (mz_I 0)) (mz_wI μ11 p0 11 (μ9.1 p0 11)))
                      else
                        (∃ (r14 : Int32) (μ13 : mz_M), C n_Mo_has [mz_R 16 p0, mz_I 41] μ11 (some (mz_I r14)) μ13 ∧
                          (((r14 : Int32) = 0 ∨ (r14 : Int32) = 1) ∧ Q (some (mz_I r14)) μ13))))
                  else
                    (∃ (r16 : Int32) (μ15 : mz_M), C n_Mo_number [mz_R 16 p0] μ9 (some (mz_I r16)) μ15 ∧
                      (∃ (r18 : Int32) (μ17 : mz_M), C n_Mo_isKind [mz_I ((mz_wI μ15 p0 15 r16).1 p0 14), mz_I ((mz_wI μ15 p0 15 r16).1 p0 15)] (mz_wI μ15 p0 15 r16) (some (mz_I r18)) μ17 ∧
                        (if (r18 : Int32) = (0 : Int32) then
                          (((0 : Int32) = 0 ∨ (0 : Int32) = 1) ∧ Q (some (mz_I 0)) (mz_wI μ17 p0 11 (μ9.1 p0 11)))
                        else
                          (∃ (r20 : Int32) (μ19 : mz_M), C n_Mo_has [mz_R 16 p0, mz_I 41] μ17 (some (mz_I r20)) μ19 ∧
                            (((r20 : Int32) = 0 ∨ (r20 : Int32) = 1) ∧ Q (some (mz_I r20)) μ19))))))))))
        else
          (∃ (r22 : Int32) (μ21 : mz_M), C n_Mo_number [mz_R 16 p0] (mz_wI (mz_wI μ3 p0 14 r4) p0 14 0) (some (mz_I r22)) μ21 ∧
            (if ((mz_wI μ21 p0 15 r22).1 p0 15 : Int32) < (0 : Int32) then
              (((0 : Int32) = 0 ∨ (0 : Int32) = 1) ∧ Q (some (mz_I 0)) (mz_wI μ21 p0 15 r22))
            else
              (((1 : Int32) = 0 ∨ (1 : Int32) = 1) ∧ Q (some (mz_I 1)) (mz_wI μ21 p0 15 r22))))))) :
  v_Mo_readsAtom C Q (0, [(0, mz_R 16 p0)], [], μ) := mz_Ev.run [] 400 h
/-! EtaSeriesModel.isText()Z, number 138 -/
abbrev v_Mo_isText (C : mz_Cl) (Q : Option mz_V → mz_M → Prop) : mz_S → Prop := mz_Ev es_SH tb_Mo_isText C Q
set_option maxRecDepth 20000 in
set_option maxHeartbeats 4000000 in
theorem w_Mo_isText_0 {C : mz_Cl} {Q : Option mz_V → mz_M → Prop} (p0 : Nat) (μ : mz_M) (h :
    v_Mo_isText C Q (14, [(0, mz_R 16 p0), (1, mz_I 0), (2, mz_I 1), (3, mz_I 0), (4, mz_I 1)], [], mz_wI μ p0 11 0)) :
  v_Mo_isText C Q (0, [(0, mz_R 16 p0)], [], μ) := mz_Ev.run [14, 30, 69, 162, 191, 250] 400 h
set_option maxRecDepth 20000 in
set_option maxHeartbeats 4000000 in
theorem w_Mo_isText_14 {C : mz_Cl} {Q : Option mz_V → mz_M → Prop} (p0 : Nat) (x1 : Int32) (x2 : Int32) (x3 : Int32) (x4 : Int32) (μ : mz_M) (h :
    if (x4 : Int32) = (0 : Int32) then
      (v_Mo_isText C Q (250, [(1, mz_I x1), (4, mz_I x4)], [], μ))
    else
      (if (x2 : Int32) = (0 : Int32) then
        (∃ (r2 : Int32) (μ1 : mz_M), C n_Mo_here [mz_R 16 p0] μ (some (mz_I r2)) μ1 ∧
          (if (r2 : Int32) = (0 : Int32) then
            (v_Mo_isText C Q (250, [(1, mz_I x1), (4, mz_I x4)], [], μ1))
          else
            (v_Mo_isText C Q (30, [(0, mz_R 16 p0), (1, mz_I x1), (2, mz_I x2), (3, mz_I x3), (4, mz_I x4)], [], μ1))))
      else
        (v_Mo_isText C Q (30, [(0, mz_R 16 p0), (1, mz_I x1), (2, mz_I x2), (3, mz_I x3), (4, mz_I x4)], [], μ)))) :
  v_Mo_isText C Q (14, [(0, mz_R 16 p0), (1, mz_I x1), (2, mz_I x2), (3, mz_I x3), (4, mz_I x4)], [], μ) := mz_Ev.run [14, 30, 69, 162, 191, 250] 400 h
set_option maxRecDepth 20000 in
set_option maxHeartbeats 4000000 in
theorem w_Mo_isText_30 {C : mz_Cl} {Q : Option mz_V → mz_M → Prop} (p0 : Nat) (x1 : Int32) (x2 : Int32) (x3 : Int32) (x4 : Int32) (μ : mz_M) (h :
    ∃ (r2 : Int32) (μ1 : mz_M), C n_Mo_here [mz_R 16 p0] μ (some (mz_I r2)) μ1 ∧
      (if (x2 : Int32) = (0 : Int32) then
        (v_Mo_isText C Q (69, [(0, mz_R 16 p0), (1, mz_I x1), (2, mz_I x2), (3, mz_I x3), (4, mz_I x4), (5, mz_I r2)], [], μ1))
      else
        (if (r2 : Int32) = (40 : Int32) then
          (if (6 : Int32) ≤ (x1 : Int32) then
            (v_Mo_isText C Q (69, [(0, mz_R 16 p0), (1, mz_I x1), (2, mz_I x2), (3, mz_I x3), (4, mz_I x4), (5, mz_I r2)], [], μ1))
          else
            (v_Mo_isText C Q (14, [(0, mz_R 16 p0), (1, mz_I (x1 + 1)), (2, mz_I x2), (3, mz_I x3), (4, mz_I x4)], [], mz_wI μ1 p0 11 ((μ1.1 p0 11) + 1))))
        else
          (v_Mo_isText C Q (69, [(0, mz_R 16 p0), (1, mz_I x1), (2, mz_I x2), (3, mz_I x3), (4, mz_I x4), (5, mz_I r2)], [], μ1))))) :
  v_Mo_isText C Q (30, [(0, mz_R 16 p0), (1, mz_I x1), (2, mz_I x2), (3, mz_I x3), (4, mz_I x4)], [], μ) := mz_Ev.run [14, 30, 69, 162, 191, 250] 400 h
set_option maxRecDepth 20000 in
set_option maxHeartbeats 4000000 in
theorem w_Mo_isText_69 {C : mz_Cl} {Q : Option mz_V → mz_M → Prop} (p0 : Nat) (x1 : Int32) (x2 : Int32) (x3 : Int32) (x4 : Int32) (x5 : Int32) (μ : mz_M) (h :
    if (x2 : Int32) = (0 : Int32) then
      (if (x5 : Int32) = (94 : Int32) then
        (if (x3 : Int32) = (0 : Int32) then
          (v_Mo_isText C Q (162, [(0, mz_R 16 p0), (1, mz_I x1), (2, mz_I x2), (3, mz_I x3), (4, mz_I x4), (5, mz_I x5)], [], μ))
        else
          (∃ (r2 : Int32) (μ1 : mz_M), C n_Mo_here [mz_R 16 p0] (mz_wI μ p0 11 ((μ.1 p0 11) + 1)) (some (mz_I r2)) μ1 ∧
            (∃ (r4 : Int32) (μ3 : mz_M), C n_Mo_in [mz_L ((r2 : Int32).toInt64), mz_L 48, mz_L 56] μ1 (some (mz_I r4)) μ3 ∧
              (if (r4 : Int32) = (0 : Int32) then
                (v_Mo_isText C Q (14, [(0, mz_R 16 p0), (1, mz_I x1), (2, mz_I x2), (3, mz_I 0), (4, mz_I r4)], [], mz_wI μ3 p0 11 ((μ3.1 p0 11) + 0)))
              else
                (v_Mo_isText C Q (14, [(0, mz_R 16 p0), (1, mz_I x1), (2, mz_I x2), (3, mz_I 0), (4, mz_I r4)], [], mz_wI μ3 p0 11 ((μ3.1 p0 11) + 1)))))))
      else
        (v_Mo_isText C Q (162, [(0, mz_R 16 p0), (1, mz_I x1), (2, mz_I x2), (3, mz_I x3), (4, mz_I x4), (5, mz_I x5)], [], μ)))
    else
      (if (x5 : Int32) = (40 : Int32) then
        (v_Mo_isText C Q (14, [(0, mz_R 16 p0), (1, mz_I x1), (2, mz_I 0), (3, mz_I 1), (4, mz_I 0)], [], μ))
      else
        (∃ (r6 : Int32) (μ5 : mz_M), C n_Mo_readsAtom [mz_R 16 p0] μ (some (mz_I r6)) μ5 ∧
          (if (r6 : Int32) = (0 : Int32) then
            (v_Mo_isText C Q (14, [(0, mz_R 16 p0), (1, mz_I x1), (2, mz_I 0), (3, mz_I 1), (4, mz_I 0)], [], μ5))
          else
            (v_Mo_isText C Q (14, [(0, mz_R 16 p0), (1, mz_I x1), (2, mz_I 0), (3, mz_I 1), (4, mz_I 1)], [], μ5)))))) :
  v_Mo_isText C Q (69, [(0, mz_R 16 p0), (1, mz_I x1), (2, mz_I x2), (3, mz_I x3), (4, mz_I x4), (5, mz_I x5)], [], μ) := mz_Ev.run [14, 30, 69, 162, 191, 250] 400 h
set_option maxRecDepth 20000 in
set_option maxHeartbeats 4000000 in
theorem w_Mo_isText_162 {C : mz_Cl} {Q : Option mz_V → mz_M → Prop} (p0 : Nat) (x1 : Int32) (x2 : Int32) (x3 : Int32) (x4 : Int32) (x5 : Int32) (μ : mz_M) (h :
    if (x5 : Int32) = (41 : Int32) then
      (if (x1 : Int32) ≤ (0 : Int32) then
        (v_Mo_isText C Q (191, [(0, mz_R 16 p0), (1, mz_I x1), (3, mz_I x3), (5, mz_I x5)], [], μ))
      else
        (v_Mo_isText C Q (14, [(0, mz_R 16 p0), (1, mz_I (x1 + (-1))), (2, mz_I x2), (3, mz_I 1), (4, mz_I x4)], [], mz_wI μ p0 11 ((μ.1 p0 11) + 1))))
    else
      (v_Mo_isText C Q (191, [(0, mz_R 16 p0), (1, mz_I x1), (3, mz_I x3), (5, mz_I x5)], [], μ))) :
  v_Mo_isText C Q (162, [(0, mz_R 16 p0), (1, mz_I x1), (2, mz_I x2), (3, mz_I x3), (4, mz_I x4), (5, mz_I x5)], [], μ) := mz_Ev.run [14, 30, 69, 162, 191, 250] 400 h
set_option maxRecDepth 20000 in
set_option maxHeartbeats 4000000 in
theorem w_Mo_isText_191 {C : mz_Cl} {Q : Option mz_V → mz_M → Prop} (p0 : Nat) (x1 : Int32) (x3 : Int32) (x5 : Int32) (μ : mz_M) (h :
    if (x5 : Int32) = (42 : Int32) then
      (if (1 : Int32) = (0 : Int32) then
        (v_Mo_isText C Q (14, [(0, mz_R 16 p0), (1, mz_I x1), (2, mz_I 1), (3, mz_I x3), (4, mz_I 1)], [], mz_wI μ p0 11 ((μ.1 p0 11) + 0)))
      else
        (v_Mo_isText C Q (14, [(0, mz_R 16 p0), (1, mz_I x1), (2, mz_I 1), (3, mz_I x3), (4, mz_I 1)], [], mz_wI μ p0 11 ((μ.1 p0 11) + 1))))
    else
      (if (x5 : Int32) = (43 : Int32) then
        (if (1 : Int32) = (0 : Int32) then
          (v_Mo_isText C Q (14, [(0, mz_R 16 p0), (1, mz_I x1), (2, mz_I 1), (3, mz_I x3), (4, mz_I 1)], [], mz_wI μ p0 11 ((μ.1 p0 11) + 0)))
        else
          (v_Mo_isText C Q (14, [(0, mz_R 16 p0), (1, mz_I x1), (2, mz_I 1), (3, mz_I x3), (4, mz_I 1)], [], mz_wI μ p0 11 ((μ.1 p0 11) + 1))))
      else
        (if (x5 : Int32) = (45 : Int32) then
          (if (1 : Int32) = (0 : Int32) then
            (v_Mo_isText C Q (14, [(0, mz_R 16 p0), (1, mz_I x1), (2, mz_I 1), (3, mz_I x3), (4, mz_I 1)], [], mz_wI μ p0 11 ((μ.1 p0 11) + 0)))
          else
            (v_Mo_isText C Q (14, [(0, mz_R 16 p0), (1, mz_I x1), (2, mz_I 1), (3, mz_I x3), (4, mz_I 1)], [], mz_wI μ p0 11 ((μ.1 p0 11) + 1))))
        else
          (if (x5 : Int32) = (47 : Int32) then
            (if (1 : Int32) = (0 : Int32) then
              (v_Mo_isText C Q (14, [(0, mz_R 16 p0), (1, mz_I x1), (2, mz_I 1), (3, mz_I x3), (4, mz_I 1)], [], mz_wI μ p0 11 ((μ.1 p0 11) + 0)))
            else
              (v_Mo_isText C Q (14, [(0, mz_R 16 p0), (1, mz_I x1), (2, mz_I 1), (3, mz_I x3), (4, mz_I 1)], [], mz_wI μ p0 11 ((μ.1 p0 11) + 1))))
          else
            (if (0 : Int32) = (0 : Int32) then
              (v_Mo_isText C Q (14, [(0, mz_R 16 p0), (1, mz_I x1), (2, mz_I 0), (3, mz_I x3), (4, mz_I 0)], [], mz_wI μ p0 11 ((μ.1 p0 11) + 0)))
            else
              (v_Mo_isText C Q (14, [(0, mz_R 16 p0), (1, mz_I x1), (2, mz_I 0), (3, mz_I x3), (4, mz_I 0)], [], mz_wI μ p0 11 ((μ.1 p0 11) + 1)))))))) :
  v_Mo_isText C Q (191, [(0, mz_R 16 p0), (1, mz_I x1), (3, mz_I x3), (5, mz_I x5)], [], μ) := mz_Ev.run [14, 30, 69, 162, 191, 250] 400 h
set_option maxRecDepth 20000 in
set_option maxHeartbeats 4000000 in
theorem w_Mo_isText_250 {C : mz_Cl} {Q : Option mz_V → mz_M → Prop} (x1 : Int32) (x4 : Int32) (μ : mz_M) (h :
    if (x4 : Int32) = (0 : Int32) then
      (((0 : Int32) = 0 ∨ (0 : Int32) = 1) ∧ Q (some (mz_I 0)) μ)
    else
      (if (x1 : Int32) = (0 : Int32) then
        (((1 : Int32) = 0 ∨ (1 : Int32) = 1) ∧ Q (some (mz_I 1)) μ)
      else
        (((0 : Int32) = 0 ∨ (0 : Int32) = 1) ∧ Q (some (mz_I 0)) μ))) :
  v_Mo_isText C Q (250, [(1, mz_I x1), (4, mz_I x4)], [], μ) := mz_Ev.run [14, 30, 69, 162, 191, 250] 400 h
/-! EtaSeriesModel.begins()V, number 139 -/
abbrev v_Mo_begins (C : mz_Cl) (Q : Option mz_V → mz_M → Prop) : mz_S → Prop := mz_Ev es_SH tb_Mo_begins C Q
set_option maxRecDepth 20000 in
set_option maxHeartbeats 4000000 in
theorem w_Mo_begins_0 {C : mz_Cl} {Q : Option mz_V → mz_M → Prop} (p0 : Nat) (μ : mz_M) (h :
    vp_in (μ.1 p0 20) 7 ∧ (vp_in ((mz_wI μ 9 (μ.1 p0 20 : Int32).toNatClampNeg 0).1 p0 20) 7 ∧ (Q none (mz_wI (mz_wI μ 9 (μ.1 p0 20 : Int32).toNatClampNeg 0) 10 ((mz_wI μ 9 (μ.1 p0 20 : Int32).toNatClampNeg 0).1 p0 20 : Int32).toNatClampNeg 0)))) :
  v_Mo_begins C Q (0, [(0, mz_R 16 p0)], [], μ) := mz_Ev.run [] 400 h
/-! EtaSeriesModel.broke(II)I, number 140 -/
abbrev v_Mo_broke (C : mz_Cl) (Q : Option mz_V → mz_M → Prop) : mz_S → Prop := mz_Ev es_SH tb_Mo_broke C Q
set_option maxRecDepth 20000 in
set_option maxHeartbeats 4000000 in
theorem w_Mo_broke_0 {C : mz_Cl} {Q : Option mz_V → mz_M → Prop} (p0 : Nat) (x1 : Int32) (x2 : Int32) (μ : mz_M) (h :
    Q (some (mz_I x1)) (mz_wI (mz_wI μ p0 12 (μ.1 p0 20)) p0 13 x2)) :
  v_Mo_broke C Q (0, [(0, mz_R 16 p0), (1, mz_I x1), (2, mz_I x2)], [], μ) := mz_Ev.run [] 400 h
/-! EtaSeriesModel.lays([J)V, number 141 -/
abbrev v_Mo_lays (C : mz_Cl) (Q : Option mz_V → mz_M → Prop) : mz_S → Prop := mz_Ev es_SH tb_Mo_lays C Q
set_option maxRecDepth 20000 in
set_option maxHeartbeats 4000000 in
theorem w_Mo_lays_0 {C : mz_Cl} {Q : Option mz_V → mz_M → Prop} (p0 : Nat) (p1 : Nat) (μ : mz_M) (h :
    v_Mo_lays C Q (2, [(0, mz_R 16 p0), (1, mz_R 21 p1), (2, mz_I 0)], [], μ)) :
  v_Mo_lays C Q (0, [(0, mz_R 16 p0), (1, mz_R 21 p1)], [], μ) := mz_Ev.run [2] 400 h
set_option maxRecDepth 20000 in
set_option maxHeartbeats 4000000 in
theorem w_Mo_lays_2 {C : mz_Cl} {Q : Option mz_V → mz_M → Prop} (p0 : Nat) (p1 : Nat) (x2 : Int32) (μ : mz_M) (h :
    if (μ.1 p0 6 : Int32) ≤ (x2 : Int32) then
      (Q none μ)
    else
      (vp_in x2 40 ∧ (vp_in ((40 * (μ.1 p0 20)) + x2) 280 ∧ (v_Mo_lays C Q (2, [(0, mz_R 16 p0), (1, mz_R 21 p1), (2, mz_I (x2 + 1))], [], mz_wL μ p1 ((40 * (μ.1 p0 20)) + x2 : Int32).toNatClampNeg (μ.2 4 (x2 : Int32).toNatClampNeg)))))) :
  v_Mo_lays C Q (2, [(0, mz_R 16 p0), (1, mz_R 21 p1), (2, mz_I x2)], [], μ) := mz_Ev.run [2] 400 h
/-! EtaSeriesModel.takesFrom([J)V, number 142 -/
abbrev v_Mo_takesFrom (C : mz_Cl) (Q : Option mz_V → mz_M → Prop) : mz_S → Prop := mz_Ev es_SH tb_Mo_takesFrom C Q
set_option maxRecDepth 20000 in
set_option maxHeartbeats 4000000 in
theorem w_Mo_takesFrom_0 {C : mz_Cl} {Q : Option mz_V → mz_M → Prop} (p0 : Nat) (p1 : Nat) (μ : mz_M) (h :
    vp_in 0 166 ∧ (v_Mo_takesFrom C Q (12, [(0, mz_R 16 p0), (1, mz_R 21 p1), (2, mz_I 0)], [], mz_wI μ p0 2 (μ.1 1 (0 : Int32).toNatClampNeg)))) :
  v_Mo_takesFrom C Q (0, [(0, mz_R 16 p0), (1, mz_R 21 p1)], [], μ) := mz_Ev.run [12] 400 h
set_option maxRecDepth 20000 in
set_option maxHeartbeats 4000000 in
theorem w_Mo_takesFrom_12 {C : mz_Cl} {Q : Option mz_V → mz_M → Prop} (p0 : Nat) (p1 : Nat) (x2 : Int32) (μ : mz_M) (h :
    if (μ.1 p0 2 : Int32) ≤ (x2 : Int32) then
      (Q none μ)
    else
      (vp_in ((40 * (μ.1 p0 20)) + x2) 280 ∧ (vp_in x2 40 ∧ (v_Mo_takesFrom C Q (12, [(0, mz_R 16 p0), (1, mz_R 21 p1), (2, mz_I (x2 + 1))], [], mz_wL μ 2 (x2 : Int32).toNatClampNeg (μ.2 p1 ((40 * (μ.1 p0 20)) + x2 : Int32).toNatClampNeg)))))) :
  v_Mo_takesFrom C Q (12, [(0, mz_R 16 p0), (1, mz_R 21 p1), (2, mz_I x2)], [], μ) := mz_Ev.run [12] 400 h
/-! EtaSeriesModel.joinsPart()I, number 143 -/
abbrev v_Mo_joinsPart (C : mz_Cl) (Q : Option mz_V → mz_M → Prop) : mz_S → Prop := mz_Ev es_SH tb_Mo_joinsPart C Q
set_option maxRecDepth 20000 in
set_option maxHeartbeats 4000000 in
theorem w_Mo_joinsPart_0 {C : mz_Cl} {Q : Option mz_V → mz_M → Prop} (p0 : Nat) (μ : mz_M) (h :
    vp_in (μ.1 p0 20) 7 ∧ (if (μ.1 10 (μ.1 p0 20 : Int32).toNatClampNeg : Int32) = (0 : Int32) then
      (∃ μ1, C n_Mo_lays [mz_R 16 p0, mz_R 21 8] μ none μ1 ∧
        (Q (some (mz_I 0)) μ1))
    else
      (∃ μ2, C n_Mo_copiesToTwo [mz_R 16 p0] μ none μ2 ∧
        (∃ μ3, C n_Mo_takesFrom [mz_R 16 p0, mz_R 21 8] μ2 none μ3 ∧
          (if (μ.1 10 (μ.1 p0 20 : Int32).toNatClampNeg : Int32) = (42 : Int32) then
            (∃ (r5 : Int32) (μ4 : mz_M), C n_Mo_joins [mz_R 16 p0, mz_I 2] μ3 (some (mz_I r5)) μ4 ∧
              (if (0 : Int32) ≤ (r5 : Int32) then
                (∃ μ6, C n_Mo_lays [mz_R 16 p0, mz_R 21 8] μ4 none μ6 ∧
                  (Q (some (mz_I 0)) μ6))
              else
                (∃ (r8 : Int32) (μ7 : mz_M), C n_Mo_broke [mz_R 16 p0, mz_I r5, mz_I (μ.1 10 (μ.1 p0 20 : Int32).toNatClampNeg)] μ4 (some (mz_I r8)) μ7 ∧
                  (Q (some (mz_I r8)) μ7))))
          else
            (∃ (r10 : Int32) (μ9 : mz_M), C n_Mo_joins [mz_R 16 p0, mz_I 3] μ3 (some (mz_I r10)) μ9 ∧
              (if (0 : Int32) ≤ (r10 : Int32) then
                (∃ μ11, C n_Mo_lays [mz_R 16 p0, mz_R 21 8] μ9 none μ11 ∧
                  (Q (some (mz_I 0)) μ11))
              else
                (∃ (r13 : Int32) (μ12 : mz_M), C n_Mo_broke [mz_R 16 p0, mz_I r10, mz_I (μ.1 10 (μ.1 p0 20 : Int32).toNatClampNeg)] μ9 (some (mz_I r13)) μ12 ∧
                  (Q (some (mz_I r13)) μ12))))))))) :
  v_Mo_joinsPart C Q (0, [(0, mz_R 16 p0)], [], μ) := mz_Ev.run [] 400 h
/-! EtaSeriesModel.joinsSum()I, number 144 -/
abbrev v_Mo_joinsSum (C : mz_Cl) (Q : Option mz_V → mz_M → Prop) : mz_S → Prop := mz_Ev es_SH tb_Mo_joinsSum C Q
set_option maxRecDepth 20000 in
set_option maxHeartbeats 4000000 in
theorem w_Mo_joinsSum_0 {C : mz_Cl} {Q : Option mz_V → mz_M → Prop} (p0 : Nat) (μ : mz_M) (h :
    vp_in (μ.1 p0 20) 7 ∧ (∃ μ1, C n_Mo_takesFrom [mz_R 16 p0, mz_R 21 8] μ none μ1 ∧
      (if (μ.1 9 (μ.1 p0 20 : Int32).toNatClampNeg : Int32) = (0 : Int32) then
        (v_Mo_joinsSum C Q (32, [(0, mz_R 16 p0), (2, mz_I 0)], [], mz_wI μ1 p0 6 (μ1.1 p0 2)))
      else
        (v_Mo_joinsSum C Q (71, [(0, mz_R 16 p0), (1, mz_I (μ.1 9 (μ.1 p0 20 : Int32).toNatClampNeg)), (2, mz_I 0)], [], mz_wI μ1 p0 4 (μ1.1 p0 2)))))) :
  v_Mo_joinsSum C Q (0, [(0, mz_R 16 p0)], [], μ) := mz_Ev.run [32, 71] 400 h
set_option maxRecDepth 20000 in
set_option maxHeartbeats 4000000 in
theorem w_Mo_joinsSum_32 {C : mz_Cl} {Q : Option mz_V → mz_M → Prop} (p0 : Nat) (x2 : Int32) (μ : mz_M) (h :
    if (μ.1 p0 2 : Int32) ≤ (x2 : Int32) then
      (∃ μ1, C n_Mo_lays [mz_R 16 p0, mz_R 21 7] μ none μ1 ∧
        (Q (some (mz_I 0)) μ1))
    else
      (vp_in x2 40 ∧ (vp_in x2 40 ∧ (v_Mo_joinsSum C Q (32, [(0, mz_R 16 p0), (2, mz_I (x2 + 1))], [], mz_wL μ 4 (x2 : Int32).toNatClampNeg (μ.2 2 (x2 : Int32).toNatClampNeg)))))) :
  v_Mo_joinsSum C Q (32, [(0, mz_R 16 p0), (2, mz_I x2)], [], μ) := mz_Ev.run [32, 71] 400 h
set_option maxRecDepth 20000 in
set_option maxHeartbeats 4000000 in
theorem w_Mo_joinsSum_71 {C : mz_Cl} {Q : Option mz_V → mz_M → Prop} (p0 : Nat) (x1 : Int32) (x2 : Int32) (μ : mz_M) (h :
    if (μ.1 p0 2 : Int32) ≤ (x2 : Int32) then
      (∃ μ1, C n_Mo_takesFrom [mz_R 16 p0, mz_R 21 7] μ none μ1 ∧
        (if (x1 : Int32) = (43 : Int32) then
          (∃ (r3 : Int32) (μ2 : mz_M), C n_Mo_joins [mz_R 16 p0, mz_I 0] μ1 (some (mz_I r3)) μ2 ∧
            (if (0 : Int32) ≤ (r3 : Int32) then
              (∃ μ4, C n_Mo_lays [mz_R 16 p0, mz_R 21 7] μ2 none μ4 ∧
                (Q (some (mz_I 0)) μ4))
            else
              (∃ (r6 : Int32) (μ5 : mz_M), C n_Mo_broke [mz_R 16 p0, mz_I r3, mz_I x1] μ2 (some (mz_I r6)) μ5 ∧
                (Q (some (mz_I r6)) μ5))))
        else
          (∃ (r8 : Int32) (μ7 : mz_M), C n_Mo_joins [mz_R 16 p0, mz_I 1] μ1 (some (mz_I r8)) μ7 ∧
            (if (0 : Int32) ≤ (r8 : Int32) then
              (∃ μ9, C n_Mo_lays [mz_R 16 p0, mz_R 21 7] μ7 none μ9 ∧
                (Q (some (mz_I 0)) μ9))
            else
              (∃ (r11 : Int32) (μ10 : mz_M), C n_Mo_broke [mz_R 16 p0, mz_I r8, mz_I x1] μ7 (some (mz_I r11)) μ10 ∧
                (Q (some (mz_I r11)) μ10))))))
    else
      (vp_in x2 40 ∧ (vp_in x2 40 ∧ (v_Mo_joinsSum C Q (71, [(0, mz_R 16 p0), (1, mz_I x1), (2, mz_I (x2 + 1))], [], mz_wL μ 3 (x2 : Int32).toNatClampNeg (μ.2 2 (x2 : Int32).toNatClampNeg)))))) :
  v_Mo_joinsSum C Q (71, [(0, mz_R 16 p0), (1, mz_I x1), (2, mz_I x2)], [], μ) := mz_Ev.run [32, 71] 400 h
/-! EtaSeriesModel.joinsAtom()I, number 145 -/
abbrev v_Mo_joinsAtom (C : mz_Cl) (Q : Option mz_V → mz_M → Prop) : mz_S → Prop := mz_Ev es_SH tb_Mo_joinsAtom C Q
set_option maxRecDepth 20000 in
set_option maxHeartbeats 4000000 in
theorem w_Mo_joinsAtom_0 {C : mz_Cl} {Q : Option mz_V → mz_M → Prop} (p0 : Nat) (μ : mz_M) (h :
    ∃ (r2 : Int32) (μ1 : mz_M), C n_Mo_has [mz_R 16 p0, mz_I 94] μ (some (mz_I r2)) μ1 ∧
      (if (r2 : Int32) = (0 : Int32) then
        (∃ (r4 : Int32) (μ3 : mz_M), C n_Mo_joinsPart [mz_R 16 p0] μ1 (some (mz_I r4)) μ3 ∧
          (Q (some (mz_I r4)) μ3))
      else
        (∃ (r6 : Int32) (μ5 : mz_M), C n_Mo_here [mz_R 16 p0] μ1 (some (mz_I r6)) μ5 ∧
          (∃ (r8 : Int32) (μ7 : mz_M), C n_Mo_powers [mz_R 16 p0, mz_I (r6 - 48)] (mz_wI μ5 p0 11 ((μ5.1 p0 11) + 1)) (some (mz_I r8)) μ7 ∧
            (if (0 : Int32) ≤ (r8 : Int32) then
              (∃ (r10 : Int32) (μ9 : mz_M), C n_Mo_joinsPart [mz_R 16 p0] μ7 (some (mz_I r10)) μ9 ∧
                (Q (some (mz_I r10)) μ9))
            else
              (∃ (r12 : Int32) (μ11 : mz_M), C n_Mo_broke [mz_R 16 p0, mz_I r8, mz_I 94] μ7 (some (mz_I r12)) μ11 ∧
                (Q (some (mz_I r12)) μ11))))))) :
  v_Mo_joinsAtom C Q (0, [(0, mz_R 16 p0)], [], μ) := mz_Ev.run [] 400 h
/-! EtaSeriesModel.makesAtom()I, number 146 -/
abbrev v_Mo_makesAtom (C : mz_Cl) (Q : Option mz_V → mz_M → Prop) : mz_S → Prop := mz_Ev es_SH tb_Mo_makesAtom C Q
set_option maxRecDepth 20000 in
set_option maxHeartbeats 4000000 in
theorem w_Mo_makesAtom_0 {C : mz_Cl} {Q : Option mz_V → mz_M → Prop} (p0 : Nat) (μ : mz_M) (h :
    ∃ (r2 : Int32) (μ1 : mz_M), C n_Mo_readsAtom [mz_R 16 p0] μ (some (mz_I r2)) μ1 ∧
      (if (r2 : Int32) = (0 : Int32) then
        (vp_in 0 166 ∧ (∃ μ3, C n_Mo_makes [mz_R 16 p0, mz_I (μ1.1 p0 14), mz_I 0, mz_I (μ1.1 1 (0 : Int32).toNatClampNeg)] μ1 none μ3 ∧
          (if (μ3.1 p0 14 : Int32) = (0 : Int32) then
            (vp_in 0 40 ∧ (∃ (r5 : Int32) (μ4 : mz_M), C n_Mo_joinsAtom [mz_R 16 p0] (mz_wL μ3 4 (0 : Int32).toNatClampNeg ((μ3.1 p0 15 : Int32).toInt64)) (some (mz_I r5)) μ4 ∧
              (Q (some (mz_I r5)) μ4)))
          else
            (vp_in 0 40 ∧ (vp_in 0 40 ∧ (∃ (r7 : Int32) (μ6 : mz_M), C n_Mo_joinsAtom [mz_R 16 p0] (mz_wL μ3 4 (0 : Int32).toNatClampNeg (μ3.2 4 (0 : Int32).toNatClampNeg)) (some (mz_I r7)) μ6 ∧
              (Q (some (mz_I r7)) μ6)))))))
      else
        (if (μ1.1 p0 14 : Int32) ≤ (0 : Int32) then
          (vp_in 0 166 ∧ (∃ μ8, C n_Mo_makes [mz_R 16 p0, mz_I (μ1.1 p0 14), mz_I 0, mz_I (μ1.1 1 (0 : Int32).toNatClampNeg)] μ1 none μ8 ∧
            (if (μ8.1 p0 14 : Int32) = (0 : Int32) then
              (vp_in 0 40 ∧ (∃ (r10 : Int32) (μ9 : mz_M), C n_Mo_joinsAtom [mz_R 16 p0] (mz_wL μ8 4 (0 : Int32).toNatClampNeg ((μ8.1 p0 15 : Int32).toInt64)) (some (mz_I r10)) μ9 ∧
                (Q (some (mz_I r10)) μ9)))
            else
              (vp_in 0 40 ∧ (vp_in 0 40 ∧ (∃ (r12 : Int32) (μ11 : mz_M), C n_Mo_joinsAtom [mz_R 16 p0] (mz_wL μ8 4 (0 : Int32).toNatClampNeg (μ8.2 4 (0 : Int32).toNatClampNeg)) (some (mz_I r12)) μ11 ∧
                (Q (some (mz_I r12)) μ11)))))))
        else
          (vp_in 0 166 ∧ (∃ μ13, C n_Mo_makes [mz_R 16 p0, mz_I (μ1.1 p0 14), mz_I (μ1.1 p0 15), mz_I (μ1.1 1 (0 : Int32).toNatClampNeg)] μ1 none μ13 ∧
            (if (μ13.1 p0 14 : Int32) = (0 : Int32) then
              (vp_in 0 40 ∧ (∃ (r15 : Int32) (μ14 : mz_M), C n_Mo_joinsAtom [mz_R 16 p0] (mz_wL μ13 4 (0 : Int32).toNatClampNeg ((μ13.1 p0 15 : Int32).toInt64)) (some (mz_I r15)) μ14 ∧
                (Q (some (mz_I r15)) μ14)))
            else
              (vp_in 0 40 ∧ (vp_in 0 40 ∧ (∃ (r17 : Int32) (μ16 : mz_M), C n_Mo_joinsAtom [mz_R 16 p0] (mz_wL μ13 4 (0 : Int32).toNatClampNeg (μ13.2 4 (0 : Int32).toNatClampNeg)) (some (mz_I r17)) μ16 ∧
                (Q (some (mz_I r17)) μ16)))))))))) :
  v_Mo_makesAtom C Q (0, [(0, mz_R 16 p0)], [], μ) := mz_Ev.run [] 400 h
/-! EtaSeriesModel.works()I, number 147 -/
abbrev v_Mo_works (C : mz_Cl) (Q : Option mz_V → mz_M → Prop) : mz_S → Prop := mz_Ev es_SH tb_Mo_works C Q
set_option maxRecDepth 20000 in
set_option maxHeartbeats 4000000 in
theorem w_Mo_works_0 {C : mz_Cl} {Q : Option mz_V → mz_M → Prop} (p0 : Nat) (μ : mz_M) (h :
    ∃ μ1, C n_Mo_begins [mz_R 16 p0] (mz_wI (mz_wI μ p0 11 0) p0 20 0) none μ1 ∧
      (v_Mo_works C Q (18, [(0, mz_R 16 p0), (1, mz_I 0), (2, mz_I 1)], [], μ1))) :
  v_Mo_works C Q (0, [(0, mz_R 16 p0)], [], μ) := mz_Ev.run [18] 400 h
set_option maxRecDepth 20000 in
set_option maxHeartbeats 4000000 in
theorem w_Mo_works_18 {C : mz_Cl} {Q : Option mz_V → mz_M → Prop} (p0 : Nat) (x1 : Int32) (x2 : Int32) (μ : mz_M) (h :
    if (x1 : Int32) = (0 : Int32) then
      (∃ (r2 : Int32) (μ1 : mz_M), C n_Mo_here [mz_R 16 p0] μ (some (mz_I r2)) μ1 ∧
        (if (r2 : Int32) = (0 : Int32) then
          (if (x1 : Int32) = (0 : Int32) then
            (∃ (r4 : Int32) (μ3 : mz_M), C n_Mo_joinsSum [mz_R 16 p0] μ1 (some (mz_I r4)) μ3 ∧
              (Q (some (mz_I r4)) μ3))
          else
            (Q (some (mz_I x1)) μ1))
        else
          (∃ (r6 : Int32) (μ5 : mz_M), C n_Mo_here [mz_R 16 p0] μ1 (some (mz_I r6)) μ5 ∧
            (if (x2 : Int32) = (0 : Int32) then
              (if (x2 : Int32) = (0 : Int32) then
                (if (r6 : Int32) = (42 : Int32) then
                  (vp_in (μ5.1 p0 20) 7 ∧ (v_Mo_works C Q (18, [(0, mz_R 16 p0), (1, mz_I x1), (2, mz_I 1)], [], mz_wI (mz_wI μ5 10 (μ5.1 p0 20 : Int32).toNatClampNeg r6) p0 11 (((mz_wI μ5 10 (μ5.1 p0 20 : Int32).toNatClampNeg r6).1 p0 11) + 1))))
                else
                  (if (r6 : Int32) = (47 : Int32) then
                    (vp_in (μ5.1 p0 20) 7 ∧ (v_Mo_works C Q (18, [(0, mz_R 16 p0), (1, mz_I x1), (2, mz_I 1)], [], mz_wI (mz_wI μ5 10 (μ5.1 p0 20 : Int32).toNatClampNeg r6) p0 11 (((mz_wI μ5 10 (μ5.1 p0 20 : Int32).toNatClampNeg r6).1 p0 11) + 1))))
                  else
                    (∃ (r8 : Int32) (μ7 : mz_M), C n_Mo_joinsSum [mz_R 16 p0] μ5 (some (mz_I r8)) μ7 ∧
                      (if (r6 : Int32) = (41 : Int32) then
                        (if (r8 : Int32) = (0 : Int32) then
                          (if (0 : Int32) = (0 : Int32) then
                            (if (r8 : Int32) = (0 : Int32) then
                              (∃ (r10 : Int32) (μ9 : mz_M), C n_Mo_joinsAtom [mz_R 16 p0] (mz_wI (mz_wI μ7 p0 11 ((μ7.1 p0 11) + 1)) p0 20 (((mz_wI μ7 p0 11 ((μ7.1 p0 11) + 1)).1 p0 20) - 1)) (some (mz_I r10)) μ9 ∧
                                (v_Mo_works C Q (18, [(0, mz_R 16 p0), (1, mz_I r10), (2, mz_I 0)], [], μ9)))
                            else
                              (v_Mo_works C Q (18, [(0, mz_R 16 p0), (1, mz_I r8), (2, mz_I 0)], [], mz_wI μ7 p0 11 ((μ7.1 p0 11) + 1))))
                          else
                            (vp_in ((mz_wI μ7 p0 11 ((μ7.1 p0 11) + 1)).1 p0 20) 7 ∧ (vp_in ((mz_wI (mz_wI μ7 p0 11 ((μ7.1 p0 11) + 1)) 9 ((mz_wI μ7 p0 11 ((μ7.1 p0 11) + 1)).1 p0 20 : Int32).toNatClampNeg r6).1 p0 20) 7 ∧ (v_Mo_works C Q (18, [(0, mz_R 16 p0), (1, mz_I r8), (2, mz_I 0)], [], mz_wI (mz_wI (mz_wI μ7 p0 11 ((μ7.1 p0 11) + 1)) 9 ((mz_wI μ7 p0 11 ((μ7.1 p0 11) + 1)).1 p0 20 : Int32).toNatClampNeg r6) 10 ((mz_wI (mz_wI μ7 p0 11 ((μ7.1 p0 11) + 1)) 9 ((mz_wI μ7 p0 11 ((μ7.1 p0 11) + 1)).1 p0 20 : Int32).toNatClampNeg r6).1 p0 20 : Int32).toNatClampNeg 0)))))
                        else
                          (if (r8 : Int32) = (0 : Int32) then
                            (∃ (r12 : Int32) (μ11 : mz_M), C n_Mo_joinsAtom [mz_R 16 p0] (mz_wI (mz_wI μ7 p0 11 ((μ7.1 p0 11) + 1)) p0 20 (((mz_wI μ7 p0 11 ((μ7.1 p0 11) + 1)).1 p0 20) - 1)) (some (mz_I r12)) μ11 ∧
                              (v_Mo_works C Q (18, [(0, mz_R 16 p0), (1, mz_I r12), (2, mz_I 0)], [], μ11)))
                          else
                            (v_Mo_works C Q (18, [(0, mz_R 16 p0), (1, mz_I r8), (2, mz_I 0)], [], mz_wI μ7 p0 11 ((μ7.1 p0 11) + 1)))))
                      else
                        (if (r8 : Int32) = (0 : Int32) then
                          (if (1 : Int32) = (0 : Int32) then
                            (if (r8 : Int32) = (0 : Int32) then
                              (∃ (r14 : Int32) (μ13 : mz_M), C n_Mo_joinsAtom [mz_R 16 p0] (mz_wI (mz_wI μ7 p0 11 ((μ7.1 p0 11) + 1)) p0 20 (((mz_wI μ7 p0 11 ((μ7.1 p0 11) + 1)).1 p0 20) - 1)) (some (mz_I r14)) μ13 ∧
                                (v_Mo_works C Q (18, [(0, mz_R 16 p0), (1, mz_I r14), (2, mz_I 1)], [], μ13)))
                            else
                              (v_Mo_works C Q (18, [(0, mz_R 16 p0), (1, mz_I r8), (2, mz_I 1)], [], mz_wI μ7 p0 11 ((μ7.1 p0 11) + 1))))
                          else
                            (vp_in ((mz_wI μ7 p0 11 ((μ7.1 p0 11) + 1)).1 p0 20) 7 ∧ (vp_in ((mz_wI (mz_wI μ7 p0 11 ((μ7.1 p0 11) + 1)) 9 ((mz_wI μ7 p0 11 ((μ7.1 p0 11) + 1)).1 p0 20 : Int32).toNatClampNeg r6).1 p0 20) 7 ∧ (v_Mo_works C Q (18, [(0, mz_R 16 p0), (1, mz_I r8), (2, mz_I 1)], [], mz_wI (mz_wI (mz_wI μ7 p0 11 ((μ7.1 p0 11) + 1)) 9 ((mz_wI μ7 p0 11 ((μ7.1 p0 11) + 1)).1 p0 20 : Int32).toNatClampNeg r6) 10 ((mz_wI (mz_wI μ7 p0 11 ((μ7.1 p0 11) + 1)) 9 ((mz_wI μ7 p0 11 ((μ7.1 p0 11) + 1)).1 p0 20 : Int32).toNatClampNeg r6).1 p0 20 : Int32).toNatClampNeg 0)))))
                        else
                          (if (r8 : Int32) = (0 : Int32) then
                            (∃ (r16 : Int32) (μ15 : mz_M), C n_Mo_joinsAtom [mz_R 16 p0] (mz_wI (mz_wI μ7 p0 11 ((μ7.1 p0 11) + 1)) p0 20 (((mz_wI μ7 p0 11 ((μ7.1 p0 11) + 1)).1 p0 20) - 1)) (some (mz_I r16)) μ15 ∧
                              (v_Mo_works C Q (18, [(0, mz_R 16 p0), (1, mz_I r16), (2, mz_I 1)], [], μ15)))
                          else
                            (v_Mo_works C Q (18, [(0, mz_R 16 p0), (1, mz_I r8), (2, mz_I 1)], [], mz_wI μ7 p0 11 ((μ7.1 p0 11) + 1)))))))))
              else
                (∃ (r18 : Int32) (μ17 : mz_M), C n_Mo_makesAtom [mz_R 16 p0] μ5 (some (mz_I r18)) μ17 ∧
                  (v_Mo_works C Q (18, [(0, mz_R 16 p0), (1, mz_I r18), (2, mz_I 0)], [], μ17))))
            else
              (if (r6 : Int32) = (40 : Int32) then
                (∃ μ19, C n_Mo_begins [mz_R 16 p0] (mz_wI (mz_wI μ5 p0 11 ((μ5.1 p0 11) + 1)) p0 20 (((mz_wI μ5 p0 11 ((μ5.1 p0 11) + 1)).1 p0 20) + 1)) none μ19 ∧
                  (v_Mo_works C Q (18, [(0, mz_R 16 p0), (1, mz_I x1), (2, mz_I x2)], [], μ19)))
              else
                (if (x2 : Int32) = (0 : Int32) then
                  (if (r6 : Int32) = (42 : Int32) then
                    (vp_in (μ5.1 p0 20) 7 ∧ (v_Mo_works C Q (18, [(0, mz_R 16 p0), (1, mz_I x1), (2, mz_I 1)], [], mz_wI (mz_wI μ5 10 (μ5.1 p0 20 : Int32).toNatClampNeg r6) p0 11 (((mz_wI μ5 10 (μ5.1 p0 20 : Int32).toNatClampNeg r6).1 p0 11) + 1))))
                  else
                    (if (r6 : Int32) = (47 : Int32) then
                      (vp_in (μ5.1 p0 20) 7 ∧ (v_Mo_works C Q (18, [(0, mz_R 16 p0), (1, mz_I x1), (2, mz_I 1)], [], mz_wI (mz_wI μ5 10 (μ5.1 p0 20 : Int32).toNatClampNeg r6) p0 11 (((mz_wI μ5 10 (μ5.1 p0 20 : Int32).toNatClampNeg r6).1 p0 11) + 1))))
                    else
                      (∃ (r21 : Int32) (μ20 : mz_M), C n_Mo_joinsSum [mz_R 16 p0] μ5 (some (mz_I r21)) μ20 ∧
                        (if (r6 : Int32) = (41 : Int32) then
                          (if (r21 : Int32) = (0 : Int32) then
                            (if (0 : Int32) = (0 : Int32) then
                              (if (r21 : Int32) = (0 : Int32) then
                                (∃ (r23 : Int32) (μ22 : mz_M), C n_Mo_joinsAtom [mz_R 16 p0] (mz_wI (mz_wI μ20 p0 11 ((μ20.1 p0 11) + 1)) p0 20 (((mz_wI μ20 p0 11 ((μ20.1 p0 11) + 1)).1 p0 20) - 1)) (some (mz_I r23)) μ22 ∧
                                  (v_Mo_works C Q (18, [(0, mz_R 16 p0), (1, mz_I r23), (2, mz_I 0)], [], μ22)))
                              else
                                (v_Mo_works C Q (18, [(0, mz_R 16 p0), (1, mz_I r21), (2, mz_I 0)], [], mz_wI μ20 p0 11 ((μ20.1 p0 11) + 1))))
                            else
                              (vp_in ((mz_wI μ20 p0 11 ((μ20.1 p0 11) + 1)).1 p0 20) 7 ∧ (vp_in ((mz_wI (mz_wI μ20 p0 11 ((μ20.1 p0 11) + 1)) 9 ((mz_wI μ20 p0 11 ((μ20.1 p0 11) + 1)).1 p0 20 : Int32).toNatClampNeg r6).1 p0 20) 7 ∧ (v_Mo_works C Q (18, [(0, mz_R 16 p0), (1, mz_I r21), (2, mz_I 0)], [], mz_wI (mz_wI (mz_wI μ20 p0 11 ((μ20.1 p0 11) + 1)) 9 ((mz_wI μ20 p0 11 ((μ20.1 p0 11) + 1)).1 p0 20 : Int32).toNatClampNeg r6) 10 ((mz_wI (mz_wI μ20 p0 11 ((μ20.1 p0 11) + 1)) 9 ((mz_wI μ20 p0 11 ((μ20.1 p0 11) + 1)).1 p0 20 : Int32).toNatClampNeg r6).1 p0 20 : Int32).toNatClampNeg 0)))))
                          else
                            (if (r21 : Int32) = (0 : Int32) then
                              (∃ (r25 : Int32) (μ24 : mz_M), C n_Mo_joinsAtom [mz_R 16 p0] (mz_wI (mz_wI μ20 p0 11 ((μ20.1 p0 11) + 1)) p0 20 (((mz_wI μ20 p0 11 ((μ20.1 p0 11) + 1)).1 p0 20) - 1)) (some (mz_I r25)) μ24 ∧
                                (v_Mo_works C Q (18, [(0, mz_R 16 p0), (1, mz_I r25), (2, mz_I 0)], [], μ24)))
                            else
                              (v_Mo_works C Q (18, [(0, mz_R 16 p0), (1, mz_I r21), (2, mz_I 0)], [], mz_wI μ20 p0 11 ((μ20.1 p0 11) + 1)))))
                        else
                          (if (r21 : Int32) = (0 : Int32) then
                            (if (1 : Int32) = (0 : Int32) then
                              (if (r21 : Int32) = (0 : Int32) then
                                (∃ (r27 : Int32) (μ26 : mz_M), C n_Mo_joinsAtom [mz_R 16 p0] (mz_wI (mz_wI μ20 p0 11 ((μ20.1 p0 11) + 1)) p0 20 (((mz_wI μ20 p0 11 ((μ20.1 p0 11) + 1)).1 p0 20) - 1)) (some (mz_I r27)) μ26 ∧
                                  (v_Mo_works C Q (18, [(0, mz_R 16 p0), (1, mz_I r27), (2, mz_I 1)], [], μ26)))
                              else
                                (v_Mo_works C Q (18, [(0, mz_R 16 p0), (1, mz_I r21), (2, mz_I 1)], [], mz_wI μ20 p0 11 ((μ20.1 p0 11) + 1))))
                            else
                              (vp_in ((mz_wI μ20 p0 11 ((μ20.1 p0 11) + 1)).1 p0 20) 7 ∧ (vp_in ((mz_wI (mz_wI μ20 p0 11 ((μ20.1 p0 11) + 1)) 9 ((mz_wI μ20 p0 11 ((μ20.1 p0 11) + 1)).1 p0 20 : Int32).toNatClampNeg r6).1 p0 20) 7 ∧ (v_Mo_works C Q (18, [(0, mz_R 16 p0), (1, mz_I r21), (2, mz_I 1)], [], mz_wI (mz_wI (mz_wI μ20 p0 11 ((μ20.1 p0 11) + 1)) 9 ((mz_wI μ20 p0 11 ((μ20.1 p0 11) + 1)).1 p0 20 : Int32).toNatClampNeg r6) 10 ((mz_wI (mz_wI μ20 p0 11 ((μ20.1 p0 11) + 1)) 9 ((mz_wI μ20 p0 11 ((μ20.1 p0 11) + 1)).1 p0 20 : Int32).toNatClampNeg r6).1 p0 20 : Int32).toNatClampNeg 0)))))
                          else
                            (if (r21 : Int32) = (0 : Int32) then
                              (∃ (r29 : Int32) (μ28 : mz_M), C n_Mo_joinsAtom [mz_R 16 p0] (mz_wI (mz_wI μ20 p0 11 ((μ20.1 p0 11) + 1)) p0 20 (((mz_wI μ20 p0 11 ((μ20.1 p0 11) + 1)).1 p0 20) - 1)) (some (mz_I r29)) μ28 ∧
                                (v_Mo_works C Q (18, [(0, mz_R 16 p0), (1, mz_I r29), (2, mz_I 1)], [], μ28)))
                            else
                              (v_Mo_works C Q (18, [(0, mz_R 16 p0), (1, mz_I r21), (2, mz_I 1)], [], mz_wI μ20 p0 11 ((μ20.1 p0 11) + 1)))))))))
                else
                  (∃ (r31 : Int32) (μ30 : mz_M), C n_Mo_makesAtom [mz_R 16 p0] μ5 (some (mz_I r31)) μ30 ∧
                    (v_Mo_works C Q (18, [(0, mz_R 16 p0), (1, mz_I r31), (2, mz_I 0)], [], μ30)))))))))
    else
      (if (x1 : Int32) = (0 : Int32) then
        (∃ (r33 : Int32) (μ32 : mz_M), C n_Mo_joinsSum [mz_R 16 p0] μ (some (mz_I r33)) μ32 ∧
          (Q (some (mz_I r33)) μ32))
      else
        (Q (some (mz_I x1)) μ))) :
  v_Mo_works C Q (18, [(0, mz_R 16 p0), (1, mz_I x1), (2, mz_I x2)], [], μ) := mz_Ev.run [18] 400 h
/-! EtaSeriesModel.work(I)I, number 148 -/
abbrev v_Mo_work (C : mz_Cl) (Q : Option mz_V → mz_M → Prop) : mz_S → Prop := mz_Ev es_SH tb_Mo_work C Q
set_option maxRecDepth 20000 in
set_option maxHeartbeats 4000000 in
theorem w_Mo_work_0 {C : mz_Cl} {Q : Option mz_V → mz_M → Prop} (p0 : Nat) (x1 : Int32) (μ : mz_M) (h :
    ∃ (r2 : Int32) (μ1 : mz_M), C n_Mo_isSeries [mz_I x1] μ (some (mz_I r2)) μ1 ∧
      (if (r2 : Int32) = (0 : Int32) then
        (Q (some (mz_I ((-1000001)))) μ1)
      else
        (∃ (r4 : Int32) (μ3 : mz_M), C n_Mo_isText [mz_R 16 p0] μ1 (some (mz_I r4)) μ3 ∧
          (if (r4 : Int32) = (0 : Int32) then
            (∃ (r6 : Int32) (μ5 : mz_M), C n_Mo_here [mz_R 16 p0] μ3 (some (mz_I r6)) μ5 ∧
              (if (r6 : Int32) = (0 : Int32) then
                (if (1 : Int32) = (0 : Int32) then
                  (Q (some (mz_I (((-1000020)) - (μ5.1 p0 11)))) (mz_wI μ5 p0 10 0))
                else
                  (Q (some (mz_I (((-1000020)) - (μ5.1 p0 10)))) (mz_wI μ5 p0 10 0)))
              else
                (if (0 : Int32) = (0 : Int32) then
                  (Q (some (mz_I (((-1000020)) - (μ5.1 p0 11)))) (mz_wI μ5 p0 10 0))
                else
                  (Q (some (mz_I (((-1000020)) - (μ5.1 p0 10)))) (mz_wI μ5 p0 10 0)))))
          else
            (∃ (r8 : Int32) (μ7 : mz_M), C n_Mo_works [mz_R 16 p0] (mz_wI (mz_wI μ3 p0 12 ((-1000004))) p0 13 ((-1000004))) (some (mz_I r8)) μ7 ∧
              (if (0 : Int32) ≤ (r8 : Int32) then
                (∃ (r10 : Int32) (μ9 : mz_M), C n_Mo_keeps [mz_R 16 p0, mz_I x1] (mz_wI μ7 p0 10 0) (some (mz_I r10)) μ9 ∧
                  (Q (some (mz_I r10)) μ9))
              else
                (Q (some (mz_I r8)) (mz_wI μ7 p0 10 0)))))))) :
  v_Mo_work C Q (0, [(0, mz_R 16 p0), (1, mz_I x1)], [], μ) := mz_Ev.run [] 400 h
/-! EtaSeriesModel.first(II)I, number 149 -/
abbrev v_Mo_first (C : mz_Cl) (Q : Option mz_V → mz_M → Prop) : mz_S → Prop := mz_Ev es_SH tb_Mo_first C Q
set_option maxRecDepth 20000 in
set_option maxHeartbeats 4000000 in
theorem w_Mo_first_0 {C : mz_Cl} {Q : Option mz_V → mz_M → Prop} (p0 : Nat) (x1 : Int32) (x2 : Int32) (μ : mz_M) (h :
    ∃ (r2 : Int32) (μ1 : mz_M), C n_Mo_isSeries [mz_I x1] μ (some (mz_I r2)) μ1 ∧
      (if (r2 : Int32) = (0 : Int32) then
        (Q (some (mz_I ((-1000001)))) μ1)
      else
        (∃ (r4 : Int32) (μ3 : mz_M), C n_Mo_isSeries [mz_I x2] μ1 (some (mz_I r4)) μ3 ∧
          (if (r4 : Int32) = (0 : Int32) then
            (Q (some (mz_I ((-1000001)))) μ3)
          else
            (∃ (r6 : Int32) (μ5 : mz_M), C n_Mo_many [mz_R 16 p0, mz_I x1] μ3 (some (mz_I r6)) μ5 ∧
              (if (r6 : Int32) = (0 : Int32) then
                (Q (some (mz_I ((-1000011)))) μ5)
              else
                (∃ (r8 : Int32) (μ7 : mz_M), C n_Mo_many [mz_R 16 p0, mz_I x2] μ5 (some (mz_I r8)) μ7 ∧
                  (if (r8 : Int32) = (0 : Int32) then
                    (Q (some (mz_I ((-1000011)))) μ7)
                  else
                    (∃ (r10 : Int32) (μ9 : mz_M), C n_Mo_many [mz_R 16 p0, mz_I x1] μ7 (some (mz_I r10)) μ9 ∧
                      (∃ (r12 : Int32) (μ11 : mz_M), C n_Mo_many [mz_R 16 p0, mz_I x2] μ9 (some (mz_I r12)) μ11 ∧
                        (if (r12 : Int32) ≤ (r10 : Int32) then
                          (∃ (r14 : Int32) (μ13 : mz_M), C n_Mo_many [mz_R 16 p0, mz_I x2] μ11 (some (mz_I r14)) μ13 ∧
                            (v_Mo_first C Q (72, [(0, mz_R 16 p0), (1, mz_I x1), (2, mz_I x2), (4, mz_I ((-1000004))), (5, mz_I (r14 - 1))], [], μ13)))
                        else
                          (∃ (r16 : Int32) (μ15 : mz_M), C n_Mo_many [mz_R 16 p0, mz_I x1] μ11 (some (mz_I r16)) μ15 ∧
                            (v_Mo_first C Q (72, [(0, mz_R 16 p0), (1, mz_I x1), (2, mz_I x2), (4, mz_I ((-1000004))), (5, mz_I (r16 - 1))], [], μ15)))))))))))))) :
  v_Mo_first C Q (0, [(0, mz_R 16 p0), (1, mz_I x1), (2, mz_I x2)], [], μ) := mz_Ev.run [72] 400 h
set_option maxRecDepth 20000 in
set_option maxHeartbeats 4000000 in
theorem w_Mo_first_72 {C : mz_Cl} {Q : Option mz_V → mz_M → Prop} (p0 : Nat) (x1 : Int32) (x2 : Int32) (x4 : Int32) (x5 : Int32) (μ : mz_M) (h :
    if (x5 : Int32) < (0 : Int32) then
      (Q (some (mz_I x4)) μ)
    else
      (∃ (r2 : Int32) (μ1 : mz_M), C n_Mo_termOf [mz_R 16 p0, mz_I x1, mz_I x5] μ (some (mz_I r2)) μ1 ∧
        (∃ (r4 : Int32) (μ3 : mz_M), C n_Mo_termOf [mz_R 16 p0, mz_I x2, mz_I x5] μ1 (some (mz_I r4)) μ3 ∧
          (if (r2 : Int32) = (r4 : Int32) then
            (v_Mo_first C Q (72, [(0, mz_R 16 p0), (1, mz_I x1), (2, mz_I x2), (4, mz_I x4), (5, mz_I (x5 + (-1)))], [], μ3))
          else
            (v_Mo_first C Q (72, [(0, mz_R 16 p0), (1, mz_I x1), (2, mz_I x2), (4, mz_I x5), (5, mz_I (x5 + (-1)))], [], μ3)))))) :
  v_Mo_first C Q (72, [(0, mz_R 16 p0), (1, mz_I x1), (2, mz_I x2), (4, mz_I x4), (5, mz_I x5)], [], μ) := mz_Ev.run [72] 400 h
/-! EtaSeriesModel.isStep(II)Z, number 150 -/
abbrev v_Mo_isStep (C : mz_Cl) (Q : Option mz_V → mz_M → Prop) : mz_S → Prop := mz_Ev es_SH tb_Mo_isStep C Q
set_option maxRecDepth 20000 in
set_option maxHeartbeats 4000000 in
theorem w_Mo_isStep_0 {C : mz_Cl} {Q : Option mz_V → mz_M → Prop} (x0 : Int32) (x1 : Int32) (μ : mz_M) (h :
    ∃ (r2 : Int32) (μ1 : mz_M), C n_Mo_in [mz_L ((x0 : Int32).toInt64), mz_L 1, mz_L 8] μ (some (mz_I r2)) μ1 ∧
      (if (r2 : Int32) = (0 : Int32) then
        (((0 : Int32) = 0 ∨ (0 : Int32) = 1) ∧ Q (some (mz_I 0)) μ1)
      else
        (∃ (r4 : Int32) (μ3 : mz_M), C n_Mo_in [mz_L ((x1 : Int32).toInt64), mz_L 0, mz_L ((x0 - 1 : Int32).toInt64)] μ1 (some (mz_I r4)) μ3 ∧
          (if (r4 : Int32) = (0 : Int32) then
            (((0 : Int32) = 0 ∨ (0 : Int32) = 1) ∧ Q (some (mz_I 0)) μ3)
          else
            (((1 : Int32) = 0 ∨ (1 : Int32) = 1) ∧ Q (some (mz_I 1)) μ3))))) :
  v_Mo_isStep C Q (0, [(0, mz_I x0), (1, mz_I x1)], [], μ) := mz_Ev.run [] 400 h
/-! EtaSeriesModel.failsAt(IIII)I, number 151 -/
abbrev v_Mo_failsAt (C : mz_Cl) (Q : Option mz_V → mz_M → Prop) : mz_S → Prop := mz_Ev es_SH tb_Mo_failsAt C Q
set_option maxRecDepth 20000 in
set_option maxHeartbeats 4000000 in
theorem w_Mo_failsAt_0 {C : mz_Cl} {Q : Option mz_V → mz_M → Prop} (p0 : Nat) (x1 : Int32) (x2 : Int32) (x3 : Int32) (x4 : Int32) (μ : mz_M) (h :
    ∃ (r2 : Int32) (μ1 : mz_M), C n_Mo_many [mz_R 16 p0, mz_I x1] μ (some (mz_I r2)) μ1 ∧
      (v_Mo_failsAt C Q (13, [(0, mz_R 16 p0), (1, mz_I x1), (2, mz_I x2), (3, mz_I x3), (4, mz_I x4), (5, mz_I ((-1000004))), (6, mz_I (r2 - 1))], [], μ1))) :
  v_Mo_failsAt C Q (0, [(0, mz_R 16 p0), (1, mz_I x1), (2, mz_I x2), (3, mz_I x3), (4, mz_I x4)], [], μ) := mz_Ev.run [13] 400 h
set_option maxRecDepth 20000 in
set_option maxHeartbeats 4000000 in
theorem w_Mo_failsAt_13 {C : mz_Cl} {Q : Option mz_V → mz_M → Prop} (p0 : Nat) (x1 : Int32) (x2 : Int32) (x3 : Int32) (x4 : Int32) (x5 : Int32) (x6 : Int32) (μ : mz_M) (h :
    if (x6 : Int32) < (0 : Int32) then
      (Q (some (mz_I x5)) μ)
    else
      (¬ (x2 : Int32) = 0 ∧ (if (x6 - x6 / x2 * x2 : Int32) = (x3 : Int32) then
        (∃ (r2 : Int32) (μ1 : mz_M), C n_Mo_termOf [mz_R 16 p0, mz_I x1, mz_I x6] μ (some (mz_I r2)) μ1 ∧
          (¬ (x4 : Int32) = 0 ∧ (if (r2 - r2 / x4 * x4 : Int32) = (0 : Int32) then
            (v_Mo_failsAt C Q (13, [(0, mz_R 16 p0), (1, mz_I x1), (2, mz_I x2), (3, mz_I x3), (4, mz_I x4), (5, mz_I x5), (6, mz_I (x6 + (-1)))], [], μ1))
          else
            (v_Mo_failsAt C Q (13, [(0, mz_R 16 p0), (1, mz_I x1), (2, mz_I x2), (3, mz_I x3), (4, mz_I x4), (5, mz_I x6), (6, mz_I (x6 + (-1)))], [], μ1)))))
      else
        (v_Mo_failsAt C Q (13, [(0, mz_R 16 p0), (1, mz_I x1), (2, mz_I x2), (3, mz_I x3), (4, mz_I x4), (5, mz_I x5), (6, mz_I (x6 + (-1)))], [], μ))))) :
  v_Mo_failsAt C Q (13, [(0, mz_R 16 p0), (1, mz_I x1), (2, mz_I x2), (3, mz_I x3), (4, mz_I x4), (5, mz_I x5), (6, mz_I x6)], [], μ) := mz_Ev.run [13] 400 h
/-! EtaSeriesModel.fits(IIIII)I, number 152 -/
abbrev v_Mo_fits (C : mz_Cl) (Q : Option mz_V → mz_M → Prop) : mz_S → Prop := mz_Ev es_SH tb_Mo_fits C Q
set_option maxRecDepth 20000 in
set_option maxHeartbeats 4000000 in
theorem w_Mo_fits_0 {C : mz_Cl} {Q : Option mz_V → mz_M → Prop} (p0 : Nat) (x1 : Int32) (x2 : Int32) (x3 : Int32) (x4 : Int32) (x5 : Int32) (μ : mz_M) (h :
    ∃ (r2 : Int32) (μ1 : mz_M), C n_Mo_isSeries [mz_I x1] μ (some (mz_I r2)) μ1 ∧
      (if (r2 : Int32) = (0 : Int32) then
        (Q (some (mz_I ((-1000001)))) μ1)
      else
        (∃ (r4 : Int32) (μ3 : mz_M), C n_Mo_isStep [mz_I x2, mz_I x3] μ1 (some (mz_I r4)) μ3 ∧
          (if (r4 : Int32) = (0 : Int32) then
            (Q (some (mz_I ((-1000001)))) μ3)
          else
            (∃ (r6 : Int32) (μ5 : mz_M), C n_Mo_in [mz_L ((x4 : Int32).toInt64), mz_L 2, mz_L 9] μ3 (some (mz_I r6)) μ5 ∧
              (if (r6 : Int32) = (0 : Int32) then
                (Q (some (mz_I ((-1000001)))) μ5)
              else
                (∃ (r8 : Int32) (μ7 : mz_M), C n_Mo_in [mz_L ((x5 : Int32).toInt64), mz_L 0, mz_L 1] μ5 (some (mz_I r8)) μ7 ∧
                  (if (r8 : Int32) = (0 : Int32) then
                    (Q (some (mz_I ((-1000001)))) μ7)
                  else
                    (∃ (r10 : Int32) (μ9 : mz_M), C n_Mo_many [mz_R 16 p0, mz_I x1] μ7 (some (mz_I r10)) μ9 ∧
                      (if (r10 : Int32) = (0 : Int32) then
                        (Q (some (mz_I ((-1000011)))) μ9)
                      else
                        (∃ (r12 : Int32) (μ11 : mz_M), C n_Mo_failsAt [mz_R 16 p0, mz_I x1, mz_I x2, mz_I x3, mz_I x4] μ9 (some (mz_I r12)) μ11 ∧
                          (if (x5 : Int32) = (1 : Int32) then
                            (Q (some (mz_I r12)) μ11)
                          else
                            (if (r12 : Int32) = ((-1000004) : Int32) then
                              (Q (some (mz_I 1)) μ11)
                            else
                              (Q (some (mz_I 0)) μ11)))))))))))))) :
  v_Mo_fits C Q (0, [(0, mz_R 16 p0), (1, mz_I x1), (2, mz_I x2), (3, mz_I x3), (4, mz_I x4), (5, mz_I x5)], [], μ) := mz_Ev.run [] 400 h
/-! EtaSeriesModel.found(III)I, number 153 -/
abbrev v_Mo_found (C : mz_Cl) (Q : Option mz_V → mz_M → Prop) : mz_S → Prop := mz_Ev es_SH tb_Mo_found C Q
set_option maxRecDepth 20000 in
set_option maxHeartbeats 4000000 in
theorem w_Mo_found_0 {C : mz_Cl} {Q : Option mz_V → mz_M → Prop} (p0 : Nat) (x1 : Int32) (x2 : Int32) (x3 : Int32) (μ : mz_M) (h :
    ∃ (r2 : Int32) (μ1 : mz_M), C n_Mo_isSeries [mz_I x1] μ (some (mz_I r2)) μ1 ∧
      (if (r2 : Int32) = (0 : Int32) then
        (Q (some (mz_I ((-1000001)))) μ1)
      else
        (∃ (r4 : Int32) (μ3 : mz_M), C n_Mo_isStep [mz_I x2, mz_I x3] μ1 (some (mz_I r4)) μ3 ∧
          (if (r4 : Int32) = (0 : Int32) then
            (Q (some (mz_I ((-1000001)))) μ3)
          else
            (∃ (r6 : Int32) (μ5 : mz_M), C n_Mo_many [mz_R 16 p0, mz_I x1] μ3 (some (mz_I r6)) μ5 ∧
              (if (r6 : Int32) = (0 : Int32) then
                (Q (some (mz_I ((-1000011)))) μ5)
              else
                (v_Mo_found C Q (32, [(0, mz_R 16 p0), (1, mz_I x1), (2, mz_I x2), (3, mz_I x3), (4, mz_I x2)], [], μ5)))))))) :
  v_Mo_found C Q (0, [(0, mz_R 16 p0), (1, mz_I x1), (2, mz_I x2), (3, mz_I x3)], [], μ) := mz_Ev.run [32, 52, 77] 400 h
set_option maxRecDepth 20000 in
set_option maxHeartbeats 4000000 in
theorem w_Mo_found_32 {C : mz_Cl} {Q : Option mz_V → mz_M → Prop} (p0 : Nat) (x1 : Int32) (x2 : Int32) (x3 : Int32) (x4 : Int32) (μ : mz_M) (h :
    if (9 : Int32) ≤ (x4 : Int32) then
      (Q (some (mz_I ((-1000004)))) μ)
    else
      (if (x4 : Int32) = (x2 : Int32) then
        (v_Mo_found C Q (52, [(0, mz_R 16 p0), (1, mz_I x1), (2, mz_I x2), (3, mz_I x3), (4, mz_I x4), (5, mz_I x3)], [], μ))
      else
        (v_Mo_found C Q (52, [(0, mz_R 16 p0), (1, mz_I x1), (2, mz_I x2), (3, mz_I x3), (4, mz_I x4), (5, mz_I 0)], [], μ)))) :
  v_Mo_found C Q (32, [(0, mz_R 16 p0), (1, mz_I x1), (2, mz_I x2), (3, mz_I x3), (4, mz_I x4)], [], μ) := mz_Ev.run [32, 52, 77] 400 h
set_option maxRecDepth 20000 in
set_option maxHeartbeats 4000000 in
theorem w_Mo_found_52 {C : mz_Cl} {Q : Option mz_V → mz_M → Prop} (p0 : Nat) (x1 : Int32) (x2 : Int32) (x3 : Int32) (x4 : Int32) (x5 : Int32) (μ : mz_M) (h :
    if (x4 : Int32) ≤ (x5 : Int32) then
      (v_Mo_found C Q (32, [(0, mz_R 16 p0), (1, mz_I x1), (2, mz_I x2), (3, mz_I x3), (4, mz_I (x4 + 1))], [], μ))
    else
      (∃ (r2 : Int32) (μ1 : mz_M), C n_Mo_many [mz_R 16 p0, mz_I x1] μ (some (mz_I r2)) μ1 ∧
        (if (r2 : Int32) ≤ (x5 + (2 * x4) : Int32) then
          (v_Mo_found C Q (32, [(0, mz_R 16 p0), (1, mz_I x1), (2, mz_I x2), (3, mz_I x3), (4, mz_I (x4 + 1))], [], μ1))
        else
          (v_Mo_found C Q (77, [(0, mz_R 16 p0), (1, mz_I x1), (2, mz_I x2), (3, mz_I x3), (4, mz_I x4), (5, mz_I x5), (6, mz_I 2)], [], μ1))))) :
  v_Mo_found C Q (52, [(0, mz_R 16 p0), (1, mz_I x1), (2, mz_I x2), (3, mz_I x3), (4, mz_I x4), (5, mz_I x5)], [], μ) := mz_Ev.run [32, 52, 77] 400 h
set_option maxRecDepth 20000 in
set_option maxHeartbeats 4000000 in
theorem w_Mo_found_77 {C : mz_Cl} {Q : Option mz_V → mz_M → Prop} (p0 : Nat) (x1 : Int32) (x2 : Int32) (x3 : Int32) (x4 : Int32) (x5 : Int32) (x6 : Int32) (μ : mz_M) (h :
    if (10 : Int32) ≤ (x6 : Int32) then
      (v_Mo_found C Q (52, [(0, mz_R 16 p0), (1, mz_I x1), (2, mz_I x2), (3, mz_I x3), (4, mz_I x4), (5, mz_I (x5 + 1))], [], μ))
    else
      (∃ (r2 : Int32) (μ1 : mz_M), C n_Mo_failsAt [mz_R 16 p0, mz_I x1, mz_I x4, mz_I x5, mz_I x6] μ (some (mz_I r2)) μ1 ∧
        (if (r2 : Int32) = ((-1000004) : Int32) then
          (Q (some (mz_I (((1000 * x4) + (100 * x5)) + x6))) μ1)
        else
          (v_Mo_found C Q (77, [(0, mz_R 16 p0), (1, mz_I x1), (2, mz_I x2), (3, mz_I x3), (4, mz_I x4), (5, mz_I x5), (6, mz_I (x6 + 1))], [], μ1))))) :
  v_Mo_found C Q (77, [(0, mz_R 16 p0), (1, mz_I x1), (2, mz_I x2), (3, mz_I x3), (4, mz_I x4), (5, mz_I x5), (6, mz_I x6)], [], μ) := mz_Ev.run [32, 52, 77] 400 h
/-! EtaSeriesModel.guess(IIII)I, number 154 -/
abbrev v_Mo_guess (C : mz_Cl) (Q : Option mz_V → mz_M → Prop) : mz_S → Prop := mz_Ev es_SH tb_Mo_guess C Q
set_option maxRecDepth 20000 in
set_option maxHeartbeats 4000000 in
theorem w_Mo_guess_0 {C : mz_Cl} {Q : Option mz_V → mz_M → Prop} (p0 : Nat) (x1 : Int32) (x2 : Int32) (x3 : Int32) (x4 : Int32) (μ : mz_M) (h :
    ∃ (r2 : Int32) (μ1 : mz_M), C n_Mo_isSeries [mz_I x1] μ (some (mz_I r2)) μ1 ∧
      (if (r2 : Int32) = (0 : Int32) then
        (Q (some (mz_I ((-1000001)))) μ1)
      else
        (∃ (r4 : Int32) (μ3 : mz_M), C n_Mo_in [mz_L ((x2 : Int32).toInt64), mz_L 0, mz_L 6] μ1 (some (mz_I r4)) μ3 ∧
          (if (r4 : Int32) = (0 : Int32) then
            (Q (some (mz_I ((-1000001)))) μ3)
          else
            (∃ (r6 : Int32) (μ5 : mz_M), C n_Mo_in [mz_L ((x3 : Int32).toInt64), mz_L 0, mz_L 10] μ3 (some (mz_I r6)) μ5 ∧
              (if (r6 : Int32) = (0 : Int32) then
                (Q (some (mz_I ((-1000001)))) μ5)
              else
                (∃ (r8 : Int32) (μ7 : mz_M), C n_Mo_in [mz_L ((x4 : Int32).toInt64), mz_L 0, mz_L 1] μ5 (some (mz_I r8)) μ7 ∧
                  (if (r8 : Int32) = (0 : Int32) then
                    (Q (some (mz_I ((-1000001)))) μ7)
                  else
                    (∃ (r10 : Int32) (μ9 : mz_M), C n_Mo_many [mz_R 16 p0, mz_I x1] μ7 (some (mz_I r10)) μ9 ∧
                      (if (r10 : Int32) = (0 : Int32) then
                        (Q (some (mz_I ((-1000011)))) μ9)
                      else
                        (∃ (r12 : Int32) (μ11 : mz_M), C n_Mo_many [mz_R 16 p0, mz_I x1] μ9 (some (mz_I r12)) μ11 ∧
                          (if (x2 : Int32) ≤ (r12 : Int32) then
                            (v_Mo_guess C Q (77, [(0, mz_R 16 p0), (1, mz_I x1), (2, mz_I x2), (3, mz_I x3), (4, mz_I x4), (5, mz_I 1), (6, mz_I 1), (7, mz_I 0)], [], μ11))
                          else
                            (Q (some (mz_I ((-1000001)))) μ11))))))))))))) :
  v_Mo_guess C Q (0, [(0, mz_R 16 p0), (1, mz_I x1), (2, mz_I x2), (3, mz_I x3), (4, mz_I x4)], [], μ) := mz_Ev.run [77, 129] 400 h
set_option maxRecDepth 20000 in
set_option maxHeartbeats 4000000 in
theorem w_Mo_guess_77 {C : mz_Cl} {Q : Option mz_V → mz_M → Prop} (p0 : Nat) (x1 : Int32) (x2 : Int32) (x3 : Int32) (x4 : Int32) (x5 : Int32) (x6 : Int32) (x7 : Int32) (μ : mz_M) (h :
    if (x2 : Int32) ≤ (x7 : Int32) then
      (v_Mo_guess C Q (129, [(4, mz_I x4), (5, mz_I x5), (6, mz_I x6), (7, mz_I x5), (8, mz_I x6)], [], μ))
    else
      (∃ (r2 : Int32) (μ1 : mz_M), C n_Mo_termOf [mz_R 16 p0, mz_I x1, mz_I x7] μ (some (mz_I r2)) μ1 ∧
        (¬ (2 : Int32) = 0 ∧ (if (r2 - r2 / 2 * 2 : Int32) = (0 : Int32) then
          (v_Mo_guess C Q (77, [(0, mz_R 16 p0), (1, mz_I x1), (2, mz_I x2), (3, mz_I x3), (4, mz_I x4), (5, mz_I (x5 * (10 - x3))), (6, mz_I (x6 * 10)), (7, mz_I (x7 + 1))], [], μ1))
        else
          (v_Mo_guess C Q (77, [(0, mz_R 16 p0), (1, mz_I x1), (2, mz_I x2), (3, mz_I x3), (4, mz_I x4), (5, mz_I (x5 * x3)), (6, mz_I (x6 * 10)), (7, mz_I (x7 + 1))], [], μ1)))))) :
  v_Mo_guess C Q (77, [(0, mz_R 16 p0), (1, mz_I x1), (2, mz_I x2), (3, mz_I x3), (4, mz_I x4), (5, mz_I x5), (6, mz_I x6), (7, mz_I x7)], [], μ) := mz_Ev.run [77, 129] 400 h
set_option maxRecDepth 20000 in
set_option maxHeartbeats 4000000 in
theorem w_Mo_guess_129 {C : mz_Cl} {Q : Option mz_V → mz_M → Prop} (x4 : Int32) (x5 : Int32) (x6 : Int32) (x7 : Int32) (x8 : Int32) (μ : mz_M) (h :
    if (x8 : Int32) = (0 : Int32) then
      (if (x4 : Int32) = (0 : Int32) then
        (¬ (x7 : Int32) = 0 ∧ (Q (some (mz_I (x5 / x7))) μ))
      else
        (¬ (x7 : Int32) = 0 ∧ (Q (some (mz_I (x6 / x7))) μ)))
    else
      (¬ (x8 : Int32) = 0 ∧ (v_Mo_guess C Q (129, [(4, mz_I x4), (5, mz_I x5), (6, mz_I x6), (7, mz_I x8), (8, mz_I (x7 - x7 / x8 * x8))], [], μ)))) :
  v_Mo_guess C Q (129, [(4, mz_I x4), (5, mz_I x5), (6, mz_I x6), (7, mz_I x7), (8, mz_I x8)], [], μ) := mz_Ev.run [77, 129] 400 h
/-! EtaSeriesModel.image()I, number 155 -/
abbrev v_Mo_image (C : mz_Cl) (Q : Option mz_V → mz_M → Prop) : mz_S → Prop := mz_Ev es_SH tb_Mo_image C Q
set_option maxRecDepth 20000 in
set_option maxHeartbeats 4000000 in
theorem w_Mo_image_0 {C : mz_Cl} {Q : Option mz_V → mz_M → Prop} (p0 : Nat) (μ : mz_M) (h :
    v_Mo_image C Q (2, [(0, mz_R 16 p0), (1, mz_I 0)], [], μ)) :
  v_Mo_image C Q (0, [(0, mz_R 16 p0)], [], μ) := mz_Ev.run [2, 29] 400 h
set_option maxRecDepth 20000 in
set_option maxHeartbeats 4000000 in
theorem w_Mo_image_2 {C : mz_Cl} {Q : Option mz_V → mz_M → Prop} (p0 : Nat) (x1 : Int32) (μ : mz_M) (h :
    if (166 : Int32) ≤ (x1 : Int32) then
      (v_Mo_image C Q (29, [(0, mz_R 16 p0), (1, mz_I 0)], [], μ))
    else
      (vp_in x1 166 ∧ (vp_in x1 166 ∧ (v_Mo_image C Q (2, [(0, mz_R 16 p0), (1, mz_I (x1 + 1))], [], mz_wI μ 11 (x1 : Int32).toNatClampNeg (μ.1 1 (x1 : Int32).toNatClampNeg)))))) :
  v_Mo_image C Q (2, [(0, mz_R 16 p0), (1, mz_I x1)], [], μ) := mz_Ev.run [2, 29] 400 h
set_option maxRecDepth 20000 in
set_option maxHeartbeats 4000000 in
theorem w_Mo_image_29 {C : mz_Cl} {Q : Option mz_V → mz_M → Prop} (p0 : Nat) (x1 : Int32) (μ : mz_M) (h :
    if (996 : Int32) ≤ (x1 : Int32) then
      (Q (some (mz_I 1)) (mz_wI μ p0 23 (μ.1 p0 8)))
    else
      (vp_in x1 996 ∧ (vp_in x1 996 ∧ (v_Mo_image C Q (29, [(0, mz_R 16 p0), (1, mz_I (x1 + 1))], [], mz_wI μ 12 (x1 : Int32).toNatClampNeg (μ.1 5 (x1 : Int32).toNatClampNeg)))))) :
  v_Mo_image C Q (29, [(0, mz_R 16 p0), (1, mz_I x1)], [], μ) := mz_Ev.run [2, 29] 400 h
/-! EtaSeriesModel.restore()I, number 156 -/
abbrev v_Mo_restore (C : mz_Cl) (Q : Option mz_V → mz_M → Prop) : mz_S → Prop := mz_Ev es_SH tb_Mo_restore C Q
set_option maxRecDepth 20000 in
set_option maxHeartbeats 4000000 in
theorem w_Mo_restore_0 {C : mz_Cl} {Q : Option mz_V → mz_M → Prop} (p0 : Nat) (μ : mz_M) (h :
    if (0 : Int32) ≤ (μ.1 p0 23 : Int32) then
      (v_Mo_restore C Q (12, [(0, mz_R 16 p0), (1, mz_I 0)], [], μ))
    else
      (Q (some (mz_I ((-1000004)))) μ)) :
  v_Mo_restore C Q (0, [(0, mz_R 16 p0)], [], μ) := mz_Ev.run [12, 39] 400 h
set_option maxRecDepth 20000 in
set_option maxHeartbeats 4000000 in
theorem w_Mo_restore_12 {C : mz_Cl} {Q : Option mz_V → mz_M → Prop} (p0 : Nat) (x1 : Int32) (μ : mz_M) (h :
    if (166 : Int32) ≤ (x1 : Int32) then
      (v_Mo_restore C Q (39, [(0, mz_R 16 p0), (1, mz_I 0)], [], μ))
    else
      (vp_in x1 166 ∧ (vp_in x1 166 ∧ (v_Mo_restore C Q (12, [(0, mz_R 16 p0), (1, mz_I (x1 + 1))], [], mz_wI μ 1 (x1 : Int32).toNatClampNeg (μ.1 11 (x1 : Int32).toNatClampNeg)))))) :
  v_Mo_restore C Q (12, [(0, mz_R 16 p0), (1, mz_I x1)], [], μ) := mz_Ev.run [12, 39] 400 h
set_option maxRecDepth 20000 in
set_option maxHeartbeats 4000000 in
theorem w_Mo_restore_39 {C : mz_Cl} {Q : Option mz_V → mz_M → Prop} (p0 : Nat) (x1 : Int32) (μ : mz_M) (h :
    if (996 : Int32) ≤ (x1 : Int32) then
      (Q (some (mz_I 1)) (mz_wI μ p0 8 (μ.1 p0 23)))
    else
      (vp_in x1 996 ∧ (vp_in x1 996 ∧ (v_Mo_restore C Q (39, [(0, mz_R 16 p0), (1, mz_I (x1 + 1))], [], mz_wI μ 5 (x1 : Int32).toNatClampNeg (μ.1 12 (x1 : Int32).toNatClampNeg)))))) :
  v_Mo_restore C Q (39, [(0, mz_R 16 p0), (1, mz_I x1)], [], μ) := mz_Ev.run [12, 39] 400 h
/-! EtaSeriesModel.isSheet(I)Z, number 157 -/
abbrev v_Mo_isSheet (C : mz_Cl) (Q : Option mz_V → mz_M → Prop) : mz_S → Prop := mz_Ev es_SH tb_Mo_isSheet C Q
set_option maxRecDepth 20000 in
set_option maxHeartbeats 4000000 in
theorem w_Mo_isSheet_0 {C : mz_Cl} {Q : Option mz_V → mz_M → Prop} (x0 : Int32) (μ : mz_M) (h :
    ∃ (r2 : Int32) (μ1 : mz_M), C n_Mo_in [mz_L ((x0 : Int32).toInt64), mz_L 0, mz_L 3] μ (some (mz_I r2)) μ1 ∧
      (((r2 : Int32) = 0 ∨ (r2 : Int32) = 1) ∧ Q (some (mz_I r2)) μ1)) :
  v_Mo_isSheet C Q (0, [(0, mz_I x0)], [], μ) := mz_Ev.run [] 400 h
/-! EtaSeriesModel.cut(JI)J, number 158 -/
abbrev v_Mo_cut (C : mz_Cl) (Q : Option mz_V → mz_M → Prop) : mz_S → Prop := mz_Ev es_SH tb_Mo_cut C Q
set_option maxRecDepth 20000 in
set_option maxHeartbeats 4000000 in
theorem w_Mo_cut_0 {C : mz_Cl} {Q : Option mz_V → mz_M → Prop} (y0 : Int64) (x2 : Int32) (μ : mz_M) (h :
    if (x2 : Int32) = (0 : Int32) then
      (Q (some (mz_L ((((y0 : Int64).toInt32 : Int32).toInt8.toInt32 : Int32).toInt64))) μ)
    else
      (if (x2 : Int32) = (1 : Int32) then
        (Q (some (mz_L ((((y0 : Int64).toInt32 : Int32).toInt16.toInt32 : Int32).toInt64))) μ)
      else
        (if (x2 : Int32) = (2 : Int32) then
          (Q (some (mz_L (((y0 : Int64).toInt32 : Int32).toInt64))) μ)
        else
          (Q (some (mz_L y0)) μ)))) :
  v_Mo_cut C Q (0, [(0, mz_L y0), (2, mz_I x2)], [], μ) := mz_Ev.run [] 400 h
/-! EtaSeriesModel.sheet(III)I, number 159 -/
abbrev v_Mo_sheet (C : mz_Cl) (Q : Option mz_V → mz_M → Prop) : mz_S → Prop := mz_Ev es_SH tb_Mo_sheet C Q
set_option maxRecDepth 20000 in
set_option maxHeartbeats 4000000 in
theorem w_Mo_sheet_0 {C : mz_Cl} {Q : Option mz_V → mz_M → Prop} (p0 : Nat) (x1 : Int32) (x2 : Int32) (x3 : Int32) (μ : mz_M) (h :
    ∃ (r2 : Int32) (μ1 : mz_M), C n_Mo_isSheet [mz_I x1] μ (some (mz_I r2)) μ1 ∧
      (if (r2 : Int32) = (0 : Int32) then
        (Q (some (mz_I ((-1000001)))) μ1)
      else
        (∃ (r4 : Int32) (μ3 : mz_M), C n_Mo_in [mz_L ((x2 : Int32).toInt64), mz_L 0, mz_L 3] μ1 (some (mz_I r4)) μ3 ∧
          (if (r4 : Int32) = (0 : Int32) then
            (Q (some (mz_I ((-1000001)))) μ3)
          else
            (if (x3 : Int32) ≤ (40 : Int32) then
              (if (0 : Int32) ≤ (x3 : Int32) then
                (vp_in x1 4 ∧ (vp_in x1 4 ∧ (v_Mo_sheet C Q (53, [(0, mz_R 16 p0), (1, mz_I x1), (3, mz_I x3), (4, mz_I 0)], [], mz_wI (mz_wI μ3 13 (x1 : Int32).toNatClampNeg x2) 14 (x1 : Int32).toNatClampNeg x3))))
              else
                (Q (some (mz_I ((-1000014)))) μ3))
            else
              (Q (some (mz_I ((-1000001)))) μ3)))))) :
  v_Mo_sheet C Q (0, [(0, mz_R 16 p0), (1, mz_I x1), (2, mz_I x2), (3, mz_I x3)], [], μ) := mz_Ev.run [53] 400 h
set_option maxRecDepth 20000 in
set_option maxHeartbeats 4000000 in
theorem w_Mo_sheet_53 {C : mz_Cl} {Q : Option mz_V → mz_M → Prop} (p0 : Nat) (x1 : Int32) (x3 : Int32) (x4 : Int32) (μ : mz_M) (h :
    if (40 : Int32) ≤ (x4 : Int32) then
      (Q (some (mz_I x3)) μ)
    else
      (vp_in ((40 * x1) + x4) 160 ∧ (v_Mo_sheet C Q (53, [(0, mz_R 16 p0), (1, mz_I x1), (3, mz_I x3), (4, mz_I (x4 + 1))], [], mz_wL μ 15 ((40 * x1) + x4 : Int32).toNatClampNeg 0)))) :
  v_Mo_sheet C Q (53, [(0, mz_R 16 p0), (1, mz_I x1), (3, mz_I x3), (4, mz_I x4)], [], μ) := mz_Ev.run [53] 400 h
/-! EtaSeriesModel.drop(I)I, number 160 -/
abbrev v_Mo_drop (C : mz_Cl) (Q : Option mz_V → mz_M → Prop) : mz_S → Prop := mz_Ev es_SH tb_Mo_drop C Q
set_option maxRecDepth 20000 in
set_option maxHeartbeats 4000000 in
theorem w_Mo_drop_0 {C : mz_Cl} {Q : Option mz_V → mz_M → Prop} (p0 : Nat) (x1 : Int32) (μ : mz_M) (h :
    ∃ (r2 : Int32) (μ1 : mz_M), C n_Mo_isSheet [mz_I x1] μ (some (mz_I r2)) μ1 ∧
      (if (r2 : Int32) = (0 : Int32) then
        (Q (some (mz_I ((-1000001)))) μ1)
      else
        (vp_in x1 4 ∧ (if (0 : Int32) ≤ (μ1.1 13 (x1 : Int32).toNatClampNeg : Int32) then
          (vp_in x1 4 ∧ (vp_in x1 4 ∧ (Q (some (mz_I ((mz_wI μ1 13 (x1 : Int32).toNatClampNeg ((-1))).1 14 (x1 : Int32).toNatClampNeg))) (mz_wI μ1 13 (x1 : Int32).toNatClampNeg ((-1))))))
        else
          (Q (some (mz_I ((-1000011)))) μ1))))) :
  v_Mo_drop C Q (0, [(0, mz_R 16 p0), (1, mz_I x1)], [], μ) := mz_Ev.run [] 400 h
/-! EtaSeriesModel.why(IIII)I, number 161 -/
abbrev v_Mo_why (C : mz_Cl) (Q : Option mz_V → mz_M → Prop) : mz_S → Prop := mz_Ev es_SH tb_Mo_why C Q
set_option maxRecDepth 20000 in
set_option maxHeartbeats 4000000 in
theorem w_Mo_why_0 {C : mz_Cl} {Q : Option mz_V → mz_M → Prop} (p0 : Nat) (x1 : Int32) (x2 : Int32) (x3 : Int32) (x4 : Int32) (μ : mz_M) (h :
    vp_in x1 4 ∧ (if (0 : Int32) ≤ (μ.1 13 (x1 : Int32).toNatClampNeg : Int32) then
      (vp_in x1 4 ∧ (if (μ.1 13 (x1 : Int32).toNatClampNeg : Int32) = (x2 : Int32) then
        (if (x3 : Int32) < (0 : Int32) then
          (Q (some (mz_I ((-1000013)))) μ)
        else
          (vp_in x1 4 ∧ (if (x4 : Int32) ≤ ((μ.1 14 (x1 : Int32).toNatClampNeg) - x3 : Int32) then
            (Q (some (mz_I 0)) μ)
          else
            (Q (some (mz_I ((-1000013)))) μ))))
      else
        (Q (some (mz_I ((-1000012)))) μ)))
    else
      (Q (some (mz_I ((-1000011)))) μ))) :
  v_Mo_why C Q (0, [(0, mz_R 16 p0), (1, mz_I x1), (2, mz_I x2), (3, mz_I x3), (4, mz_I x4)], [], μ) := mz_Ev.run [] 400 h
/-! EtaSeriesModel.item(IIIJ)I, number 162 -/
abbrev v_Mo_item (C : mz_Cl) (Q : Option mz_V → mz_M → Prop) : mz_S → Prop := mz_Ev es_SH tb_Mo_item C Q
set_option maxRecDepth 20000 in
set_option maxHeartbeats 4000000 in
theorem w_Mo_item_0 {C : mz_Cl} {Q : Option mz_V → mz_M → Prop} (p0 : Nat) (x1 : Int32) (x2 : Int32) (x3 : Int32) (y4 : Int64) (μ : mz_M) (h :
    ∃ (r2 : Int32) (μ1 : mz_M), C n_Mo_isSheet [mz_I x1] μ (some (mz_I r2)) μ1 ∧
      (if (r2 : Int32) = (0 : Int32) then
        (Q (some (mz_I ((-1000001)))) μ1)
      else
        (∃ (r4 : Int32) (μ3 : mz_M), C n_Mo_in [mz_L ((x2 : Int32).toInt64), mz_L 0, mz_L 3] μ1 (some (mz_I r4)) μ3 ∧
          (if (r4 : Int32) = (0 : Int32) then
            (Q (some (mz_I ((-1000001)))) μ3)
          else
            (∃ (r6 : Int32) (μ5 : mz_M), C n_Mo_why [mz_R 16 p0, mz_I x1, mz_I x2, mz_I x3, mz_I 1] μ3 (some (mz_I r6)) μ5 ∧
              (if (0 : Int32) ≤ (r6 : Int32) then
                (∃ (r8 : Int64) (μ7 : mz_M), C n_Mo_cut [mz_L y4, mz_I x2] μ5 (some (mz_L r8)) μ7 ∧
                  (vp_in ((40 * x1) + x3) 160 ∧ (Q (some (mz_I 1)) (mz_wL μ7 15 ((40 * x1) + x3 : Int32).toNatClampNeg r8))))
              else
                (Q (some (mz_I r6)) μ5))))))) :
  v_Mo_item C Q (0, [(0, mz_R 16 p0), (1, mz_I x1), (2, mz_I x2), (3, mz_I x3), (4, mz_L y4)], [], μ) := mz_Ev.run [] 400 h
/-! EtaSeriesModel.copy(IIIII)I, number 163 -/
abbrev v_Mo_copy (C : mz_Cl) (Q : Option mz_V → mz_M → Prop) : mz_S → Prop := mz_Ev es_SH tb_Mo_copy C Q
set_option maxRecDepth 20000 in
set_option maxHeartbeats 4000000 in
theorem w_Mo_copy_0 {C : mz_Cl} {Q : Option mz_V → mz_M → Prop} (p0 : Nat) (x1 : Int32) (x2 : Int32) (x3 : Int32) (x4 : Int32) (x5 : Int32) (μ : mz_M) (h :
    ∃ (r2 : Int32) (μ1 : mz_M), C n_Mo_isSheet [mz_I x1] μ (some (mz_I r2)) μ1 ∧
      (if (r2 : Int32) = (0 : Int32) then
        (Q (some (mz_I ((-1000001)))) μ1)
      else
        (∃ (r4 : Int32) (μ3 : mz_M), C n_Mo_isSheet [mz_I x3] μ1 (some (mz_I r4)) μ3 ∧
          (if (r4 : Int32) = (0 : Int32) then
            (Q (some (mz_I ((-1000001)))) μ3)
          else
            (vp_in x1 4 ∧ (if (μ3.1 13 (x1 : Int32).toNatClampNeg : Int32) < (0 : Int32) then
              (Q (some (mz_I ((-1000011)))) μ3)
            else
              (vp_in x3 4 ∧ (if (0 : Int32) ≤ (μ3.1 13 (x3 : Int32).toNatClampNeg : Int32) then
                (vp_in x1 4 ∧ (vp_in x3 4 ∧ (if (μ3.1 13 (x1 : Int32).toNatClampNeg : Int32) = (μ3.1 13 (x3 : Int32).toNatClampNeg : Int32) then
                  (if (x5 : Int32) < (0 : Int32) then
                    (Q (some (mz_I ((-1000013)))) μ3)
                  else
                    (if (x2 : Int32) < (0 : Int32) then
                      (Q (some (mz_I ((-1000013)))) μ3)
                    else
                      (if (x4 : Int32) < (0 : Int32) then
                        (Q (some (mz_I ((-1000013)))) μ3)
                      else
                        (vp_in x1 4 ∧ (if (0 : Int32) < (lg_cmp (((x2 : Int32).toInt64) + ((x5 : Int32).toInt64)) ((μ3.1 14 (x1 : Int32).toNatClampNeg : Int32).toInt64) : Int32) then
                          (Q (some (mz_I ((-1000013)))) μ3)
                        else
                          (vp_in x3 4 ∧ (if (lg_cmp (((x4 : Int32).toInt64) + ((x5 : Int32).toInt64)) ((μ3.1 14 (x3 : Int32).toNatClampNeg : Int32).toInt64) : Int32) ≤ (0 : Int32) then
                            (v_Mo_copy C Q (113, [(0, mz_R 16 p0), (1, mz_I x1), (2, mz_I x2), (3, mz_I x3), (4, mz_I x4), (5, mz_I x5), (6, mz_I 0)], [], μ3))
                          else
                            (Q (some (mz_I ((-1000013)))) μ3))))))))
                else
                  (Q (some (mz_I ((-1000012)))) μ3))))
              else
                (Q (some (mz_I ((-1000011)))) μ3))))))))) :
  v_Mo_copy C Q (0, [(0, mz_R 16 p0), (1, mz_I x1), (2, mz_I x2), (3, mz_I x3), (4, mz_I x4), (5, mz_I x5)], [], μ) := mz_Ev.run [113, 150] 400 h
set_option maxRecDepth 20000 in
set_option maxHeartbeats 4000000 in
theorem w_Mo_copy_113 {C : mz_Cl} {Q : Option mz_V → mz_M → Prop} (p0 : Nat) (x1 : Int32) (x2 : Int32) (x3 : Int32) (x4 : Int32) (x5 : Int32) (x6 : Int32) (μ : mz_M) (h :
    if (x5 : Int32) ≤ (x6 : Int32) then
      (v_Mo_copy C Q (150, [(0, mz_R 16 p0), (3, mz_I x3), (4, mz_I x4), (5, mz_I x5), (6, mz_I 0)], [], μ))
    else
      (vp_in (((40 * x1) + x2) + x6) 160 ∧ (vp_in x6 40 ∧ (v_Mo_copy C Q (113, [(0, mz_R 16 p0), (1, mz_I x1), (2, mz_I x2), (3, mz_I x3), (4, mz_I x4), (5, mz_I x5), (6, mz_I (x6 + 1))], [], mz_wL μ 16 (x6 : Int32).toNatClampNeg (μ.2 15 (((40 * x1) + x2) + x6 : Int32).toNatClampNeg)))))) :
  v_Mo_copy C Q (113, [(0, mz_R 16 p0), (1, mz_I x1), (2, mz_I x2), (3, mz_I x3), (4, mz_I x4), (5, mz_I x5), (6, mz_I x6)], [], μ) := mz_Ev.run [113, 150] 400 h
set_option maxRecDepth 20000 in
set_option maxHeartbeats 4000000 in
theorem w_Mo_copy_150 {C : mz_Cl} {Q : Option mz_V → mz_M → Prop} (p0 : Nat) (x3 : Int32) (x4 : Int32) (x5 : Int32) (x6 : Int32) (μ : mz_M) (h :
    if (x5 : Int32) ≤ (x6 : Int32) then
      (Q (some (mz_I x5)) μ)
    else
      (vp_in x6 40 ∧ (vp_in (((40 * x3) + x4) + x6) 160 ∧ (v_Mo_copy C Q (150, [(0, mz_R 16 p0), (3, mz_I x3), (4, mz_I x4), (5, mz_I x5), (6, mz_I (x6 + 1))], [], mz_wL μ 15 (((40 * x3) + x4) + x6 : Int32).toNatClampNeg (μ.2 16 (x6 : Int32).toNatClampNeg)))))) :
  v_Mo_copy C Q (150, [(0, mz_R 16 p0), (3, mz_I x3), (4, mz_I x4), (5, mz_I x5), (6, mz_I x6)], [], μ) := mz_Ev.run [113, 150] 400 h
/-! EtaSeriesModel.whyPairs(IIII)I, number 164 -/
abbrev v_Mo_whyPairs (C : mz_Cl) (Q : Option mz_V → mz_M → Prop) : mz_S → Prop := mz_Ev es_SH tb_Mo_whyPairs C Q
set_option maxRecDepth 20000 in
set_option maxHeartbeats 4000000 in
theorem w_Mo_whyPairs_0 {C : mz_Cl} {Q : Option mz_V → mz_M → Prop} (p0 : Nat) (x1 : Int32) (x2 : Int32) (x3 : Int32) (x4 : Int32) (μ : mz_M) (h :
    ∃ (r2 : Int32) (μ1 : mz_M), C n_Mo_why [mz_R 16 p0, mz_I x1, mz_I x2, mz_I x3, mz_I (2 * x4)] μ (some (mz_I r2)) μ1 ∧
      (v_Mo_whyPairs C Q (16, [(0, mz_R 16 p0), (1, mz_I x1), (3, mz_I x3), (4, mz_I x4), (5, mz_I r2), (6, mz_I 0)], [], μ1))) :
  v_Mo_whyPairs C Q (0, [(0, mz_R 16 p0), (1, mz_I x1), (2, mz_I x2), (3, mz_I x3), (4, mz_I x4)], [], μ) := mz_Ev.run [16] 400 h
set_option maxRecDepth 20000 in
set_option maxHeartbeats 4000000 in
theorem w_Mo_whyPairs_16 {C : mz_Cl} {Q : Option mz_V → mz_M → Prop} (p0 : Nat) (x1 : Int32) (x3 : Int32) (x4 : Int32) (x5 : Int32) (x6 : Int32) (μ : mz_M) (h :
    if (x4 : Int32) ≤ (x6 : Int32) then
      (Q (some (mz_I x5)) μ)
    else
      (if (x5 : Int32) = (0 : Int32) then
        (vp_in (((40 * x1) + x3) + (2 * x6)) 160 ∧ (∃ (r2 : Int32) (μ1 : mz_M), C n_Mo_in [mz_L (μ.2 15 (((40 * x1) + x3) + (2 * x6) : Int32).toNatClampNeg), mz_L 1, mz_L 12] μ (some (mz_I r2)) μ1 ∧
          (if (r2 : Int32) = (0 : Int32) then
            (v_Mo_whyPairs C Q (16, [(0, mz_R 16 p0), (1, mz_I x1), (3, mz_I x3), (4, mz_I x4), (5, mz_I ((-1000002))), (6, mz_I (x6 + 1))], [], μ1))
          else
            (vp_in ((((40 * x1) + x3) + (2 * x6)) + 1) 160 ∧ (∃ (r4 : Int32) (μ3 : mz_M), C n_Mo_in [mz_L (μ1.2 15 ((((40 * x1) + x3) + (2 * x6)) + 1 : Int32).toNatClampNeg), mz_L ((-9)), mz_L 9] μ1 (some (mz_I r4)) μ3 ∧
              (if (r4 : Int32) = (0 : Int32) then
                (v_Mo_whyPairs C Q (16, [(0, mz_R 16 p0), (1, mz_I x1), (3, mz_I x3), (4, mz_I x4), (5, mz_I ((-1000002))), (6, mz_I (x6 + 1))], [], μ3))
              else
                (v_Mo_whyPairs C Q (16, [(0, mz_R 16 p0), (1, mz_I x1), (3, mz_I x3), (4, mz_I x4), (5, mz_I 0), (6, mz_I (x6 + 1))], [], μ3))))))))
      else
        (Q (some (mz_I x5)) μ))) :
  v_Mo_whyPairs C Q (16, [(0, mz_R 16 p0), (1, mz_I x1), (3, mz_I x3), (4, mz_I x4), (5, mz_I x5), (6, mz_I x6)], [], μ) := mz_Ev.run [16] 400 h
/-! EtaSeriesModel.levelOf(II)I, number 165 -/
abbrev v_Mo_levelOf (C : mz_Cl) (Q : Option mz_V → mz_M → Prop) : mz_S → Prop := mz_Ev es_SH tb_Mo_levelOf C Q
set_option maxRecDepth 20000 in
set_option maxHeartbeats 4000000 in
theorem w_Mo_levelOf_0 {C : mz_Cl} {Q : Option mz_V → mz_M → Prop} (p0 : Nat) (x1 : Int32) (x2 : Int32) (μ : mz_M) (h :
    v_Mo_levelOf C Q (2, [(0, mz_R 16 p0), (1, mz_I x1), (2, mz_I x2), (3, mz_I 1)], [], μ)) :
  v_Mo_levelOf C Q (0, [(0, mz_R 16 p0), (1, mz_I x1), (2, mz_I x2)], [], μ) := mz_Ev.run [2, 21] 400 h
set_option maxRecDepth 20000 in
set_option maxHeartbeats 4000000 in
theorem w_Mo_levelOf_2 {C : mz_Cl} {Q : Option mz_V → mz_M → Prop} (p0 : Nat) (x1 : Int32) (x2 : Int32) (x3 : Int32) (μ : mz_M) (h :
    if (600 : Int32) < (x3 : Int32) then
      (Q (some (mz_I ((-1000004)))) μ)
    else
      (v_Mo_levelOf C Q (21, [(0, mz_R 16 p0), (1, mz_I x1), (2, mz_I x2), (3, mz_I x3), (4, mz_L 0), (6, mz_L 0), (8, mz_I 1), (9, mz_I 0)], [], μ))) :
  v_Mo_levelOf C Q (2, [(0, mz_R 16 p0), (1, mz_I x1), (2, mz_I x2), (3, mz_I x3)], [], μ) := mz_Ev.run [2, 21] 400 h
set_option maxRecDepth 20000 in
set_option maxHeartbeats 4000000 in
theorem w_Mo_levelOf_21 {C : mz_Cl} {Q : Option mz_V → mz_M → Prop} (p0 : Nat) (x1 : Int32) (x2 : Int32) (x3 : Int32) (y4 : Int64) (y6 : Int64) (x8 : Int32) (x9 : Int32) (μ : mz_M) (h :
    if (x2 : Int32) ≤ (x9 : Int32) then
      (if (x8 : Int32) = (0 : Int32) then
        (v_Mo_levelOf C Q (2, [(0, mz_R 16 p0), (1, mz_I x1), (2, mz_I x2), (3, mz_I (x3 + 1))], [], μ))
      else
        (¬ (24 : Int64) = 0 ∧ (if (lg_cmp (y4 - y4 / 24 * 24) 0 : Int32) = (0 : Int32) then
          (¬ (24 : Int64) = 0 ∧ (if (lg_cmp (y6 - y6 / 24 * 24) 0 : Int32) = (0 : Int32) then
            (Q (some (mz_I x3)) μ)
          else
            (v_Mo_levelOf C Q (2, [(0, mz_R 16 p0), (1, mz_I x1), (2, mz_I x2), (3, mz_I (x3 + 1))], [], μ))))
        else
          (v_Mo_levelOf C Q (2, [(0, mz_R 16 p0), (1, mz_I x1), (2, mz_I x2), (3, mz_I (x3 + 1))], [], μ)))))
    else
      (vp_in (x1 + (2 * x9)) 160 ∧ (vp_in ((x1 + (2 * x9)) + 1) 160 ∧ (if (x8 : Int32) = (0 : Int32) then
        (¬ (μ.2 15 (x1 + (2 * x9) : Int32).toNatClampNeg : Int64) = 0 ∧ (v_Mo_levelOf C Q (21, [(0, mz_R 16 p0), (1, mz_I x1), (2, mz_I x2), (3, mz_I x3), (4, mz_L (y4 + ((μ.2 15 (x1 + (2 * x9) : Int32).toNatClampNeg) * (μ.2 15 ((x1 + (2 * x9)) + 1 : Int32).toNatClampNeg)))), (6, mz_L (y6 + ((((x3 : Int32).toInt64) / (μ.2 15 (x1 + (2 * x9) : Int32).toNatClampNeg)) * (μ.2 15 ((x1 + (2 * x9)) + 1 : Int32).toNatClampNeg)))), (8, mz_I 0), (9, mz_I (x9 + 1))], [], μ)))
      else
        (if (lg_cmp (μ.2 15 ((x1 + (2 * x9)) + 1 : Int32).toNatClampNeg) 0 : Int32) = (0 : Int32) then
          (¬ (μ.2 15 (x1 + (2 * x9) : Int32).toNatClampNeg : Int64) = 0 ∧ (v_Mo_levelOf C Q (21, [(0, mz_R 16 p0), (1, mz_I x1), (2, mz_I x2), (3, mz_I x3), (4, mz_L (y4 + ((μ.2 15 (x1 + (2 * x9) : Int32).toNatClampNeg) * (μ.2 15 ((x1 + (2 * x9)) + 1 : Int32).toNatClampNeg)))), (6, mz_L (y6 + ((((x3 : Int32).toInt64) / (μ.2 15 (x1 + (2 * x9) : Int32).toNatClampNeg)) * (μ.2 15 ((x1 + (2 * x9)) + 1 : Int32).toNatClampNeg)))), (8, mz_I 1), (9, mz_I (x9 + 1))], [], μ)))
        else
          (¬ (μ.2 15 (x1 + (2 * x9) : Int32).toNatClampNeg : Int64) = 0 ∧ (if (lg_cmp (((x3 : Int32).toInt64) - ((x3 : Int32).toInt64) / (μ.2 15 (x1 + (2 * x9) : Int32).toNatClampNeg) * (μ.2 15 (x1 + (2 * x9) : Int32).toNatClampNeg)) 0 : Int32) = (0 : Int32) then
            (¬ (μ.2 15 (x1 + (2 * x9) : Int32).toNatClampNeg : Int64) = 0 ∧ (v_Mo_levelOf C Q (21, [(0, mz_R 16 p0), (1, mz_I x1), (2, mz_I x2), (3, mz_I x3), (4, mz_L (y4 + ((μ.2 15 (x1 + (2 * x9) : Int32).toNatClampNeg) * (μ.2 15 ((x1 + (2 * x9)) + 1 : Int32).toNatClampNeg)))), (6, mz_L (y6 + ((((x3 : Int32).toInt64) / (μ.2 15 (x1 + (2 * x9) : Int32).toNatClampNeg)) * (μ.2 15 ((x1 + (2 * x9)) + 1 : Int32).toNatClampNeg)))), (8, mz_I 1), (9, mz_I (x9 + 1))], [], μ)))
          else
            (¬ (μ.2 15 (x1 + (2 * x9) : Int32).toNatClampNeg : Int64) = 0 ∧ (v_Mo_levelOf C Q (21, [(0, mz_R 16 p0), (1, mz_I x1), (2, mz_I x2), (3, mz_I x3), (4, mz_L (y4 + ((μ.2 15 (x1 + (2 * x9) : Int32).toNatClampNeg) * (μ.2 15 ((x1 + (2 * x9)) + 1 : Int32).toNatClampNeg)))), (6, mz_L (y6 + ((((x3 : Int32).toInt64) / (μ.2 15 (x1 + (2 * x9) : Int32).toNatClampNeg)) * (μ.2 15 ((x1 + (2 * x9)) + 1 : Int32).toNatClampNeg)))), (8, mz_I 0), (9, mz_I (x9 + 1))], [], μ)))))))))) :
  v_Mo_levelOf C Q (21, [(0, mz_R 16 p0), (1, mz_I x1), (2, mz_I x2), (3, mz_I x3), (4, mz_L y4), (6, mz_L y6), (8, mz_I x8), (9, mz_I x9)], [], μ) := mz_Ev.run [2, 21] 400 h
/-! EtaSeriesModel.indexOf(I)I, number 166 -/
abbrev v_Mo_indexOf (C : mz_Cl) (Q : Option mz_V → mz_M → Prop) : mz_S → Prop := mz_Ev es_SH tb_Mo_indexOf C Q
set_option maxRecDepth 20000 in
set_option maxHeartbeats 4000000 in
theorem w_Mo_indexOf_0 {C : mz_Cl} {Q : Option mz_V → mz_M → Prop} (x0 : Int32) (μ : mz_M) (h :
    v_Mo_indexOf C Q (6, [(1, mz_I x0), (2, mz_I x0), (3, mz_I 2)], [], μ)) :
  v_Mo_indexOf C Q (0, [(0, mz_I x0)], [], μ) := mz_Ev.run [6, 25] 400 h
set_option maxRecDepth 20000 in
set_option maxHeartbeats 4000000 in
theorem w_Mo_indexOf_6 {C : mz_Cl} {Q : Option mz_V → mz_M → Prop} (x1 : Int32) (x2 : Int32) (x3 : Int32) (μ : mz_M) (h :
    if (x2 : Int32) < (x3 : Int32) then
      (Q (some (mz_I x1)) μ)
    else
      (¬ (x3 : Int32) = 0 ∧ (if (x2 - x2 / x3 * x3 : Int32) = (0 : Int32) then
        (¬ (x3 : Int32) = 0 ∧ (v_Mo_indexOf C Q (25, [(1, mz_I ((x1 / x3) * (x3 + 1))), (2, mz_I x2), (3, mz_I x3)], [], μ)))
      else
        (v_Mo_indexOf C Q (6, [(1, mz_I x1), (2, mz_I x2), (3, mz_I (x3 + 1))], [], μ))))) :
  v_Mo_indexOf C Q (6, [(1, mz_I x1), (2, mz_I x2), (3, mz_I x3)], [], μ) := mz_Ev.run [6, 25] 400 h
set_option maxRecDepth 20000 in
set_option maxHeartbeats 4000000 in
theorem w_Mo_indexOf_25 {C : mz_Cl} {Q : Option mz_V → mz_M → Prop} (x1 : Int32) (x2 : Int32) (x3 : Int32) (μ : mz_M) (h :
    ¬ (x3 : Int32) = 0 ∧ (if (x2 - x2 / x3 * x3 : Int32) = (0 : Int32) then
      (¬ (x3 : Int32) = 0 ∧ (v_Mo_indexOf C Q (25, [(1, mz_I x1), (2, mz_I (x2 / x3)), (3, mz_I x3)], [], μ)))
    else
      (v_Mo_indexOf C Q (6, [(1, mz_I x1), (2, mz_I x2), (3, mz_I (x3 + 1))], [], μ)))) :
  v_Mo_indexOf C Q (25, [(1, mz_I x1), (2, mz_I x2), (3, mz_I x3)], [], μ) := mz_Ev.run [6, 25] 400 h
/-! EtaSeriesModel.told(IIIII)I, number 167 -/
abbrev v_Mo_told (C : mz_Cl) (Q : Option mz_V → mz_M → Prop) : mz_S → Prop := mz_Ev es_SH tb_Mo_told C Q
set_option maxRecDepth 20000 in
set_option maxHeartbeats 4000000 in
theorem w_Mo_told_0 {C : mz_Cl} {Q : Option mz_V → mz_M → Prop} (p0 : Nat) (x1 : Int32) (x2 : Int32) (x3 : Int32) (x4 : Int32) (x5 : Int32) (μ : mz_M) (h :
    ∃ (r2 : Int32) (μ1 : mz_M), C n_Mo_isSheet [mz_I x1] μ (some (mz_I r2)) μ1 ∧
      (if (r2 : Int32) = (0 : Int32) then
        (Q (some (mz_I ((-1000001)))) μ1)
      else
        (∃ (r4 : Int32) (μ3 : mz_M), C n_Mo_in [mz_L ((x2 : Int32).toInt64), mz_L 0, mz_L 3] μ1 (some (mz_I r4)) μ3 ∧
          (if (r4 : Int32) = (0 : Int32) then
            (Q (some (mz_I ((-1000001)))) μ3)
          else
            (∃ (r6 : Int32) (μ5 : mz_M), C n_Mo_in [mz_L ((x4 : Int32).toInt64), mz_L 1, mz_L 6] μ3 (some (mz_I r6)) μ5 ∧
              (if (r6 : Int32) = (0 : Int32) then
                (Q (some (mz_I ((-1000001)))) μ5)
              else
                (∃ (r8 : Int32) (μ7 : mz_M), C n_Mo_in [mz_L ((x5 : Int32).toInt64), mz_L 0, mz_L 2] μ5 (some (mz_I r8)) μ7 ∧
                  (if (r8 : Int32) = (0 : Int32) then
                    (Q (some (mz_I ((-1000001)))) μ7)
                  else
                    (∃ (r10 : Int32) (μ9 : mz_M), C n_Mo_whyPairs [mz_R 16 p0, mz_I x1, mz_I x2, mz_I x3, mz_I x4] μ7 (some (mz_I r10)) μ9 ∧
                      (if (0 : Int32) ≤ (r10 : Int32) then
                        (v_Mo_told C Q (81, [(0, mz_R 16 p0), (4, mz_I x4), (5, mz_I x5), (7, mz_I ((40 * x1) + x3)), (8, mz_I 0), (9, mz_I 0)], [], μ9))
                      else
                        (Q (some (mz_I r10)) μ9))))))))))) :
  v_Mo_told C Q (0, [(0, mz_R 16 p0), (1, mz_I x1), (2, mz_I x2), (3, mz_I x3), (4, mz_I x4), (5, mz_I x5)], [], μ) := mz_Ev.run [81] 400 h
set_option maxRecDepth 20000 in
set_option maxHeartbeats 4000000 in
theorem w_Mo_told_81 {C : mz_Cl} {Q : Option mz_V → mz_M → Prop} (p0 : Nat) (x4 : Int32) (x5 : Int32) (x7 : Int32) (x8 : Int32) (x9 : Int32) (μ : mz_M) (h :
    if (x4 : Int32) ≤ (x9 : Int32) then
      (if (x5 : Int32) = (0 : Int32) then
        (Q (some (mz_I x8)) μ)
      else
        (∃ (r2 : Int32) (μ1 : mz_M), C n_Mo_levelOf [mz_R 16 p0, mz_I x7, mz_I x4] μ (some (mz_I r2)) μ1 ∧
          (if (x5 : Int32) = (1 : Int32) then
            (Q (some (mz_I r2)) μ1)
          else
            (if (r2 : Int32) = ((-1000004) : Int32) then
              (Q (some (mz_I r2)) μ1)
            else
              (if (0 : Int32) ≤ (x8 : Int32) then
                (∃ (r4 : Int32) (μ3 : mz_M), C n_Mo_indexOf [mz_I r2] μ1 (some (mz_I r4)) μ3 ∧
                  (¬ (24 : Int32) = 0 ∧ (Q (some (mz_I (((x8 * r4) / 24) + 1))) μ3)))
              else
                (Q (some (mz_I ((-1000004)))) μ1))))))
    else
      (vp_in ((x7 + (2 * x9)) + 1) 160 ∧ (v_Mo_told C Q (81, [(0, mz_R 16 p0), (4, mz_I x4), (5, mz_I x5), (7, mz_I x7), (8, mz_I (x8 + ((μ.2 15 ((x7 + (2 * x9)) + 1 : Int32).toNatClampNeg : Int64).toInt32))), (9, mz_I (x9 + 1))], [], μ)))) :
  v_Mo_told C Q (81, [(0, mz_R 16 p0), (4, mz_I x4), (5, mz_I x5), (7, mz_I x7), (8, mz_I x8), (9, mz_I x9)], [], μ) := mz_Ev.run [81] 400 h
/-! EtaSeriesModel.quotient(IIIII)I, number 168 -/
abbrev v_Mo_quotient (C : mz_Cl) (Q : Option mz_V → mz_M → Prop) : mz_S → Prop := mz_Ev es_SH tb_Mo_quotient C Q
set_option maxRecDepth 20000 in
set_option maxHeartbeats 4000000 in
theorem w_Mo_quotient_0 {C : mz_Cl} {Q : Option mz_V → mz_M → Prop} (p0 : Nat) (x1 : Int32) (x2 : Int32) (x3 : Int32) (x4 : Int32) (x5 : Int32) (μ : mz_M) (h :
    ∃ (r2 : Int32) (μ1 : mz_M), C n_Mo_isSeries [mz_I x1] μ (some (mz_I r2)) μ1 ∧
      (if (r2 : Int32) = (0 : Int32) then
        (Q (some (mz_I ((-1000001)))) μ1)
      else
        (∃ (r4 : Int32) (μ3 : mz_M), C n_Mo_isSheet [mz_I x2] μ1 (some (mz_I r4)) μ3 ∧
          (if (r4 : Int32) = (0 : Int32) then
            (Q (some (mz_I ((-1000001)))) μ3)
          else
            (∃ (r6 : Int32) (μ5 : mz_M), C n_Mo_in [mz_L ((x3 : Int32).toInt64), mz_L 0, mz_L 3] μ3 (some (mz_I r6)) μ5 ∧
              (if (r6 : Int32) = (0 : Int32) then
                (Q (some (mz_I ((-1000001)))) μ5)
              else
                (∃ (r8 : Int32) (μ7 : mz_M), C n_Mo_in [mz_L ((x5 : Int32).toInt64), mz_L 1, mz_L 6] μ5 (some (mz_I r8)) μ7 ∧
                  (if (r8 : Int32) = (0 : Int32) then
                    (Q (some (mz_I ((-1000001)))) μ7)
                  else
                    (∃ (r10 : Int32) (μ9 : mz_M), C n_Mo_whyPairs [mz_R 16 p0, mz_I x2, mz_I x3, mz_I x4, mz_I x5] μ7 (some (mz_I r10)) μ9 ∧
                      (if (0 : Int32) ≤ (r10 : Int32) then
                        (vp_in 0 166 ∧ (∃ μ11, C n_Mo_makes [mz_R 16 p0, mz_I 0, mz_I 0, mz_I (μ9.1 1 (0 : Int32).toNatClampNeg)] μ9 none μ11 ∧
                          (∃ μ12, C n_Mo_goesOn [mz_R 16 p0] μ11 none μ12 ∧
                            (v_Mo_quotient C Q (81, [(0, mz_R 16 p0), (1, mz_I x1), (2, mz_I x2), (4, mz_I x4), (5, mz_I x5), (7, mz_I 0)], [], μ12)))))
                      else
                        (Q (some (mz_I r10)) μ9))))))))))) :
  v_Mo_quotient C Q (0, [(0, mz_R 16 p0), (1, mz_I x1), (2, mz_I x2), (3, mz_I x3), (4, mz_I x4), (5, mz_I x5)], [], μ) := mz_Ev.run [81, 140, 209] 400 h
set_option maxRecDepth 20000 in
set_option maxHeartbeats 4000000 in
theorem w_Mo_quotient_81 {C : mz_Cl} {Q : Option mz_V → mz_M → Prop} (p0 : Nat) (x1 : Int32) (x2 : Int32) (x4 : Int32) (x5 : Int32) (x7 : Int32) (μ : mz_M) (h :
    if (x5 : Int32) ≤ (x7 : Int32) then
      (v_Mo_quotient C Q (209, [(0, mz_R 16 p0), (1, mz_I x1), (7, mz_I 0)], [], mz_wI μ p0 6 (μ.1 p0 2)))
    else
      (vp_in ((((40 * x2) + x4) + (2 * x7)) + 1) 160 ∧ (vp_in (((40 * x2) + x4) + (2 * x7)) 160 ∧ (vp_in 0 166 ∧ (∃ μ1, C n_Mo_makes [mz_R 16 p0, mz_I 3, mz_I ((μ.2 15 (((40 * x2) + x4) + (2 * x7) : Int32).toNatClampNeg : Int64).toInt32), mz_I (μ.1 1 (0 : Int32).toNatClampNeg)] μ none μ1 ∧
        (∃ μ2, C n_Mo_copiesToTwo [mz_R 16 p0] μ1 none μ2 ∧
          (v_Mo_quotient C Q (140, [(0, mz_R 16 p0), (1, mz_I x1), (2, mz_I x2), (4, mz_I x4), (5, mz_I x5), (7, mz_I x7), (9, mz_I ((μ.2 15 ((((40 * x2) + x4) + (2 * x7)) + 1 : Int32).toNatClampNeg : Int64).toInt32)), (10, mz_I 0)], [], μ2)))))))) :
  v_Mo_quotient C Q (81, [(0, mz_R 16 p0), (1, mz_I x1), (2, mz_I x2), (4, mz_I x4), (5, mz_I x5), (7, mz_I x7)], [], μ) := mz_Ev.run [81, 140, 209] 400 h
set_option maxRecDepth 20000 in
set_option maxHeartbeats 4000000 in
theorem w_Mo_quotient_140 {C : mz_Cl} {Q : Option mz_V → mz_M → Prop} (p0 : Nat) (x1 : Int32) (x2 : Int32) (x4 : Int32) (x5 : Int32) (x7 : Int32) (x9 : Int32) (x10 : Int32) (μ : mz_M) (h :
    if (0 : Int32) ≤ (x9 : Int32) then
      (if (x9 : Int32) ≤ (x10 : Int32) then
        (v_Mo_quotient C Q (81, [(0, mz_R 16 p0), (1, mz_I x1), (2, mz_I x2), (4, mz_I x4), (5, mz_I x5), (7, mz_I (x7 + 1))], [], μ))
      else
        (if (0 : Int32) ≤ (x9 : Int32) then
          (∃ (r2 : Int32) (μ1 : mz_M), C n_Mo_joins [mz_R 16 p0, mz_I 2] μ (some (mz_I r2)) μ1 ∧
            (if (0 : Int32) ≤ (r2 : Int32) then
              (∃ μ3, C n_Mo_goesOn [mz_R 16 p0] μ1 none μ3 ∧
                (v_Mo_quotient C Q (140, [(0, mz_R 16 p0), (1, mz_I x1), (2, mz_I x2), (4, mz_I x4), (5, mz_I x5), (7, mz_I x7), (9, mz_I x9), (10, mz_I (x10 + 1))], [], μ3)))
            else
              (Q (some (mz_I r2)) μ1)))
        else
          (∃ (r5 : Int32) (μ4 : mz_M), C n_Mo_joins [mz_R 16 p0, mz_I 3] μ (some (mz_I r5)) μ4 ∧
            (if (0 : Int32) ≤ (r5 : Int32) then
              (∃ μ6, C n_Mo_goesOn [mz_R 16 p0] μ4 none μ6 ∧
                (v_Mo_quotient C Q (140, [(0, mz_R 16 p0), (1, mz_I x1), (2, mz_I x2), (4, mz_I x4), (5, mz_I x5), (7, mz_I x7), (9, mz_I x9), (10, mz_I (x10 + 1))], [], μ6)))
            else
              (Q (some (mz_I r5)) μ4)))))
    else
      (if (-x9 : Int32) ≤ (x10 : Int32) then
        (v_Mo_quotient C Q (81, [(0, mz_R 16 p0), (1, mz_I x1), (2, mz_I x2), (4, mz_I x4), (5, mz_I x5), (7, mz_I (x7 + 1))], [], μ))
      else
        (if (0 : Int32) ≤ (x9 : Int32) then
          (∃ (r8 : Int32) (μ7 : mz_M), C n_Mo_joins [mz_R 16 p0, mz_I 2] μ (some (mz_I r8)) μ7 ∧
            (if (0 : Int32) ≤ (r8 : Int32) then
              (∃ μ9, C n_Mo_goesOn [mz_R 16 p0] μ7 none μ9 ∧
                (v_Mo_quotient C Q (140, [(0, mz_R 16 p0), (1, mz_I x1), (2, mz_I x2), (4, mz_I x4), (5, mz_I x5), (7, mz_I x7), (9, mz_I x9), (10, mz_I (x10 + 1))], [], μ9)))
            else
              (Q (some (mz_I r8)) μ7)))
        else
          (∃ (r11 : Int32) (μ10 : mz_M), C n_Mo_joins [mz_R 16 p0, mz_I 3] μ (some (mz_I r11)) μ10 ∧
            (if (0 : Int32) ≤ (r11 : Int32) then
              (∃ μ12, C n_Mo_goesOn [mz_R 16 p0] μ10 none μ12 ∧
                (v_Mo_quotient C Q (140, [(0, mz_R 16 p0), (1, mz_I x1), (2, mz_I x2), (4, mz_I x4), (5, mz_I x5), (7, mz_I x7), (9, mz_I x9), (10, mz_I (x10 + 1))], [], μ12)))
            else
              (Q (some (mz_I r11)) μ10)))))) :
  v_Mo_quotient C Q (140, [(0, mz_R 16 p0), (1, mz_I x1), (2, mz_I x2), (4, mz_I x4), (5, mz_I x5), (7, mz_I x7), (9, mz_I x9), (10, mz_I x10)], [], μ) := mz_Ev.run [81, 140, 209] 400 h
set_option maxRecDepth 20000 in
set_option maxHeartbeats 4000000 in
theorem w_Mo_quotient_209 {C : mz_Cl} {Q : Option mz_V → mz_M → Prop} (p0 : Nat) (x1 : Int32) (x7 : Int32) (μ : mz_M) (h :
    if (μ.1 p0 2 : Int32) ≤ (x7 : Int32) then
      (∃ (r2 : Int32) (μ1 : mz_M), C n_Mo_keeps [mz_R 16 p0, mz_I x1] μ (some (mz_I r2)) μ1 ∧
        (Q (some (mz_I r2)) μ1))
    else
      (vp_in x7 40 ∧ (vp_in x7 40 ∧ (v_Mo_quotient C Q (209, [(0, mz_R 16 p0), (1, mz_I x1), (7, mz_I (x7 + 1))], [], mz_wL μ 4 (x7 : Int32).toNatClampNeg (μ.2 2 (x7 : Int32).toNatClampNeg)))))) :
  v_Mo_quotient C Q (209, [(0, mz_R 16 p0), (1, mz_I x1), (7, mz_I x7)], [], μ) := mz_Ev.run [81, 140, 209] 400 h
/-! EtaSeriesModel.wrought(IIIIII)I, number 169 -/
abbrev v_Mo_wrought (C : mz_Cl) (Q : Option mz_V → mz_M → Prop) : mz_S → Prop := mz_Ev es_SH tb_Mo_wrought C Q
set_option maxRecDepth 20000 in
set_option maxHeartbeats 4000000 in
theorem w_Mo_wrought_0 {C : mz_Cl} {Q : Option mz_V → mz_M → Prop} (p0 : Nat) (x1 : Int32) (x2 : Int32) (x3 : Int32) (x4 : Int32) (x5 : Int32) (x6 : Int32) (μ : mz_M) (h :
    ∃ (r2 : Int32) (μ1 : mz_M), C n_Mo_isSeries [mz_I x1] μ (some (mz_I r2)) μ1 ∧
      (if (r2 : Int32) = (0 : Int32) then
        (Q (some (mz_I ((-1000001)))) μ1)
      else
        (∃ (r4 : Int32) (μ3 : mz_M), C n_Mo_isSeries [mz_I x2] μ1 (some (mz_I r4)) μ3 ∧
          (if (r4 : Int32) = (0 : Int32) then
            (Q (some (mz_I ((-1000001)))) μ3)
          else
            (∃ (r6 : Int32) (μ5 : mz_M), C n_Mo_isSheet [mz_I x3] μ3 (some (mz_I r6)) μ5 ∧
              (if (r6 : Int32) = (0 : Int32) then
                (Q (some (mz_I ((-1000001)))) μ5)
              else
                (∃ (r8 : Int32) (μ7 : mz_M), C n_Mo_in [mz_L ((x4 : Int32).toInt64), mz_L 0, mz_L 3] μ5 (some (mz_I r8)) μ7 ∧
                  (if (r8 : Int32) = (0 : Int32) then
                    (Q (some (mz_I ((-1000001)))) μ7)
                  else
                    (∃ (r10 : Int32) (μ9 : mz_M), C n_Mo_in [mz_L ((x6 : Int32).toInt64), mz_L 1, mz_L 12] μ7 (some (mz_I r10)) μ9 ∧
                      (if (r10 : Int32) = (0 : Int32) then
                        (Q (some (mz_I ((-1000001)))) μ9)
                      else
                        (∃ (r12 : Int32) (μ11 : mz_M), C n_Mo_why [mz_R 16 p0, mz_I x3, mz_I x4, mz_I x5, mz_I x6] μ9 (some (mz_I r12)) μ11 ∧
                          (if (0 : Int32) ≤ (r12 : Int32) then
                            (∃ (r14 : Int32) (μ13 : mz_M), C n_Mo_many [mz_R 16 p0, mz_I x1] μ11 (some (mz_I r14)) μ13 ∧
                              (if (r14 : Int32) = (0 : Int32) then
                                (Q (some (mz_I ((-1000002)))) μ13)
                              else
                                (∃ (r16 : Int32) (μ15 : mz_M), C n_Mo_many [mz_R 16 p0, mz_I x2] μ13 (some (mz_I r16)) μ15 ∧
                                  (if (r16 : Int32) = (0 : Int32) then
                                    (Q (some (mz_I ((-1000002)))) μ15)
                                  else
                                    (v_Mo_wrought C Q (96, [(0, mz_R 16 p0), (1, mz_I x1), (2, mz_I x2), (3, mz_I x3), (5, mz_I x5), (6, mz_I x6), (8, mz_I 0), (9, mz_I 0)], [], μ15))))))
                          else
                            (Q (some (mz_I r12)) μ11))))))))))))) :
  v_Mo_wrought C Q (0, [(0, mz_R 16 p0), (1, mz_I x1), (2, mz_I x2), (3, mz_I x3), (4, mz_I x4), (5, mz_I x5), (6, mz_I x6)], [], μ) := mz_Ev.run [96, 140] 400 h
set_option maxRecDepth 20000 in
set_option maxHeartbeats 4000000 in
theorem w_Mo_wrought_96 {C : mz_Cl} {Q : Option mz_V → mz_M → Prop} (p0 : Nat) (x1 : Int32) (x2 : Int32) (x3 : Int32) (x5 : Int32) (x6 : Int32) (x8 : Int32) (x9 : Int32) (μ : mz_M) (h :
    if (4 : Int32) ≤ (x9 : Int32) then
      (Q (some (mz_I x8)) μ)
    else
      (∃ μ1, C n_Mo_takesOne [mz_R 16 p0, mz_I x1] μ none μ1 ∧
        (∃ μ2, C n_Mo_takesTwo [mz_R 16 p0, mz_I x2] μ1 none μ2 ∧
          (∃ (r4 : Int32) (μ3 : mz_M), C n_Mo_joins [mz_R 16 p0, mz_I x9] μ2 (some (mz_I r4)) μ3 ∧
            (if (r4 : Int32) = (0 : Int32) then
              (if (μ3.1 p0 6 : Int32) < (x6 : Int32) then
                (v_Mo_wrought C Q (140, [(0, mz_R 16 p0), (1, mz_I x1), (2, mz_I x2), (3, mz_I x3), (5, mz_I x5), (6, mz_I x6), (8, mz_I x8), (9, mz_I x9), (10, mz_I 0), (11, mz_I 0)], [], μ3))
              else
                (v_Mo_wrought C Q (140, [(0, mz_R 16 p0), (1, mz_I x1), (2, mz_I x2), (3, mz_I x3), (5, mz_I x5), (6, mz_I x6), (8, mz_I x8), (9, mz_I x9), (10, mz_I 1), (11, mz_I 0)], [], μ3)))
            else
              (v_Mo_wrought C Q (140, [(0, mz_R 16 p0), (1, mz_I x1), (2, mz_I x2), (3, mz_I x3), (5, mz_I x5), (6, mz_I x6), (8, mz_I x8), (9, mz_I x9), (10, mz_I 0), (11, mz_I 0)], [], μ3))))))) :
  v_Mo_wrought C Q (96, [(0, mz_R 16 p0), (1, mz_I x1), (2, mz_I x2), (3, mz_I x3), (5, mz_I x5), (6, mz_I x6), (8, mz_I x8), (9, mz_I x9)], [], μ) := mz_Ev.run [96, 140] 400 h
set_option maxRecDepth 20000 in
set_option maxHeartbeats 4000000 in
theorem w_Mo_wrought_140 {C : mz_Cl} {Q : Option mz_V → mz_M → Prop} (p0 : Nat) (x1 : Int32) (x2 : Int32) (x3 : Int32) (x5 : Int32) (x6 : Int32) (x8 : Int32) (x9 : Int32) (x10 : Int32) (x11 : Int32) (μ : mz_M) (h :
    if (x6 : Int32) ≤ (x11 : Int32) then
      (if (x10 : Int32) = (0 : Int32) then
        (v_Mo_wrought C Q (96, [(0, mz_R 16 p0), (1, mz_I x1), (2, mz_I x2), (3, mz_I x3), (5, mz_I x5), (6, mz_I x6), (8, mz_I (x8 ||| 0)), (9, mz_I (x9 + 1))], [], μ))
      else
        (v_Mo_wrought C Q (96, [(0, mz_R 16 p0), (1, mz_I x1), (2, mz_I x2), (3, mz_I x3), (5, mz_I x5), (6, mz_I x6), (8, mz_I (x8 ||| (1 <<< (x9 &&& 31)))), (9, mz_I (x9 + 1))], [], μ)))
    else
      (if (x10 : Int32) = (0 : Int32) then
        (if (x10 : Int32) = (0 : Int32) then
          (v_Mo_wrought C Q (96, [(0, mz_R 16 p0), (1, mz_I x1), (2, mz_I x2), (3, mz_I x3), (5, mz_I x5), (6, mz_I x6), (8, mz_I (x8 ||| 0)), (9, mz_I (x9 + 1))], [], μ))
        else
          (v_Mo_wrought C Q (96, [(0, mz_R 16 p0), (1, mz_I x1), (2, mz_I x2), (3, mz_I x3), (5, mz_I x5), (6, mz_I x6), (8, mz_I (x8 ||| (1 <<< (x9 &&& 31)))), (9, mz_I (x9 + 1))], [], μ)))
      else
        (vp_in x11 40 ∧ (vp_in (((40 * x3) + x5) + x11) 160 ∧ (if (lg_cmp (μ.2 4 (x11 : Int32).toNatClampNeg) (μ.2 15 (((40 * x3) + x5) + x11 : Int32).toNatClampNeg) : Int32) = (0 : Int32) then
          (v_Mo_wrought C Q (140, [(0, mz_R 16 p0), (1, mz_I x1), (2, mz_I x2), (3, mz_I x3), (5, mz_I x5), (6, mz_I x6), (8, mz_I x8), (9, mz_I x9), (10, mz_I 1), (11, mz_I (x11 + 1))], [], μ))
        else
          (v_Mo_wrought C Q (140, [(0, mz_R 16 p0), (1, mz_I x1), (2, mz_I x2), (3, mz_I x3), (5, mz_I x5), (6, mz_I x6), (8, mz_I x8), (9, mz_I x9), (10, mz_I 0), (11, mz_I (x11 + 1))], [], μ))))))) :
  v_Mo_wrought C Q (140, [(0, mz_R 16 p0), (1, mz_I x1), (2, mz_I x2), (3, mz_I x3), (5, mz_I x5), (6, mz_I x6), (8, mz_I x8), (9, mz_I x9), (10, mz_I x10), (11, mz_I x11)], [], μ) := mz_Ev.run [96, 140] 400 h
/-! EtaSeriesModel.film(IIII)I, number 170 -/
abbrev v_Mo_film (C : mz_Cl) (Q : Option mz_V → mz_M → Prop) : mz_S → Prop := mz_Ev es_SH tb_Mo_film C Q
set_option maxRecDepth 20000 in
set_option maxHeartbeats 4000000 in
theorem w_Mo_film_0 {C : mz_Cl} {Q : Option mz_V → mz_M → Prop} (p0 : Nat) (x1 : Int32) (x2 : Int32) (x3 : Int32) (x4 : Int32) (μ : mz_M) (h :
    ∃ (r2 : Int32) (μ1 : mz_M), C n_Mo_isSeries [mz_I x1] μ (some (mz_I r2)) μ1 ∧
      (if (r2 : Int32) = (0 : Int32) then
        (Q (some (mz_I ((-1000001)))) μ1)
      else
        (∃ (r4 : Int32) (μ3 : mz_M), C n_Mo_isSheet [mz_I x2] μ1 (some (mz_I r4)) μ3 ∧
          (if (r4 : Int32) = (0 : Int32) then
            (Q (some (mz_I ((-1000001)))) μ3)
          else
            (∃ (r6 : Int32) (μ5 : mz_M), C n_Mo_in [mz_L ((x3 : Int32).toInt64), mz_L 0, mz_L 3] μ3 (some (mz_I r6)) μ5 ∧
              (if (r6 : Int32) = (0 : Int32) then
                (Q (some (mz_I ((-1000001)))) μ5)
              else
                (∃ (r8 : Int32) (μ7 : mz_M), C n_Mo_many [mz_R 16 p0, mz_I x1] μ5 (some (mz_I r8)) μ7 ∧
                  (if (r8 : Int32) = (0 : Int32) then
                    (Q (some (mz_I ((-1000002)))) μ7)
                  else
                    (∃ (r10 : Int32) (μ9 : mz_M), C n_Mo_why [mz_R 16 p0, mz_I x2, mz_I x3, mz_I x4, mz_I r8] μ7 (some (mz_I r10)) μ9 ∧
                      (if (0 : Int32) ≤ (r10 : Int32) then
                        (v_Mo_film C Q (67, [(0, mz_R 16 p0), (1, mz_I x1), (2, mz_I x2), (3, mz_I x3), (4, mz_I x4), (5, mz_I r8), (7, mz_I 0)], [], μ9))
                      else
                        (Q (some (mz_I r10)) μ9))))))))))) :
  v_Mo_film C Q (0, [(0, mz_R 16 p0), (1, mz_I x1), (2, mz_I x2), (3, mz_I x3), (4, mz_I x4)], [], μ) := mz_Ev.run [67] 400 h
set_option maxRecDepth 20000 in
set_option maxHeartbeats 4000000 in
theorem w_Mo_film_67 {C : mz_Cl} {Q : Option mz_V → mz_M → Prop} (p0 : Nat) (x1 : Int32) (x2 : Int32) (x3 : Int32) (x4 : Int32) (x5 : Int32) (x7 : Int32) (μ : mz_M) (h :
    if (x5 : Int32) ≤ (x7 : Int32) then
      (Q (some (mz_I x5)) μ)
    else
      (∃ (r2 : Int32) (μ1 : mz_M), C n_Mo_termOf [mz_R 16 p0, mz_I x1, mz_I x7] μ (some (mz_I r2)) μ1 ∧
        (∃ (r4 : Int64) (μ3 : mz_M), C n_Mo_cut [mz_L ((r2 : Int32).toInt64), mz_I x3] μ1 (some (mz_L r4)) μ3 ∧
          (vp_in (((40 * x2) + x4) + x7) 160 ∧ (v_Mo_film C Q (67, [(0, mz_R 16 p0), (1, mz_I x1), (2, mz_I x2), (3, mz_I x3), (4, mz_I x4), (5, mz_I x5), (7, mz_I (x7 + 1))], [], mz_wL μ3 15 (((40 * x2) + x4) + x7 : Int32).toNatClampNeg r4)))))) :
  v_Mo_film C Q (67, [(0, mz_R 16 p0), (1, mz_I x1), (2, mz_I x2), (3, mz_I x3), (4, mz_I x4), (5, mz_I x5), (7, mz_I x7)], [], μ) := mz_Ev.run [67] 400 h
