/-! What the stretches of the methods ask: by program, closed by evaluation. -/
/-! EtaSeries$Leaf.hold(II)V, number 4 -/
abbrev v_Leaf_hold (C : mz_Cl) (Q : Option mz_V → mz_M → Prop) : mz_S → Prop := mz_Ev es_SH tb_Leaf_hold C Q
set_option maxRecDepth 20000 in
set_option maxHeartbeats 4000000 in
theorem w_Leaf_hold_0 {C : mz_Cl} {Q : Option mz_V → mz_M → Prop} (p0 : Nat) (x1 : Int32) (x2 : Int32) (μ : mz_M) (h :
    ((1 : Int32) = 0 ∨ (1 : Int32) = 1) ∧ (∃ (r2 : Int32) (μ1 : mz_M), C n_Math_min [mz_I x2, mz_I (nI 40)] (mz_wI (mz_wI μ p0 1 1) p0 2 x1) (some (mz_I r2)) μ1 ∧
      (∃ (r4 : Int32) (μ3 : mz_M), C n_Math_max [mz_I 0, mz_I r2] μ1 (some (mz_I r4)) μ3 ∧
        (v_Leaf_hold C Q (29, [(0, mz_R 14 p0), (3, mz_I 0)], [], mz_wI μ3 p0 3 r4))))) :
  v_Leaf_hold C Q (0, [(0, mz_R 14 p0), (1, mz_I x1), (2, mz_I x2)], [], μ) := mz_Ev.run [29] 400 h
set_option maxRecDepth 20000 in
set_option maxHeartbeats 4000000 in
theorem w_Leaf_hold_29 {C : mz_Cl} {Q : Option mz_V → mz_M → Prop} (p0 : Nat) (x3 : Int32) (μ : mz_M) (h :
    if (nI 40 : Int32) ≤ (x3 : Int32) then
      (Q none μ)
    else
      (vp_in x3 40 ∧ (v_Leaf_hold C Q (29, [(0, mz_R 14 p0), (3, mz_I (x3 + 1))], [], mz_wL μ (p0 + 1) (x3 : Int32).toNatClampNeg 0)))) :
  v_Leaf_hold C Q (29, [(0, mz_R 14 p0), (3, mz_I x3)], [], μ) := mz_Ev.run [29] 400 h
/-! EtaSeries$Leaf.hasItems(II)Z, number 5 -/
abbrev v_Leaf_hasItems (C : mz_Cl) (Q : Option mz_V → mz_M → Prop) : mz_S → Prop := mz_Ev es_SH tb_Leaf_hasItems C Q
set_option maxRecDepth 20000 in
set_option maxHeartbeats 4000000 in
theorem w_Leaf_hasItems_0 {C : mz_Cl} {Q : Option mz_V → mz_M → Prop} (p0 : Nat) (x1 : Int32) (x2 : Int32) (μ : mz_M) (h :
    if (x1 : Int32) < (0 : Int32) then
      (((0 : Int32) = 0 ∨ (0 : Int32) = 1) ∧ Q (some (mz_I 0)) μ)
    else
      (if (x2 : Int32) < (0 : Int32) then
        (((0 : Int32) = 0 ∨ (0 : Int32) = 1) ∧ Q (some (mz_I 0)) μ)
      else
        (if (0 : Int32) < (lg_cmp (((x1 : Int32).toInt64) + ((x2 : Int32).toInt64)) ((μ.1 p0 3 : Int32).toInt64) : Int32) then
          (((0 : Int32) = 0 ∨ (0 : Int32) = 1) ∧ Q (some (mz_I 0)) μ)
        else
          (((1 : Int32) = 0 ∨ (1 : Int32) = 1) ∧ Q (some (mz_I 1)) μ)))) :
  v_Leaf_hasItems C Q (0, [(0, mz_R 14 p0), (1, mz_I x1), (2, mz_I x2)], [], μ) := mz_Ev.run [] 400 h
/-! EtaSeries$Leaf.refuse(III)I, number 6 -/
abbrev v_Leaf_refuse (C : mz_Cl) (Q : Option mz_V → mz_M → Prop) : mz_S → Prop := mz_Ev es_SH tb_Leaf_refuse C Q
set_option maxRecDepth 20000 in
set_option maxHeartbeats 4000000 in
theorem w_Leaf_refuse_0 {C : mz_Cl} {Q : Option mz_V → mz_M → Prop} (p0 : Nat) (x1 : Int32) (x2 : Int32) (x3 : Int32) (μ : mz_M) (h :
    if (μ.1 p0 1 : Int32) = (0 : Int32) then
      (Q (some (mz_I ((-1000011)))) μ)
    else
      (if (μ.1 p0 2 : Int32) = (x1 : Int32) then
        (∃ (r2 : Int32) (μ1 : mz_M), C n_Leaf_hasItems [mz_R 14 p0, mz_I x2, mz_I x3] μ (some (mz_I r2)) μ1 ∧
          (if (r2 : Int32) = (0 : Int32) then
            (Q (some (mz_I ((-1000013)))) μ1)
          else
            (Q (some (mz_I 0)) μ1)))
      else
        (Q (some (mz_I ((-1000012)))) μ))) :
  v_Leaf_refuse C Q (0, [(0, mz_R 14 p0), (1, mz_I x1), (2, mz_I x2), (3, mz_I x3)], [], μ) := mz_Ev.run [] 400 h
/-! EtaSeries$Leaf.refusePairs(III)I, number 7 -/
abbrev v_Leaf_refusePairs (C : mz_Cl) (Q : Option mz_V → mz_M → Prop) : mz_S → Prop := mz_Ev es_SH tb_Leaf_refusePairs C Q
set_option maxRecDepth 20000 in
set_option maxHeartbeats 4000000 in
theorem w_Leaf_refusePairs_0 {C : mz_Cl} {Q : Option mz_V → mz_M → Prop} (p0 : Nat) (x1 : Int32) (x2 : Int32) (x3 : Int32) (μ : mz_M) (h :
    ∃ (r2 : Int32) (μ1 : mz_M), C n_Leaf_refuse [mz_R 14 p0, mz_I x1, mz_I x2, mz_I (2 * x3)] μ (some (mz_I r2)) μ1 ∧
      (v_Leaf_refusePairs C Q (14, [(0, mz_R 14 p0), (2, mz_I x2), (3, mz_I x3), (4, mz_I r2), (5, mz_I 0)], [], μ1))) :
  v_Leaf_refusePairs C Q (0, [(0, mz_R 14 p0), (1, mz_I x1), (2, mz_I x2), (3, mz_I x3)], [], μ) := mz_Ev.run [14] 400 h
set_option maxRecDepth 20000 in
set_option maxHeartbeats 4000000 in
theorem w_Leaf_refusePairs_14 {C : mz_Cl} {Q : Option mz_V → mz_M → Prop} (p0 : Nat) (x2 : Int32) (x3 : Int32) (x4 : Int32) (x5 : Int32) (μ : mz_M) (h :
    if (x3 : Int32) ≤ (x5 : Int32) then
      (Q (some (mz_I x4)) μ)
    else
      (if (x4 : Int32) = (0 : Int32) then
        (∃ (r2 : Int64) (μ1 : mz_M), C n_Leaf_at [mz_R 14 p0, mz_I (x2 + (2 * x5))] μ (some (mz_L r2)) μ1 ∧
          (∃ (r4 : Int64) (μ3 : mz_M), C n_Leaf_at [mz_R 14 p0, mz_I ((x2 + (2 * x5)) + 1)] μ1 (some (mz_L r4)) μ3 ∧
            (if (lg_cmp r2 1 : Int32) < (0 : Int32) then
              (v_Leaf_refusePairs C Q (14, [(0, mz_R 14 p0), (2, mz_I x2), (3, mz_I x3), (4, mz_I ((-1000002))), (5, mz_I (x5 + 1))], [], μ3))
            else
              (if (0 : Int32) < (lg_cmp r2 12 : Int32) then
                (v_Leaf_refusePairs C Q (14, [(0, mz_R 14 p0), (2, mz_I x2), (3, mz_I x3), (4, mz_I ((-1000002))), (5, mz_I (x5 + 1))], [], μ3))
              else
                (if (lg_cmp r4 ((-9)) : Int32) < (0 : Int32) then
                  (v_Leaf_refusePairs C Q (14, [(0, mz_R 14 p0), (2, mz_I x2), (3, mz_I x3), (4, mz_I ((-1000002))), (5, mz_I (x5 + 1))], [], μ3))
                else
                  (if (lg_cmp r4 9 : Int32) ≤ (0 : Int32) then
                    (v_Leaf_refusePairs C Q (14, [(0, mz_R 14 p0), (2, mz_I x2), (3, mz_I x3), (4, mz_I x4), (5, mz_I (x5 + 1))], [], μ3))
                  else
                    (v_Leaf_refusePairs C Q (14, [(0, mz_R 14 p0), (2, mz_I x2), (3, mz_I x3), (4, mz_I ((-1000002))), (5, mz_I (x5 + 1))], [], μ3))))))))
      else
        (Q (some (mz_I x4)) μ))) :
  v_Leaf_refusePairs C Q (14, [(0, mz_R 14 p0), (2, mz_I x2), (3, mz_I x3), (4, mz_I x4), (5, mz_I x5)], [], μ) := mz_Ev.run [14] 400 h
/-! EtaSeries$Leaf.at(I)J, number 8 -/
abbrev v_Leaf_at (C : mz_Cl) (Q : Option mz_V → mz_M → Prop) : mz_S → Prop := mz_Ev es_SH tb_Leaf_at C Q
set_option maxRecDepth 20000 in
set_option maxHeartbeats 4000000 in
theorem w_Leaf_at_0 {C : mz_Cl} {Q : Option mz_V → mz_M → Prop} (p0 : Nat) (x1 : Int32) (μ : mz_M) (h :
    if (x1 : Int32) < (0 : Int32) then
      (Q (some (mz_L 0)) μ)
    else
      (if (μ.1 p0 3 : Int32) ≤ (x1 : Int32) then
        (Q (some (mz_L 0)) μ)
      else
        (vp_in x1 40 ∧ (Q (some (mz_L (μ.2 (p0 + 1) (x1 : Int32).toNatClampNeg))) μ)))) :
  v_Leaf_at C Q (0, [(0, mz_R 14 p0), (1, mz_I x1)], [], μ) := mz_Ev.run [] 400 h
/-! EtaSeries$Leaf.put(IJ)V, number 9 -/
abbrev v_Leaf_put (C : mz_Cl) (Q : Option mz_V → mz_M → Prop) : mz_S → Prop := mz_Ev es_SH tb_Leaf_put C Q
set_option maxRecDepth 20000 in
set_option maxHeartbeats 4000000 in
theorem w_Leaf_put_0 {C : mz_Cl} {Q : Option mz_V → mz_M → Prop} (p0 : Nat) (x1 : Int32) (y2 : Int64) (μ : mz_M) (h :
    if (x1 : Int32) < (0 : Int32) then
      (Q none μ)
    else
      (if (x1 : Int32) < (μ.1 p0 3 : Int32) then
        (if (μ.1 p0 2 : Int32) = nI 0 then
          (vp_in x1 40 ∧ (Q none (mz_wL μ (p0 + 1) (x1 : Int32).toNatClampNeg ((((y2 : Int64).toInt32 : Int32).toInt8.toInt32 : Int32).toInt64))))
        else if (μ.1 p0 2 : Int32) = nI 1 then
          (vp_in x1 40 ∧ (Q none (mz_wL μ (p0 + 1) (x1 : Int32).toNatClampNeg ((((y2 : Int64).toInt32 : Int32).toInt16.toInt32 : Int32).toInt64))))
        else if (μ.1 p0 2 : Int32) = nI 2 then
          (vp_in x1 40 ∧ (Q none (mz_wL μ (p0 + 1) (x1 : Int32).toNatClampNeg (((y2 : Int64).toInt32 : Int32).toInt64))))
        else (vp_in x1 40 ∧ (Q none (mz_wL μ (p0 + 1) (x1 : Int32).toNatClampNeg y2))))
      else
        (Q none μ))) :
  v_Leaf_put C Q (0, [(0, mz_R 14 p0), (1, mz_I x1), (2, mz_L y2)], [], μ) := mz_Ev.run [] 400 h
/-! EtaSeries$Leaf.begins(IILEtaSeries$Row;)Z, number 10 -/
abbrev v_Leaf_begins (C : mz_Cl) (Q : Option mz_V → mz_M → Prop) : mz_S → Prop := mz_Ev es_SH tb_Leaf_begins C Q
set_option maxRecDepth 20000 in
set_option maxHeartbeats 4000000 in
theorem w_Leaf_begins_0 {C : mz_Cl} {Q : Option mz_V → mz_M → Prop} (p0 : Nat) (x1 : Int32) (x2 : Int32) (p3 : Nat) (μ : mz_M) (h :
    v_Leaf_begins C Q (3, [(0, mz_R 14 p0), (1, mz_I x1), (2, mz_I x2), (3, mz_R 3 p3), (4, mz_I 0)], [], μ)) :
  v_Leaf_begins C Q (0, [(0, mz_R 14 p0), (1, mz_I x1), (2, mz_I x2), (3, mz_R 3 p3)], [], μ) := mz_Ev.run [3] 400 h
set_option maxRecDepth 20000 in
set_option maxHeartbeats 4000000 in
theorem w_Leaf_begins_3 {C : mz_Cl} {Q : Option mz_V → mz_M → Prop} (p0 : Nat) (x1 : Int32) (x2 : Int32) (p3 : Nat) (x4 : Int32) (μ : mz_M) (h :
    if (x2 : Int32) ≤ (x4 : Int32) then
      (if (μ.1 p3 1 : Int32) < (x2 : Int32) then
        (((0 : Int32) = 0 ∨ (0 : Int32) = 1) ∧ Q (some (mz_I 0)) μ)
      else
        (((1 : Int32) = 0 ∨ (1 : Int32) = 1) ∧ Q (some (mz_I 1)) μ))
    else
      (∃ (r2 : Int64) (μ1 : mz_M), C n_Leaf_at [mz_R 14 p0, mz_I (x1 + x4)] μ (some (mz_L r2)) μ1 ∧
        (∃ (r4 : Int32) (μ3 : mz_M), C n_Row_at [mz_R 3 p3, mz_I x4] μ1 (some (mz_I r4)) μ3 ∧
          (if (lg_cmp r2 ((r4 : Int32).toInt64) : Int32) = (0 : Int32) then
            (v_Leaf_begins C Q (3, [(0, mz_R 14 p0), (1, mz_I x1), (2, mz_I x2), (3, mz_R 3 p3), (4, mz_I (x4 + 1))], [], μ3))
          else
            (((0 : Int32) = 0 ∨ (0 : Int32) = 1) ∧ Q (some (mz_I 0)) μ3))))) :
  v_Leaf_begins C Q (3, [(0, mz_R 14 p0), (1, mz_I x1), (2, mz_I x2), (3, mz_R 3 p3), (4, mz_I x4)], [], μ) := mz_Ev.run [3] 400 h
/-! EtaSeries$Leaf.divisor(II)I, number 11 -/
abbrev v_Leaf_divisor (C : mz_Cl) (Q : Option mz_V → mz_M → Prop) : mz_S → Prop := mz_Ev es_SH tb_Leaf_divisor C Q
set_option maxRecDepth 20000 in
set_option maxHeartbeats 4000000 in
theorem w_Leaf_divisor_0 {C : mz_Cl} {Q : Option mz_V → mz_M → Prop} (p0 : Nat) (x1 : Int32) (x2 : Int32) (μ : mz_M) (h :
    ∃ (r2 : Int64) (μ1 : mz_M), C n_Leaf_at [mz_R 14 p0, mz_I (x1 + (2 * x2))] μ (some (mz_L r2)) μ1 ∧
      (Q (some (mz_I ((r2 : Int64).toInt32))) μ1)) :
  v_Leaf_divisor C Q (0, [(0, mz_R 14 p0), (1, mz_I x1), (2, mz_I x2)], [], μ) := mz_Ev.run [] 400 h
/-! EtaSeries$Leaf.exponent(II)I, number 12 -/
abbrev v_Leaf_exponent (C : mz_Cl) (Q : Option mz_V → mz_M → Prop) : mz_S → Prop := mz_Ev es_SH tb_Leaf_exponent C Q
set_option maxRecDepth 20000 in
set_option maxHeartbeats 4000000 in
theorem w_Leaf_exponent_0 {C : mz_Cl} {Q : Option mz_V → mz_M → Prop} (p0 : Nat) (x1 : Int32) (x2 : Int32) (μ : mz_M) (h :
    ∃ (r2 : Int64) (μ1 : mz_M), C n_Leaf_at [mz_R 14 p0, mz_I ((x1 + (2 * x2)) + 1)] μ (some (mz_L r2)) μ1 ∧
      (Q (some (mz_I ((r2 : Int64).toInt32))) μ1)) :
  v_Leaf_exponent C Q (0, [(0, mz_R 14 p0), (1, mz_I x1), (2, mz_I x2)], [], μ) := mz_Ev.run [] 400 h
/-! EtaSeries$Leaf.weight(II)I, number 13 -/
abbrev v_Leaf_weight (C : mz_Cl) (Q : Option mz_V → mz_M → Prop) : mz_S → Prop := mz_Ev es_SH tb_Leaf_weight C Q
set_option maxRecDepth 20000 in
set_option maxHeartbeats 4000000 in
theorem w_Leaf_weight_0 {C : mz_Cl} {Q : Option mz_V → mz_M → Prop} (p0 : Nat) (x1 : Int32) (x2 : Int32) (μ : mz_M) (h :
    v_Leaf_weight C Q (5, [(0, mz_R 14 p0), (1, mz_I x1), (2, mz_I x2), (3, mz_I 0), (4, mz_I 0)], [], μ)) :
  v_Leaf_weight C Q (0, [(0, mz_R 14 p0), (1, mz_I x1), (2, mz_I x2)], [], μ) := mz_Ev.run [5] 400 h
set_option maxRecDepth 20000 in
set_option maxHeartbeats 4000000 in
theorem w_Leaf_weight_5 {C : mz_Cl} {Q : Option mz_V → mz_M → Prop} (p0 : Nat) (x1 : Int32) (x2 : Int32) (x3 : Int32) (x4 : Int32) (μ : mz_M) (h :
    if (x2 : Int32) ≤ (x4 : Int32) then
      (Q (some (mz_I x3)) μ)
    else
      (∃ (r2 : Int32) (μ1 : mz_M), C n_Leaf_exponent [mz_R 14 p0, mz_I x1, mz_I x4] μ (some (mz_I r2)) μ1 ∧
        (v_Leaf_weight C Q (5, [(0, mz_R 14 p0), (1, mz_I x1), (2, mz_I x2), (3, mz_I (x3 + r2)), (4, mz_I (x4 + 1))], [], μ1)))) :
  v_Leaf_weight C Q (5, [(0, mz_R 14 p0), (1, mz_I x1), (2, mz_I x2), (3, mz_I x3), (4, mz_I x4)], [], μ) := mz_Ev.run [5] 400 h
/-! EtaSeries$Leaf.level(II)I, number 14 -/
abbrev v_Leaf_level (C : mz_Cl) (Q : Option mz_V → mz_M → Prop) : mz_S → Prop := mz_Ev es_SH tb_Leaf_level C Q
set_option maxRecDepth 20000 in
set_option maxHeartbeats 4000000 in
theorem w_Leaf_level_0 {C : mz_Cl} {Q : Option mz_V → mz_M → Prop} (p0 : Nat) (x1 : Int32) (x2 : Int32) (μ : mz_M) (h :
    v_Leaf_level C Q (2, [(0, mz_R 14 p0), (1, mz_I x1), (2, mz_I x2), (3, mz_I 1)], [], μ)) :
  v_Leaf_level C Q (0, [(0, mz_R 14 p0), (1, mz_I x1), (2, mz_I x2)], [], μ) := mz_Ev.run [2] 400 h
set_option maxRecDepth 20000 in
set_option maxHeartbeats 4000000 in
theorem w_Leaf_level_2 {C : mz_Cl} {Q : Option mz_V → mz_M → Prop} (p0 : Nat) (x1 : Int32) (x2 : Int32) (x3 : Int32) (μ : mz_M) (h :
    if (600 : Int32) < (x3 : Int32) then
      (Q (some (mz_I ((-1000004)))) μ)
    else
      (∃ (r2 : Int32) (μ1 : mz_M), C n_Leaf_isLevel [mz_R 14 p0, mz_I x3, mz_I x1, mz_I x2] μ (some (mz_I r2)) μ1 ∧
        (if (r2 : Int32) = (0 : Int32) then
          (v_Leaf_level C Q (2, [(0, mz_R 14 p0), (1, mz_I x1), (2, mz_I x2), (3, mz_I (x3 + 1))], [], μ1))
        else
          (Q (some (mz_I x3)) μ1)))) :
  v_Leaf_level C Q (2, [(0, mz_R 14 p0), (1, mz_I x1), (2, mz_I x2), (3, mz_I x3)], [], μ) := mz_Ev.run [2] 400 h
/-! EtaSeries$Leaf.isLevel(III)Z, number 15 -/
abbrev v_Leaf_isLevel (C : mz_Cl) (Q : Option mz_V → mz_M → Prop) : mz_S → Prop := mz_Ev es_SH tb_Leaf_isLevel C Q
set_option maxRecDepth 20000 in
set_option maxHeartbeats 4000000 in
theorem w_Leaf_isLevel_0 {C : mz_Cl} {Q : Option mz_V → mz_M → Prop} (p0 : Nat) (x1 : Int32) (x2 : Int32) (x3 : Int32) (μ : mz_M) (h :
    v_Leaf_isLevel C Q (9, [(0, mz_R 14 p0), (1, mz_I x1), (2, mz_I x2), (3, mz_I x3), (4, mz_I 0), (5, mz_I 0), (6, mz_I 0)], [], μ)) :
  v_Leaf_isLevel C Q (0, [(0, mz_R 14 p0), (1, mz_I x1), (2, mz_I x2), (3, mz_I x3)], [], μ) := mz_Ev.run [9] 400 h
set_option maxRecDepth 20000 in
set_option maxHeartbeats 4000000 in
theorem w_Leaf_isLevel_9 {C : mz_Cl} {Q : Option mz_V → mz_M → Prop} (p0 : Nat) (x1 : Int32) (x2 : Int32) (x3 : Int32) (x4 : Int32) (x5 : Int32) (x6 : Int32) (μ : mz_M) (h :
    if (x3 : Int32) ≤ (x6 : Int32) then
      (¬ (24 : Int32) = 0 ∧ (if (x4 - x4 / 24 * 24 : Int32) = (0 : Int32) then
        (¬ (24 : Int32) = 0 ∧ (if (x5 - x5 / 24 * 24 : Int32) = (0 : Int32) then
          (((1 : Int32) = 0 ∨ (1 : Int32) = 1) ∧ Q (some (mz_I 1)) μ)
        else
          (((0 : Int32) = 0 ∨ (0 : Int32) = 1) ∧ Q (some (mz_I 0)) μ)))
      else
        (((0 : Int32) = 0 ∨ (0 : Int32) = 1) ∧ Q (some (mz_I 0)) μ)))
    else
      (∃ (r2 : Int32) (μ1 : mz_M), C n_Leaf_divisor [mz_R 14 p0, mz_I x2, mz_I x6] μ (some (mz_I r2)) μ1 ∧
        (∃ (r4 : Int32) (μ3 : mz_M), C n_Leaf_exponent [mz_R 14 p0, mz_I x2, mz_I x6] μ1 (some (mz_I r4)) μ3 ∧
          (if (r4 : Int32) = (0 : Int32) then
            (v_Leaf_isLevel C Q (9, [(0, mz_R 14 p0), (1, mz_I x1), (2, mz_I x2), (3, mz_I x3), (4, mz_I x4), (5, mz_I x5), (6, mz_I (x6 + 1))], [], μ3))
          else
            (if (r2 : Int32) < (1 : Int32) then
              (((0 : Int32) = 0 ∨ (0 : Int32) = 1) ∧ Q (some (mz_I 0)) μ3)
            else
              (¬ (r2 : Int32) = 0 ∧ (if (x1 - x1 / r2 * r2 : Int32) = (0 : Int32) then
                (¬ (r2 : Int32) = 0 ∧ (v_Leaf_isLevel C Q (9, [(0, mz_R 14 p0), (1, mz_I x1), (2, mz_I x2), (3, mz_I x3), (4, mz_I (x4 + (r2 * r4))), (5, mz_I (x5 + ((x1 / r2) * r4))), (6, mz_I (x6 + 1))], [], μ3)))
              else
                (((0 : Int32) = 0 ∨ (0 : Int32) = 1) ∧ Q (some (mz_I 0)) μ3)))))))) :
  v_Leaf_isLevel C Q (9, [(0, mz_R 14 p0), (1, mz_I x1), (2, mz_I x2), (3, mz_I x3), (4, mz_I x4), (5, mz_I x5), (6, mz_I x6)], [], μ) := mz_Ev.run [9] 400 h
/-! EtaSeries$Leaf.bound(II)I, number 16 -/
abbrev v_Leaf_bound (C : mz_Cl) (Q : Option mz_V → mz_M → Prop) : mz_S → Prop := mz_Ev es_SH tb_Leaf_bound C Q
set_option maxRecDepth 20000 in
set_option maxHeartbeats 4000000 in
theorem w_Leaf_bound_0 {C : mz_Cl} {Q : Option mz_V → mz_M → Prop} (p0 : Nat) (x1 : Int32) (x2 : Int32) (μ : mz_M) (h :
    ∃ (r2 : Int32) (μ1 : mz_M), C n_Leaf_weight [mz_R 14 p0, mz_I x1, mz_I x2] μ (some (mz_I r2)) μ1 ∧
      (∃ (r4 : Int32) (μ3 : mz_M), C n_Leaf_level [mz_R 14 p0, mz_I x1, mz_I x2] μ1 (some (mz_I r4)) μ3 ∧
        (if (r4 : Int32) = ((-1000004) : Int32) then
          (Q (some (mz_I ((-1000004)))) μ3)
        else
          (if (0 : Int32) ≤ (r2 : Int32) then
            (∃ (r6 : Int32) (μ5 : mz_M), C n_Leaf_indexOf [mz_I r4] μ3 (some (mz_I r6)) μ5 ∧
              (¬ (24 : Int32) = 0 ∧ (Q (some (mz_I (((r2 * r6) / 24) + 1))) μ5)))
          else
            (Q (some (mz_I ((-1000004)))) μ3))))) :
  v_Leaf_bound C Q (0, [(0, mz_R 14 p0), (1, mz_I x1), (2, mz_I x2)], [], μ) := mz_Ev.run [] 400 h
/-! EtaSeries$Leaf.indexOf(I)I, number 17 -/
abbrev v_Leaf_indexOf (C : mz_Cl) (Q : Option mz_V → mz_M → Prop) : mz_S → Prop := mz_Ev es_SH tb_Leaf_indexOf C Q
set_option maxRecDepth 20000 in
set_option maxHeartbeats 4000000 in
theorem w_Leaf_indexOf_0 {C : mz_Cl} {Q : Option mz_V → mz_M → Prop} (x0 : Int32) (μ : mz_M) (h :
    v_Leaf_indexOf C Q (6, [(1, mz_I x0), (2, mz_I x0), (3, mz_I 2)], [], μ)) :
  v_Leaf_indexOf C Q (0, [(0, mz_I x0)], [], μ) := mz_Ev.run [6, 31] 400 h
set_option maxRecDepth 20000 in
set_option maxHeartbeats 4000000 in
theorem w_Leaf_indexOf_6 {C : mz_Cl} {Q : Option mz_V → mz_M → Prop} (x1 : Int32) (x2 : Int32) (x3 : Int32) (μ : mz_M) (h :
    if (x2 : Int32) < (x3 : Int32) then
      (Q (some (mz_I x1)) μ)
    else
      (¬ (x3 : Int32) = 0 ∧ (if (x2 - x2 / x3 * x3 : Int32) = (0 : Int32) then
        (¬ (x3 : Int32) = 0 ∧ (v_Leaf_indexOf C Q (31, [(1, mz_I ((x1 / x3) * (x3 + 1))), (2, mz_I x2), (3, mz_I x3), (4, mz_I 0)], [], μ)))
      else
        (v_Leaf_indexOf C Q (6, [(1, mz_I x1), (2, mz_I x2), (3, mz_I (x3 + 1))], [], μ))))) :
  v_Leaf_indexOf C Q (6, [(1, mz_I x1), (2, mz_I x2), (3, mz_I x3)], [], μ) := mz_Ev.run [6, 31] 400 h
set_option maxRecDepth 20000 in
set_option maxHeartbeats 4000000 in
theorem w_Leaf_indexOf_31 {C : mz_Cl} {Q : Option mz_V → mz_M → Prop} (x1 : Int32) (x2 : Int32) (x3 : Int32) (x4 : Int32) (μ : mz_M) (h :
    if (600 : Int32) ≤ (x4 : Int32) then
      (v_Leaf_indexOf C Q (6, [(1, mz_I x1), (2, mz_I x2), (3, mz_I (x3 + 1))], [], μ))
    else
      (¬ (x3 : Int32) = 0 ∧ (if (x2 - x2 / x3 * x3 : Int32) = (0 : Int32) then
        (¬ (x3 : Int32) = 0 ∧ (v_Leaf_indexOf C Q (31, [(1, mz_I x1), (2, mz_I (x2 / x3)), (3, mz_I x3), (4, mz_I (x4 + 1))], [], μ)))
      else
        (v_Leaf_indexOf C Q (6, [(1, mz_I x1), (2, mz_I x2), (3, mz_I (x3 + 1))], [], μ))))) :
  v_Leaf_indexOf C Q (31, [(1, mz_I x1), (2, mz_I x2), (3, mz_I x3), (4, mz_I x4)], [], μ) := mz_Ev.run [6, 31] 400 h
/-! EtaSeries$Mill.result()LEtaSeries$Row;, number 18 -/
abbrev v_Mill_result (C : mz_Cl) (Q : Option mz_V → mz_M → Prop) : mz_S → Prop := mz_Ev es_SH tb_Mill_result C Q
set_option maxRecDepth 20000 in
set_option maxHeartbeats 4000000 in
theorem w_Mill_result_0 {C : mz_Cl} {Q : Option mz_V → mz_M → Prop} (p0 : Nat) (μ : mz_M) (h :
    vp_in 0 7 ∧ (Q (some (mz_R 3 (157 + 6 * (0 : Int32).toNatClampNeg))) μ)) :
  v_Mill_result C Q (0, [(0, mz_R 9 p0)], [], μ) := mz_Ev.run [] 400 h
/-! EtaSeries$Mill.reset(I)V, number 19 -/
abbrev v_Mill_reset (C : mz_Cl) (Q : Option mz_V → mz_M → Prop) : mz_S → Prop := mz_Ev es_SH tb_Mill_reset C Q
set_option maxRecDepth 20000 in
set_option maxHeartbeats 4000000 in
theorem w_Mill_reset_0 {C : mz_Cl} {Q : Option mz_V → mz_M → Prop} (p0 : Nat) (x1 : Int32) (μ : mz_M) (h :
    Q none (mz_wI (mz_wI (mz_wI (mz_wI μ p0 6 0) p0 7 x1) p0 8 ((-1000004))) p0 9 ((-1000004)))) :
  v_Mill_reset C Q (0, [(0, mz_R 9 p0), (1, mz_I x1)], [], μ) := mz_Ev.run [] 400 h
/-! EtaSeries$Mill.workSum(I)I, number 20 -/
abbrev v_Mill_workSum (C : mz_Cl) (Q : Option mz_V → mz_M → Prop) : mz_S → Prop := mz_Ev es_SH tb_Mill_workSum C Q
set_option maxRecDepth 20000 in
set_option maxHeartbeats 4000000 in
theorem w_Mill_workSum_0 {C : mz_Cl} {Q : Option mz_V → mz_M → Prop} (p0 : Nat) (x1 : Int32) (μ : mz_M) (h :
    if (x1 : Int32) < (0 : Int32) then
      (Q (some (mz_I ((-1000001)))) μ)
    else
      (if (x1 : Int32) ≤ (6 : Int32) then
        (∃ (r2 : Int32) (μ1 : mz_M), C n_Mill_workPart [mz_R 9 p0, mz_I x1] μ (some (mz_I r2)) μ1 ∧
          (vp_in x1 7 ∧ (vp_in x1 7 ∧ (∃ μ3, C n_Row_take [mz_R 3 (157 + 6 * (x1 : Int32).toNatClampNeg), mz_R 3 (159 + 6 * (x1 : Int32).toNatClampNeg)] μ1 none μ3 ∧
            (v_Mill_workSum C Q (36, [(0, mz_R 9 p0), (1, mz_I x1), (2, mz_I r2), (3, mz_I 0)], [], μ3))))))
      else
        (Q (some (mz_I ((-1000001)))) μ))) :
  v_Mill_workSum C Q (0, [(0, mz_R 9 p0), (1, mz_I x1)], [], μ) := mz_Ev.run [36] 400 h
set_option maxRecDepth 20000 in
set_option maxHeartbeats 4000000 in
theorem w_Mill_workSum_36 {C : mz_Cl} {Q : Option mz_V → mz_M → Prop} (p0 : Nat) (x1 : Int32) (x2 : Int32) (x3 : Int32) (μ : mz_M) (h :
    if (60 : Int32) ≤ (x3 : Int32) then
      (Q (some (mz_I x2)) μ)
    else
      (if (x2 : Int32) = (0 : Int32) then
        (∃ (r2 : Int32) (μ1 : mz_M), C n_Tape_signAt [mz_R 7 146, mz_I (μ.1 p0 6)] μ (some (mz_I r2)) μ1 ∧
          (if (r2 : Int32) = (43 : Int32) then
            (∃ (r4 : Int32) (μ3 : mz_M), C n_Mill_workPart [mz_R 9 p0, mz_I x1] (mz_wI μ1 p0 6 ((μ1.1 p0 6) + 1)) (some (mz_I r4)) μ3 ∧
              (if (r4 : Int32) = (0 : Int32) then
                (vp_in x1 7 ∧ (vp_in x1 7 ∧ (∃ (r6 : Int32) (μ5 : mz_M), C n_Mill_combine [mz_R 9 p0, mz_R 3 (157 + 6 * (x1 : Int32).toNatClampNeg), mz_I r2, mz_R 3 (159 + 6 * (x1 : Int32).toNatClampNeg), mz_I x1] μ3 (some (mz_I r6)) μ5 ∧
                  (v_Mill_workSum C Q (36, [(0, mz_R 9 p0), (1, mz_I x1), (2, mz_I r6), (3, mz_I (x3 + 1))], [], μ5)))))
              else
                (v_Mill_workSum C Q (36, [(0, mz_R 9 p0), (1, mz_I x1), (2, mz_I r4), (3, mz_I (x3 + 1))], [], μ3))))
          else
            (if (r2 : Int32) = (45 : Int32) then
              (∃ (r8 : Int32) (μ7 : mz_M), C n_Mill_workPart [mz_R 9 p0, mz_I x1] (mz_wI μ1 p0 6 ((μ1.1 p0 6) + 1)) (some (mz_I r8)) μ7 ∧
                (if (r8 : Int32) = (0 : Int32) then
                  (vp_in x1 7 ∧ (vp_in x1 7 ∧ (∃ (r10 : Int32) (μ9 : mz_M), C n_Mill_combine [mz_R 9 p0, mz_R 3 (157 + 6 * (x1 : Int32).toNatClampNeg), mz_I r2, mz_R 3 (159 + 6 * (x1 : Int32).toNatClampNeg), mz_I x1] μ7 (some (mz_I r10)) μ9 ∧
                    (v_Mill_workSum C Q (36, [(0, mz_R 9 p0), (1, mz_I x1), (2, mz_I r10), (3, mz_I (x3 + 1))], [], μ9)))))
                else
                  (v_Mill_workSum C Q (36, [(0, mz_R 9 p0), (1, mz_I x1), (2, mz_I r8), (3, mz_I (x3 + 1))], [], μ7))))
            else
              (Q (some (mz_I x2)) μ1))))
      else
        (Q (some (mz_I x2)) μ))) :
  v_Mill_workSum C Q (36, [(0, mz_R 9 p0), (1, mz_I x1), (2, mz_I x2), (3, mz_I x3)], [], μ) := mz_Ev.run [36] 400 h
/-! EtaSeries$Mill.workPart(I)I, number 21 -/
abbrev v_Mill_workPart (C : mz_Cl) (Q : Option mz_V → mz_M → Prop) : mz_S → Prop := mz_Ev es_SH tb_Mill_workPart C Q
set_option maxRecDepth 20000 in
set_option maxHeartbeats 4000000 in
theorem w_Mill_workPart_0 {C : mz_Cl} {Q : Option mz_V → mz_M → Prop} (p0 : Nat) (x1 : Int32) (μ : mz_M) (h :
    ∃ (r2 : Int32) (μ1 : mz_M), C n_Mill_workPower [mz_R 9 p0, mz_I x1] μ (some (mz_I r2)) μ1 ∧
      (vp_in x1 7 ∧ (vp_in x1 7 ∧ (∃ μ3, C n_Row_take [mz_R 3 (159 + 6 * (x1 : Int32).toNatClampNeg), mz_R 3 (161 + 6 * (x1 : Int32).toNatClampNeg)] μ1 none μ3 ∧
        (v_Mill_workPart C Q (23, [(0, mz_R 9 p0), (1, mz_I x1), (2, mz_I r2), (3, mz_I 0)], [], μ3)))))) :
  v_Mill_workPart C Q (0, [(0, mz_R 9 p0), (1, mz_I x1)], [], μ) := mz_Ev.run [23] 400 h
set_option maxRecDepth 20000 in
set_option maxHeartbeats 4000000 in
theorem w_Mill_workPart_23 {C : mz_Cl} {Q : Option mz_V → mz_M → Prop} (p0 : Nat) (x1 : Int32) (x2 : Int32) (x3 : Int32) (μ : mz_M) (h :
    if (60 : Int32) ≤ (x3 : Int32) then
      (Q (some (mz_I x2)) μ)
    else
      (if (x2 : Int32) = (0 : Int32) then
        (∃ (r2 : Int32) (μ1 : mz_M), C n_Tape_signAt [mz_R 7 146, mz_I (μ.1 p0 6)] μ (some (mz_I r2)) μ1 ∧
          (if (r2 : Int32) = (42 : Int32) then
            (∃ (r4 : Int32) (μ3 : mz_M), C n_Mill_workPower [mz_R 9 p0, mz_I x1] (mz_wI μ1 p0 6 ((μ1.1 p0 6) + 1)) (some (mz_I r4)) μ3 ∧
              (if (r4 : Int32) = (0 : Int32) then
                (vp_in x1 7 ∧ (vp_in x1 7 ∧ (∃ (r6 : Int32) (μ5 : mz_M), C n_Mill_combine [mz_R 9 p0, mz_R 3 (159 + 6 * (x1 : Int32).toNatClampNeg), mz_I r2, mz_R 3 (161 + 6 * (x1 : Int32).toNatClampNeg), mz_I x1] μ3 (some (mz_I r6)) μ5 ∧
                  (v_Mill_workPart C Q (23, [(0, mz_R 9 p0), (1, mz_I x1), (2, mz_I r6), (3, mz_I (x3 + 1))], [], μ5)))))
              else
                (v_Mill_workPart C Q (23, [(0, mz_R 9 p0), (1, mz_I x1), (2, mz_I r4), (3, mz_I (x3 + 1))], [], μ3))))
          else
            (if (r2 : Int32) = (47 : Int32) then
              (∃ (r8 : Int32) (μ7 : mz_M), C n_Mill_workPower [mz_R 9 p0, mz_I x1] (mz_wI μ1 p0 6 ((μ1.1 p0 6) + 1)) (some (mz_I r8)) μ7 ∧
                (if (r8 : Int32) = (0 : Int32) then
                  (vp_in x1 7 ∧ (vp_in x1 7 ∧ (∃ (r10 : Int32) (μ9 : mz_M), C n_Mill_combine [mz_R 9 p0, mz_R 3 (159 + 6 * (x1 : Int32).toNatClampNeg), mz_I r2, mz_R 3 (161 + 6 * (x1 : Int32).toNatClampNeg), mz_I x1] μ7 (some (mz_I r10)) μ9 ∧
                    (v_Mill_workPart C Q (23, [(0, mz_R 9 p0), (1, mz_I x1), (2, mz_I r10), (3, mz_I (x3 + 1))], [], μ9)))))
                else
                  (v_Mill_workPart C Q (23, [(0, mz_R 9 p0), (1, mz_I x1), (2, mz_I r8), (3, mz_I (x3 + 1))], [], μ7))))
            else
              (Q (some (mz_I x2)) μ1))))
      else
        (Q (some (mz_I x2)) μ))) :
  v_Mill_workPart C Q (23, [(0, mz_R 9 p0), (1, mz_I x1), (2, mz_I x2), (3, mz_I x3)], [], μ) := mz_Ev.run [23] 400 h
/-! EtaSeries$Mill.workPower(I)I, number 22 -/
abbrev v_Mill_workPower (C : mz_Cl) (Q : Option mz_V → mz_M → Prop) : mz_S → Prop := mz_Ev es_SH tb_Mill_workPower C Q
set_option maxRecDepth 20000 in
set_option maxHeartbeats 4000000 in
theorem w_Mill_workPower_0 {C : mz_Cl} {Q : Option mz_V → mz_M → Prop} (p0 : Nat) (x1 : Int32) (μ : mz_M) (h :
    ∃ (r2 : Int32) (μ1 : mz_M), C n_Mill_workAtom [mz_R 9 p0, mz_I x1] μ (some (mz_I r2)) μ1 ∧
      (if (r2 : Int32) = (0 : Int32) then
        (∃ (r4 : Int32) (μ3 : mz_M), C n_Tape_signAt [mz_R 7 146, mz_I (μ1.1 p0 6)] μ1 (some (mz_I r4)) μ3 ∧
          (if (r4 : Int32) = (94 : Int32) then
            (vp_in x1 7 ∧ (∃ (r6 : Int32) (μ5 : mz_M), C n_Tape_valueAt [mz_R 7 146, mz_I (μ3.1 p0 6)] μ3 (some (mz_I r6)) μ5 ∧
              (∃ (r8 : Int32) (μ7 : mz_M), C n_Row_becomePower [mz_R 3 (p0 + 8), mz_R 3 (161 + 6 * (x1 : Int32).toNatClampNeg), mz_I r6, mz_R 3 (p0 + 10)] μ5 (some (mz_I r8)) μ7 ∧
                (vp_in x1 7 ∧ (∃ (r10 : Int32) (μ9 : mz_M), C n_Mill_finish [mz_R 9 p0, mz_I r8, mz_R 3 (161 + 6 * (x1 : Int32).toNatClampNeg), mz_I 94, mz_I x1] (mz_wI μ7 p0 6 ((μ7.1 p0 6) + 1)) (some (mz_I r10)) μ9 ∧
                  (Q (some (mz_I r10)) μ9))))))
          else
            (Q (some (mz_I r2)) μ3)))
      else
        (Q (some (mz_I r2)) μ1))) :
  v_Mill_workPower C Q (0, [(0, mz_R 9 p0), (1, mz_I x1)], [], μ) := mz_Ev.run [] 400 h
/-! EtaSeries$Mill.workAtom(I)I, number 23 -/
abbrev v_Mill_workAtom (C : mz_Cl) (Q : Option mz_V → mz_M → Prop) : mz_S → Prop := mz_Ev es_SH tb_Mill_workAtom C Q
set_option maxRecDepth 20000 in
set_option maxHeartbeats 4000000 in
theorem w_Mill_workAtom_0 {C : mz_Cl} {Q : Option mz_V → mz_M → Prop} (p0 : Nat) (x1 : Int32) (μ : mz_M) (h :
    ∃ (r2 : Int32) (μ1 : mz_M), C n_Tape_signAt [mz_R 7 146, mz_I (μ.1 p0 6)] μ (some (mz_I r2)) μ1 ∧
      (∃ (r4 : Int32) (μ3 : mz_M), C n_Tape_valueAt [mz_R 7 146, mz_I (μ1.1 p0 6)] μ1 (some (mz_I r4)) μ3 ∧
        (if (r2 : Int32) = (40 : Int32) then
          (∃ (r6 : Int32) (μ5 : mz_M), C n_Mill_workSum [mz_R 9 p0, mz_I (x1 + 1)] (mz_wI μ3 p0 6 ((μ3.1 p0 6) + 1)) (some (mz_I r6)) μ5 ∧
            (if (r6 : Int32) = (0 : Int32) then
              (vp_in x1 7 ∧ (vp_in (x1 + 1) 7 ∧ (∃ μ7, C n_Row_take [mz_R 3 (161 + 6 * (x1 : Int32).toNatClampNeg), mz_R 3 (157 + 6 * (x1 + 1 : Int32).toNatClampNeg)] μ5 none μ7 ∧
                (Q (some (mz_I r6)) (mz_wI μ7 p0 6 ((μ7.1 p0 6) + 1))))))
            else
              (Q (some (mz_I r6)) μ5)))
        else
          (if (r2 : Int32) = (48 : Int32) then
            (vp_in x1 7 ∧ (∃ μ8, C n_Row_begin [mz_R 3 (161 + 6 * (x1 : Int32).toNatClampNeg), mz_I ((mz_wI μ3 p0 6 ((μ3.1 p0 6) + 1)).1 p0 7)] (mz_wI μ3 p0 6 ((μ3.1 p0 6) + 1)) none μ8 ∧
              (vp_in x1 7 ∧ (∃ μ9, C n_Row_put [mz_R 3 (161 + 6 * (x1 : Int32).toNatClampNeg), mz_I 0, mz_L ((r4 : Int32).toInt64)] μ8 none μ9 ∧
                (Q (some (mz_I 0)) μ9)))))
          else
            (vp_in x1 7 ∧ (∃ (r11 : Int32) (μ10 : mz_M), C n_Tape_kindOf [mz_I r2] (mz_wI μ3 p0 6 ((μ3.1 p0 6) + 1)) (some (mz_I r11)) μ10 ∧
              (∃ μ12, C n_Row_become [mz_R 3 (161 + 6 * (x1 : Int32).toNatClampNeg), mz_I r11, mz_I r4, mz_I (μ10.1 p0 7)] μ10 none μ12 ∧
                (Q (some (mz_I 0)) μ12)))))))) :
  v_Mill_workAtom C Q (0, [(0, mz_R 9 p0), (1, mz_I x1)], [], μ) := mz_Ev.run [] 400 h
/-! EtaSeries$Mill.combine(LEtaSeries$Row;ILEtaSeries$Row;I)I, number 24 -/
abbrev v_Mill_combine (C : mz_Cl) (Q : Option mz_V → mz_M → Prop) : mz_S → Prop := mz_Ev es_SH tb_Mill_combine C Q
set_option maxRecDepth 20000 in
set_option maxHeartbeats 4000000 in
theorem w_Mill_combine_0 {C : mz_Cl} {Q : Option mz_V → mz_M → Prop} (p0 : Nat) (p1 : Nat) (x2 : Int32) (p3 : Nat) (x4 : Int32) (μ : mz_M) (h :
    ∃ (r2 : Int32) (μ1 : mz_M), C n_Mill_actOf [mz_I x2] μ (some (mz_I r2)) μ1 ∧
      (∃ (r4 : Int32) (μ3 : mz_M), C n_Row_becomeJoined [mz_R 3 (p0 + 8), mz_I r2, mz_R 3 p1, mz_R 3 p3] μ1 (some (mz_I r4)) μ3 ∧
        (∃ (r6 : Int32) (μ5 : mz_M), C n_Mill_finish [mz_R 9 p0, mz_I r4, mz_R 3 p1, mz_I x2, mz_I x4] μ3 (some (mz_I r6)) μ5 ∧
          (Q (some (mz_I r6)) μ5)))) :
  v_Mill_combine C Q (0, [(0, mz_R 9 p0), (1, mz_R 3 p1), (2, mz_I x2), (3, mz_R 3 p3), (4, mz_I x4)], [], μ) := mz_Ev.run [] 400 h
/-! EtaSeries$Mill.finish(ILEtaSeries$Row;II)I, number 25 -/
abbrev v_Mill_finish (C : mz_Cl) (Q : Option mz_V → mz_M → Prop) : mz_S → Prop := mz_Ev es_SH tb_Mill_finish C Q
set_option maxRecDepth 20000 in
set_option maxHeartbeats 4000000 in
theorem w_Mill_finish_0 {C : mz_Cl} {Q : Option mz_V → mz_M → Prop} (p0 : Nat) (x1 : Int32) (p2 : Nat) (x3 : Int32) (x4 : Int32) (μ : mz_M) (h :
    if (x1 : Int32) = (0 : Int32) then
      (∃ μ1, C n_Row_take [mz_R 3 p2, mz_R 3 (p0 + 8)] μ none μ1 ∧
        (Q (some (mz_I x1)) μ1))
    else
      (Q (some (mz_I x1)) (mz_wI (mz_wI μ p0 8 x4) p0 9 x3))) :
  v_Mill_finish C Q (0, [(0, mz_R 9 p0), (1, mz_I x1), (2, mz_R 3 p2), (3, mz_I x3), (4, mz_I x4)], [], μ) := mz_Ev.run [] 400 h
/-! EtaSeries$Mill.actOf(I)I, number 26 -/
abbrev v_Mill_actOf (C : mz_Cl) (Q : Option mz_V → mz_M → Prop) : mz_S → Prop := mz_Ev es_SH tb_Mill_actOf C Q
set_option maxRecDepth 20000 in
set_option maxHeartbeats 4000000 in
theorem w_Mill_actOf_0 {C : mz_Cl} {Q : Option mz_V → mz_M → Prop} (x0 : Int32) (μ : mz_M) (h :
    if (x0 : Int32) = nI 42 then
      (Q (some (mz_I 2)) μ)
    else if (x0 : Int32) = nI 43 then
      (Q (some (mz_I 0)) μ)
    else if (x0 : Int32) = nI 44 then
      (Q (some (mz_I 3)) μ)
    else if (x0 : Int32) = nI 45 then
      (Q (some (mz_I 1)) μ)
    else (Q (some (mz_I 3)) μ)) :
  v_Mill_actOf C Q (0, [(0, mz_I x0)], [], μ) := mz_Ev.run [] 400 h
/-! EtaSeries$Mill.workQuotient(LEtaSeries$Leaf;III)I, number 27 -/
abbrev v_Mill_workQuotient (C : mz_Cl) (Q : Option mz_V → mz_M → Prop) : mz_S → Prop := mz_Ev es_SH tb_Mill_workQuotient C Q
set_option maxRecDepth 20000 in
set_option maxHeartbeats 4000000 in
theorem w_Mill_workQuotient_0 {C : mz_Cl} {Q : Option mz_V → mz_M → Prop} (p0 : Nat) (p1 : Nat) (x2 : Int32) (x3 : Int32) (x4 : Int32) (μ : mz_M) (h :
    vp_in 0 7 ∧ (vp_in 0 7 ∧ (∃ μ1, C n_Row_become [mz_R 3 (157 + 6 * (0 : Int32).toNatClampNeg), mz_I 0, mz_I 0, mz_I x4] μ none μ1 ∧
      (v_Mill_workQuotient C Q (28, [(0, mz_R 9 p0), (1, mz_R 14 p1), (2, mz_I x2), (3, mz_I x3), (4, mz_I x4), (5, mz_R 3 (157 + 6 * (0 : Int32).toNatClampNeg)), (6, mz_R 3 (161 + 6 * (0 : Int32).toNatClampNeg)), (7, mz_I 0)], [], μ1))))) :
  v_Mill_workQuotient C Q (0, [(0, mz_R 9 p0), (1, mz_R 14 p1), (2, mz_I x2), (3, mz_I x3), (4, mz_I x4)], [], μ) := mz_Ev.run [28, 61] 400 h
set_option maxRecDepth 20000 in
set_option maxHeartbeats 4000000 in
theorem w_Mill_workQuotient_28 {C : mz_Cl} {Q : Option mz_V → mz_M → Prop} (p0 : Nat) (p1 : Nat) (x2 : Int32) (x3 : Int32) (x4 : Int32) (p5 : Nat) (p6 : Nat) (x7 : Int32) (μ : mz_M) (h :
    if (x3 : Int32) ≤ (x7 : Int32) then
      (Q (some (mz_I 0)) μ)
    else
      (∃ (r2 : Int32) (μ1 : mz_M), C n_Leaf_exponent [mz_R 14 p1, mz_I x2, mz_I x7] μ (some (mz_I r2)) μ1 ∧
        (∃ (r4 : Int32) (μ3 : mz_M), C n_Leaf_divisor [mz_R 14 p1, mz_I x2, mz_I x7] μ1 (some (mz_I r4)) μ3 ∧
          (∃ μ5, C n_Row_become [mz_R 3 p6, mz_I 3, mz_I r4, mz_I x4] μ3 none μ5 ∧
            (v_Mill_workQuotient C Q (61, [(0, mz_R 9 p0), (1, mz_R 14 p1), (2, mz_I x2), (3, mz_I x3), (4, mz_I x4), (5, mz_R 3 p5), (6, mz_R 3 p6), (7, mz_I x7), (8, mz_I r2), (9, mz_I 0)], [], μ5)))))) :
  v_Mill_workQuotient C Q (28, [(0, mz_R 9 p0), (1, mz_R 14 p1), (2, mz_I x2), (3, mz_I x3), (4, mz_I x4), (5, mz_R 3 p5), (6, mz_R 3 p6), (7, mz_I x7)], [], μ) := mz_Ev.run [28, 61] 400 h
set_option maxRecDepth 20000 in
set_option maxHeartbeats 4000000 in
theorem w_Mill_workQuotient_61 {C : mz_Cl} {Q : Option mz_V → mz_M → Prop} (p0 : Nat) (p1 : Nat) (x2 : Int32) (x3 : Int32) (x4 : Int32) (p5 : Nat) (p6 : Nat) (x7 : Int32) (x8 : Int32) (x9 : Int32) (μ : mz_M) (h :
    ∃ (r2 : Int32) (μ1 : mz_M), C n_Math_abs [mz_I x8] μ (some (mz_I r2)) μ1 ∧
      (if (r2 : Int32) ≤ (x9 : Int32) then
        (v_Mill_workQuotient C Q (28, [(0, mz_R 9 p0), (1, mz_R 14 p1), (2, mz_I x2), (3, mz_I x3), (4, mz_I x4), (5, mz_R 3 p5), (6, mz_R 3 p6), (7, mz_I (x7 + 1))], [], μ1))
      else
        (if (x8 : Int32) ≤ (0 : Int32) then
          (∃ (r4 : Int32) (μ3 : mz_M), C n_Row_becomeJoined [mz_R 3 (p0 + 8), mz_I 3, mz_R 3 p5, mz_R 3 p6] μ1 (some (mz_I r4)) μ3 ∧
            (if (r4 : Int32) = (0 : Int32) then
              (∃ μ5, C n_Row_take [mz_R 3 p5, mz_R 3 (p0 + 8)] μ3 none μ5 ∧
                (v_Mill_workQuotient C Q (61, [(0, mz_R 9 p0), (1, mz_R 14 p1), (2, mz_I x2), (3, mz_I x3), (4, mz_I x4), (5, mz_R 3 p5), (6, mz_R 3 p6), (7, mz_I x7), (8, mz_I x8), (9, mz_I (x9 + 1))], [], μ5)))
            else
              (Q (some (mz_I r4)) μ3)))
        else
          (∃ (r7 : Int32) (μ6 : mz_M), C n_Row_becomeJoined [mz_R 3 (p0 + 8), mz_I 2, mz_R 3 p5, mz_R 3 p6] μ1 (some (mz_I r7)) μ6 ∧
            (if (r7 : Int32) = (0 : Int32) then
              (∃ μ8, C n_Row_take [mz_R 3 p5, mz_R 3 (p0 + 8)] μ6 none μ8 ∧
                (v_Mill_workQuotient C Q (61, [(0, mz_R 9 p0), (1, mz_R 14 p1), (2, mz_I x2), (3, mz_I x3), (4, mz_I x4), (5, mz_R 3 p5), (6, mz_R 3 p6), (7, mz_I x7), (8, mz_I x8), (9, mz_I (x9 + 1))], [], μ8)))
            else
              (Q (some (mz_I r7)) μ6)))))) :
  v_Mill_workQuotient C Q (61, [(0, mz_R 9 p0), (1, mz_R 14 p1), (2, mz_I x2), (3, mz_I x3), (4, mz_I x4), (5, mz_R 3 p5), (6, mz_R 3 p6), (7, mz_I x7), (8, mz_I x8), (9, mz_I x9)], [], μ) := mz_Ev.run [28, 61] 400 h
/-! EtaSeries$Tape.write(I)Z, number 47 -/
abbrev v_Tape_write (C : mz_Cl) (Q : Option mz_V → mz_M → Prop) : mz_S → Prop := mz_Ev es_SH tb_Tape_write C Q
set_option maxRecDepth 20000 in
set_option maxHeartbeats 4000000 in
theorem w_Tape_write_0 {C : mz_Cl} {Q : Option mz_V → mz_M → Prop} (p0 : Nat) (x1 : Int32) (μ : mz_M) (h :
    if (μ.1 p0 1 : Int32) < (0 : Int32) then
      (((0 : Int32) = 0 ∨ (0 : Int32) = 1) ∧ Q (some (mz_I 0)) μ)
    else
      (if (μ.1 p0 1 : Int32) < (nI 60 : Int32) then
        (vp_in (μ.1 p0 1) 60 ∧ (((1 : Int32) = 0 ∨ (1 : Int32) = 1) ∧ Q (some (mz_I 1)) (mz_wI (mz_wI μ (p0 + 1) (μ.1 p0 1 : Int32).toNatClampNeg x1) p0 1 (((mz_wI μ (p0 + 1) (μ.1 p0 1 : Int32).toNatClampNeg x1).1 p0 1) + 1))))
      else
        (((0 : Int32) = 0 ∨ (0 : Int32) = 1) ∧ Q (some (mz_I 0)) μ))) :
  v_Tape_write C Q (0, [(0, mz_R 7 p0), (1, mz_I x1)], [], μ) := mz_Ev.run [] 400 h
/-! EtaSeries$Tape.parse()I, number 48 -/
abbrev v_Tape_parse (C : mz_Cl) (Q : Option mz_V → mz_M → Prop) : mz_S → Prop := mz_Ev es_SH tb_Tape_parse C Q
set_option maxRecDepth 20000 in
set_option maxHeartbeats 4000000 in
theorem w_Tape_parse_0 {C : mz_Cl} {Q : Option mz_V → mz_M → Prop} (p0 : Nat) (μ : mz_M) (h :
    v_Tape_parse C Q (19, [(0, mz_R 7 p0), (1, mz_I 1), (2, mz_I 0)], [], mz_wI (mz_wI (mz_wI μ p0 2 0) p0 3 0) p0 6 0)) :
  v_Tape_parse C Q (0, [(0, mz_R 7 p0)], [], μ) := mz_Ev.run [19] 400 h
set_option maxRecDepth 20000 in
set_option maxHeartbeats 4000000 in
theorem w_Tape_parse_19 {C : mz_Cl} {Q : Option mz_V → mz_M → Prop} (p0 : Nat) (x1 : Int32) (x2 : Int32) (μ : mz_M) (h :
    if (μ.1 p0 1 : Int32) < (x2 : Int32) then
      (Q (some (mz_I (((-1000020)) - (μ.1 p0 2)))) μ)
    else
      (∃ μ1, C n_Tape_skipBlanks [mz_R 7 p0] μ none μ1 ∧
        (if (x1 : Int32) = (1 : Int32) then
          (if (x1 : Int32) = (1 : Int32) then
            (∃ (r3 : Int32) (μ2 : mz_M), C n_Tape_readAtom [mz_R 7 p0] μ1 (some (mz_I r3)) μ2 ∧
              (if (r3 : Int32) = (0 : Int32) then
                (Q (some (mz_I (((-1000020)) - (μ2.1 p0 2)))) μ2)
              else
                (v_Tape_parse C Q (19, [(0, mz_R 7 p0), (1, mz_I r3), (2, mz_I (x2 + 1))], [], μ2))))
          else
            (∃ (r5 : Int32) (μ4 : mz_M), C n_Tape_readBehindAtom [mz_R 7 p0, mz_I x1] μ1 (some (mz_I r5)) μ4 ∧
              (if (r5 : Int32) = (0 : Int32) then
                (Q (some (mz_I (((-1000020)) - (μ4.1 p0 2)))) μ4)
              else
                (v_Tape_parse C Q (19, [(0, mz_R 7 p0), (1, mz_I r5), (2, mz_I (x2 + 1))], [], μ4)))))
        else
          (if (μ1.1 p0 3 : Int32) = (0 : Int32) then
            (if (μ1.1 p0 2 : Int32) < (μ1.1 p0 1 : Int32) then
              (if (x1 : Int32) = (1 : Int32) then
                (∃ (r7 : Int32) (μ6 : mz_M), C n_Tape_readAtom [mz_R 7 p0] μ1 (some (mz_I r7)) μ6 ∧
                  (if (r7 : Int32) = (0 : Int32) then
                    (Q (some (mz_I (((-1000020)) - (μ6.1 p0 2)))) μ6)
                  else
                    (v_Tape_parse C Q (19, [(0, mz_R 7 p0), (1, mz_I r7), (2, mz_I (x2 + 1))], [], μ6))))
              else
                (∃ (r9 : Int32) (μ8 : mz_M), C n_Tape_readBehindAtom [mz_R 7 p0, mz_I x1] μ1 (some (mz_I r9)) μ8 ∧
                  (if (r9 : Int32) = (0 : Int32) then
                    (Q (some (mz_I (((-1000020)) - (μ8.1 p0 2)))) μ8)
                  else
                    (v_Tape_parse C Q (19, [(0, mz_R 7 p0), (1, mz_I r9), (2, mz_I (x2 + 1))], [], μ8)))))
            else
              (Q (some (mz_I 0)) μ1))
          else
            (if (x1 : Int32) = (1 : Int32) then
              (∃ (r11 : Int32) (μ10 : mz_M), C n_Tape_readAtom [mz_R 7 p0] μ1 (some (mz_I r11)) μ10 ∧
                (if (r11 : Int32) = (0 : Int32) then
                  (Q (some (mz_I (((-1000020)) - (μ10.1 p0 2)))) μ10)
                else
                  (v_Tape_parse C Q (19, [(0, mz_R 7 p0), (1, mz_I r11), (2, mz_I (x2 + 1))], [], μ10))))
            else
              (∃ (r13 : Int32) (μ12 : mz_M), C n_Tape_readBehindAtom [mz_R 7 p0, mz_I x1] μ1 (some (mz_I r13)) μ12 ∧
                (if (r13 : Int32) = (0 : Int32) then
                  (Q (some (mz_I (((-1000020)) - (μ12.1 p0 2)))) μ12)
                else
                  (v_Tape_parse C Q (19, [(0, mz_R 7 p0), (1, mz_I r13), (2, mz_I (x2 + 1))], [], μ12))))))))) :
  v_Tape_parse C Q (19, [(0, mz_R 7 p0), (1, mz_I x1), (2, mz_I x2)], [], μ) := mz_Ev.run [19] 400 h
/-! EtaSeries$Tape.here()I, number 49 -/
abbrev v_Tape_here (C : mz_Cl) (Q : Option mz_V → mz_M → Prop) : mz_S → Prop := mz_Ev es_SH tb_Tape_here C Q
set_option maxRecDepth 20000 in
set_option maxHeartbeats 4000000 in
theorem w_Tape_here_0 {C : mz_Cl} {Q : Option mz_V → mz_M → Prop} (p0 : Nat) (μ : mz_M) (h :
    if (μ.1 p0 2 : Int32) < (0 : Int32) then
      (Q (some (mz_I 0)) μ)
    else
      (if (μ.1 p0 1 : Int32) ≤ (μ.1 p0 2 : Int32) then
        (Q (some (mz_I 0)) μ)
      else
        (if (nI 60 : Int32) ≤ (μ.1 p0 2 : Int32) then
          (Q (some (mz_I 0)) μ)
        else
          (vp_in (μ.1 p0 2) 60 ∧ (Q (some (mz_I (μ.1 (p0 + 1) (μ.1 p0 2 : Int32).toNatClampNeg))) μ))))) :
  v_Tape_here C Q (0, [(0, mz_R 7 p0)], [], μ) := mz_Ev.run [] 400 h
/-! EtaSeries$Tape.skipBlanks()V, number 50 -/
abbrev v_Tape_skipBlanks (C : mz_Cl) (Q : Option mz_V → mz_M → Prop) : mz_S → Prop := mz_Ev es_SH tb_Tape_skipBlanks C Q
set_option maxRecDepth 20000 in
set_option maxHeartbeats 4000000 in
theorem w_Tape_skipBlanks_0 {C : mz_Cl} {Q : Option mz_V → mz_M → Prop} (p0 : Nat) (μ : mz_M) (h :
    v_Tape_skipBlanks C Q (2, [(0, mz_R 7 p0), (1, mz_I 0)], [], μ)) :
  v_Tape_skipBlanks C Q (0, [(0, mz_R 7 p0)], [], μ) := mz_Ev.run [2] 400 h
set_option maxRecDepth 20000 in
set_option maxHeartbeats 4000000 in
theorem w_Tape_skipBlanks_2 {C : mz_Cl} {Q : Option mz_V → mz_M → Prop} (p0 : Nat) (x1 : Int32) (μ : mz_M) (h :
    if (60 : Int32) ≤ (x1 : Int32) then
      (Q none μ)
    else
      (∃ (r2 : Int32) (μ1 : mz_M), C n_Tape_here [mz_R 7 p0] μ (some (mz_I r2)) μ1 ∧
        (if (r2 : Int32) = (32 : Int32) then
          (v_Tape_skipBlanks C Q (2, [(0, mz_R 7 p0), (1, mz_I (x1 + 1))], [], mz_wI μ1 p0 2 ((μ1.1 p0 2) + 1)))
        else
          (Q none μ1)))) :
  v_Tape_skipBlanks C Q (2, [(0, mz_R 7 p0), (1, mz_I x1)], [], μ) := mz_Ev.run [2] 400 h
/-! EtaSeries$Tape.digitIsHere()Z, number 51 -/
abbrev v_Tape_digitIsHere (C : mz_Cl) (Q : Option mz_V → mz_M → Prop) : mz_S → Prop := mz_Ev es_SH tb_Tape_digitIsHere C Q
set_option maxRecDepth 20000 in
set_option maxHeartbeats 4000000 in
theorem w_Tape_digitIsHere_0 {C : mz_Cl} {Q : Option mz_V → mz_M → Prop} (p0 : Nat) (μ : mz_M) (h :
    ∃ (r2 : Int32) (μ1 : mz_M), C n_Tape_here [mz_R 7 p0] μ (some (mz_I r2)) μ1 ∧
      (if (r2 : Int32) < (48 : Int32) then
        (((0 : Int32) = 0 ∨ (0 : Int32) = 1) ∧ Q (some (mz_I 0)) μ1)
      else
        (∃ (r4 : Int32) (μ3 : mz_M), C n_Tape_here [mz_R 7 p0] μ1 (some (mz_I r4)) μ3 ∧
          (if (57 : Int32) < (r4 : Int32) then
            (((0 : Int32) = 0 ∨ (0 : Int32) = 1) ∧ Q (some (mz_I 0)) μ3)
          else
            (((1 : Int32) = 0 ∨ (1 : Int32) = 1) ∧ Q (some (mz_I 1)) μ3))))) :
  v_Tape_digitIsHere C Q (0, [(0, mz_R 7 p0)], [], μ) := mz_Ev.run [] 400 h
/-! EtaSeries$Tape.readAtom()I, number 52 -/
abbrev v_Tape_readAtom (C : mz_Cl) (Q : Option mz_V → mz_M → Prop) : mz_S → Prop := mz_Ev es_SH tb_Tape_readAtom C Q
set_option maxRecDepth 20000 in
set_option maxHeartbeats 4000000 in
theorem w_Tape_readAtom_0 {C : mz_Cl} {Q : Option mz_V → mz_M → Prop} (p0 : Nat) (μ : mz_M) (h :
    ∃ (r2 : Int32) (μ1 : mz_M), C n_Tape_here [mz_R 7 p0] μ (some (mz_I r2)) μ1 ∧
      (if (r2 : Int32) = (40 : Int32) then
        (∃ (r4 : Int32) (μ3 : mz_M), C n_Tape_readOpen [mz_R 7 p0] μ1 (some (mz_I r4)) μ3 ∧
          (Q (some (mz_I r4)) μ3))
      else
        (if (r2 : Int32) = (101 : Int32) then
          (∃ (r6 : Int32) (μ5 : mz_M), C n_Tape_readFamily [mz_R 7 p0, mz_I r2] μ1 (some (mz_I r6)) μ5 ∧
            (Q (some (mz_I r6)) μ5))
        else
          (if (r2 : Int32) = (116 : Int32) then
            (∃ (r8 : Int32) (μ7 : mz_M), C n_Tape_readFamily [mz_R 7 p0, mz_I r2] μ1 (some (mz_I r8)) μ7 ∧
              (Q (some (mz_I r8)) μ7))
          else
            (if (r2 : Int32) = (115 : Int32) then
              (∃ (r10 : Int32) (μ9 : mz_M), C n_Tape_readFamily [mz_R 7 p0, mz_I r2] μ1 (some (mz_I r10)) μ9 ∧
                (Q (some (mz_I r10)) μ9))
            else
              (if (r2 : Int32) = (113 : Int32) then
                (∃ (r12 : Int32) (μ11 : mz_M), C n_Tape_readFamily [mz_R 7 p0, mz_I r2] μ1 (some (mz_I r12)) μ11 ∧
                  (Q (some (mz_I r12)) μ11))
              else
                (∃ (r14 : Int32) (μ13 : mz_M), C n_Tape_digitIsHere [mz_R 7 p0] μ1 (some (mz_I r14)) μ13 ∧
                  (if (r14 : Int32) = (0 : Int32) then
                    (Q (some (mz_I 0)) μ13)
                  else
                    (∃ (r16 : Int32) (μ15 : mz_M), C n_Tape_readNumber [mz_R 7 p0] μ13 (some (mz_I r16)) μ15 ∧
                      (∃ μ17, C n_Tape_note [mz_R 7 p0, mz_I 48, mz_I r16] μ15 none μ17 ∧
                        (Q (some (mz_I 2)) μ17))))))))))) :
  v_Tape_readAtom C Q (0, [(0, mz_R 7 p0)], [], μ) := mz_Ev.run [] 400 h
/-! EtaSeries$Tape.readOpen()I, number 53 -/
abbrev v_Tape_readOpen (C : mz_Cl) (Q : Option mz_V → mz_M → Prop) : mz_S → Prop := mz_Ev es_SH tb_Tape_readOpen C Q
set_option maxRecDepth 20000 in
set_option maxHeartbeats 4000000 in
theorem w_Tape_readOpen_0 {C : mz_Cl} {Q : Option mz_V → mz_M → Prop} (p0 : Nat) (μ : mz_M) (h :
    if (μ.1 p0 3 : Int32) < (6 : Int32) then
      (∃ (r2 : Int32) (μ1 : mz_M), C n_Tape_pass [mz_R 7 p0, mz_I 40, mz_I 1] (mz_wI μ p0 3 ((μ.1 p0 3) + 1)) (some (mz_I r2)) μ1 ∧
        (Q (some (mz_I r2)) μ1))
    else
      (Q (some (mz_I 0)) μ)) :
  v_Tape_readOpen C Q (0, [(0, mz_R 7 p0)], [], μ) := mz_Ev.run [] 400 h
/-! EtaSeries$Tape.readFamily(I)I, number 54 -/
abbrev v_Tape_readFamily (C : mz_Cl) (Q : Option mz_V → mz_M → Prop) : mz_S → Prop := mz_Ev es_SH tb_Tape_readFamily C Q
set_option maxRecDepth 20000 in
set_option maxHeartbeats 4000000 in
theorem w_Tape_readFamily_0 {C : mz_Cl} {Q : Option mz_V → mz_M → Prop} (p0 : Nat) (x1 : Int32) (μ : mz_M) (h :
    ∃ μ1, C n_Tape_skipBlanks [mz_R 7 p0] (mz_wI μ p0 2 ((μ.1 p0 2) + 1)) none μ1 ∧
      (∃ (r3 : Int32) (μ2 : mz_M), C n_Tape_here [mz_R 7 p0] μ1 (some (mz_I r3)) μ2 ∧
        (if (r3 : Int32) = (40 : Int32) then
          (∃ μ4, C n_Tape_skipBlanks [mz_R 7 p0] (mz_wI μ2 p0 2 ((μ2.1 p0 2) + 1)) none μ4 ∧
            (∃ (r6 : Int32) (μ5 : mz_M), C n_Tape_digitIsHere [mz_R 7 p0] μ4 (some (mz_I r6)) μ5 ∧
              (if (r6 : Int32) = (0 : Int32) then
                (Q (some (mz_I 0)) μ5)
              else
                (∃ (r8 : Int32) (μ7 : mz_M), C n_Tape_readNumber [mz_R 7 p0] μ5 (some (mz_I r8)) μ7 ∧
                  (∃ (r10 : Int32) (μ9 : mz_M), C n_Tape_kindOf [mz_I x1] μ7 (some (mz_I r10)) μ9 ∧
                    (∃ (r12 : Int32) (μ11 : mz_M), C n_ES_isKind [mz_I r10, mz_I r8] μ9 (some (mz_I r12)) μ11 ∧
                      (if (r12 : Int32) = (0 : Int32) then
                        (Q (some (mz_I 0)) (mz_wI μ11 p0 2 (μ5.1 p0 2)))
                      else
                        (∃ μ13, C n_Tape_skipBlanks [mz_R 7 p0] μ11 none μ13 ∧
                          (∃ (r15 : Int32) (μ14 : mz_M), C n_Tape_here [mz_R 7 p0] μ13 (some (mz_I r15)) μ14 ∧
                            (if (r15 : Int32) = (41 : Int32) then
                              (∃ μ16, C n_Tape_note [mz_R 7 p0, mz_I x1, mz_I r8] (mz_wI μ14 p0 2 ((μ14.1 p0 2) + 1)) none μ16 ∧
                                (Q (some (mz_I 2)) μ16))
                            else
                              (Q (some (mz_I 0)) μ14)))))))))))
        else
          (Q (some (mz_I 0)) μ2)))) :
  v_Tape_readFamily C Q (0, [(0, mz_R 7 p0), (1, mz_I x1)], [], μ) := mz_Ev.run [] 400 h
/-! EtaSeries$Tape.readBehindAtom(I)I, number 55 -/
abbrev v_Tape_readBehindAtom (C : mz_Cl) (Q : Option mz_V → mz_M → Prop) : mz_S → Prop := mz_Ev es_SH tb_Tape_readBehindAtom C Q
set_option maxRecDepth 20000 in
set_option maxHeartbeats 4000000 in
theorem w_Tape_readBehindAtom_0 {C : mz_Cl} {Q : Option mz_V → mz_M → Prop} (p0 : Nat) (x1 : Int32) (μ : mz_M) (h :
    ∃ (r2 : Int32) (μ1 : mz_M), C n_Tape_here [mz_R 7 p0] μ (some (mz_I r2)) μ1 ∧
      (if (r2 : Int32) = (94 : Int32) then
        (if (x1 : Int32) = (2 : Int32) then
          (∃ (r4 : Int32) (μ3 : mz_M), C n_Tape_readFigure [mz_R 7 p0] μ1 (some (mz_I r4)) μ3 ∧
            (Q (some (mz_I r4)) μ3))
        else
          (if (r2 : Int32) = (43 : Int32) then
            (∃ (r6 : Int32) (μ5 : mz_M), C n_Tape_pass [mz_R 7 p0, mz_I r2, mz_I 1] μ1 (some (mz_I r6)) μ5 ∧
              (Q (some (mz_I r6)) μ5))
          else
            (if (r2 : Int32) = (45 : Int32) then
              (∃ (r8 : Int32) (μ7 : mz_M), C n_Tape_pass [mz_R 7 p0, mz_I r2, mz_I 1] μ1 (some (mz_I r8)) μ7 ∧
                (Q (some (mz_I r8)) μ7))
            else
              (if (r2 : Int32) = (42 : Int32) then
                (∃ (r10 : Int32) (μ9 : mz_M), C n_Tape_pass [mz_R 7 p0, mz_I r2, mz_I 1] μ1 (some (mz_I r10)) μ9 ∧
                  (Q (some (mz_I r10)) μ9))
              else
                (if (r2 : Int32) = (47 : Int32) then
                  (∃ (r12 : Int32) (μ11 : mz_M), C n_Tape_pass [mz_R 7 p0, mz_I r2, mz_I 1] μ1 (some (mz_I r12)) μ11 ∧
                    (Q (some (mz_I r12)) μ11))
                else
                  (if (r2 : Int32) = (41 : Int32) then
                    (if (μ1.1 p0 3 : Int32) ≤ (0 : Int32) then
                      (Q (some (mz_I 0)) μ1)
                    else
                      (∃ (r14 : Int32) (μ13 : mz_M), C n_Tape_pass [mz_R 7 p0, mz_I r2, mz_I 2] (mz_wI μ1 p0 3 ((μ1.1 p0 3) - 1)) (some (mz_I r14)) μ13 ∧
                        (Q (some (mz_I r14)) μ13)))
                  else
                    (Q (some (mz_I 0)) μ1)))))))
      else
        (if (r2 : Int32) = (43 : Int32) then
          (∃ (r16 : Int32) (μ15 : mz_M), C n_Tape_pass [mz_R 7 p0, mz_I r2, mz_I 1] μ1 (some (mz_I r16)) μ15 ∧
            (Q (some (mz_I r16)) μ15))
        else
          (if (r2 : Int32) = (45 : Int32) then
            (∃ (r18 : Int32) (μ17 : mz_M), C n_Tape_pass [mz_R 7 p0, mz_I r2, mz_I 1] μ1 (some (mz_I r18)) μ17 ∧
              (Q (some (mz_I r18)) μ17))
          else
            (if (r2 : Int32) = (42 : Int32) then
              (∃ (r20 : Int32) (μ19 : mz_M), C n_Tape_pass [mz_R 7 p0, mz_I r2, mz_I 1] μ1 (some (mz_I r20)) μ19 ∧
                (Q (some (mz_I r20)) μ19))
            else
              (if (r2 : Int32) = (47 : Int32) then
                (∃ (r22 : Int32) (μ21 : mz_M), C n_Tape_pass [mz_R 7 p0, mz_I r2, mz_I 1] μ1 (some (mz_I r22)) μ21 ∧
                  (Q (some (mz_I r22)) μ21))
              else
                (if (r2 : Int32) = (41 : Int32) then
                  (if (μ1.1 p0 3 : Int32) ≤ (0 : Int32) then
                    (Q (some (mz_I 0)) μ1)
                  else
                    (∃ (r24 : Int32) (μ23 : mz_M), C n_Tape_pass [mz_R 7 p0, mz_I r2, mz_I 2] (mz_wI μ1 p0 3 ((μ1.1 p0 3) - 1)) (some (mz_I r24)) μ23 ∧
                      (Q (some (mz_I r24)) μ23)))
                else
                  (Q (some (mz_I 0)) μ1)))))))) :
  v_Tape_readBehindAtom C Q (0, [(0, mz_R 7 p0), (1, mz_I x1)], [], μ) := mz_Ev.run [] 400 h
/-! EtaSeries$Tape.readFigure()I, number 56 -/
abbrev v_Tape_readFigure (C : mz_Cl) (Q : Option mz_V → mz_M → Prop) : mz_S → Prop := mz_Ev es_SH tb_Tape_readFigure C Q
set_option maxRecDepth 20000 in
set_option maxHeartbeats 4000000 in
theorem w_Tape_readFigure_0 {C : mz_Cl} {Q : Option mz_V → mz_M → Prop} (p0 : Nat) (μ : mz_M) (h :
    ∃ μ1, C n_Tape_skipBlanks [mz_R 7 p0] (mz_wI μ p0 2 ((μ.1 p0 2) + 1)) none μ1 ∧
      (∃ (r3 : Int32) (μ2 : mz_M), C n_Tape_here [mz_R 7 p0] μ1 (some (mz_I r3)) μ2 ∧
        (if (r3 : Int32) < (48 : Int32) then
          (Q (some (mz_I 0)) μ2)
        else
          (if (r3 : Int32) ≤ (56 : Int32) then
            (∃ μ4, C n_Tape_note [mz_R 7 p0, mz_I 94, mz_I (r3 - 48)] (mz_wI μ2 p0 2 ((μ2.1 p0 2) + 1)) none μ4 ∧
              (Q (some (mz_I 3)) μ4))
          else
            (Q (some (mz_I 0)) μ2))))) :
  v_Tape_readFigure C Q (0, [(0, mz_R 7 p0)], [], μ) := mz_Ev.run [] 400 h
/-! EtaSeries$Tape.readNumber()I, number 57 -/
abbrev v_Tape_readNumber (C : mz_Cl) (Q : Option mz_V → mz_M → Prop) : mz_S → Prop := mz_Ev es_SH tb_Tape_readNumber C Q
set_option maxRecDepth 20000 in
set_option maxHeartbeats 4000000 in
theorem w_Tape_readNumber_0 {C : mz_Cl} {Q : Option mz_V → mz_M → Prop} (p0 : Nat) (μ : mz_M) (h :
    v_Tape_readNumber C Q (4, [(0, mz_R 7 p0), (1, mz_I 0), (2, mz_I 0)], [], μ)) :
  v_Tape_readNumber C Q (0, [(0, mz_R 7 p0)], [], μ) := mz_Ev.run [4] 400 h
set_option maxRecDepth 20000 in
set_option maxHeartbeats 4000000 in
theorem w_Tape_readNumber_4 {C : mz_Cl} {Q : Option mz_V → mz_M → Prop} (p0 : Nat) (x1 : Int32) (x2 : Int32) (μ : mz_M) (h :
    if (2 : Int32) ≤ (x2 : Int32) then
      (Q (some (mz_I x1)) μ)
    else
      (∃ (r2 : Int32) (μ1 : mz_M), C n_Tape_digitIsHere [mz_R 7 p0] μ (some (mz_I r2)) μ1 ∧
        (if (r2 : Int32) = (0 : Int32) then
          (Q (some (mz_I x1)) μ1)
        else
          (∃ (r4 : Int32) (μ3 : mz_M), C n_Tape_here [mz_R 7 p0] μ1 (some (mz_I r4)) μ3 ∧
            (v_Tape_readNumber C Q (4, [(0, mz_R 7 p0), (1, mz_I (((10 * x1) + r4) - 48)), (2, mz_I (x2 + 1))], [], mz_wI μ3 p0 2 ((μ3.1 p0 2) + 1))))))) :
  v_Tape_readNumber C Q (4, [(0, mz_R 7 p0), (1, mz_I x1), (2, mz_I x2)], [], μ) := mz_Ev.run [4] 400 h
/-! EtaSeries$Tape.pass(II)I, number 58 -/
abbrev v_Tape_pass (C : mz_Cl) (Q : Option mz_V → mz_M → Prop) : mz_S → Prop := mz_Ev es_SH tb_Tape_pass C Q
set_option maxRecDepth 20000 in
set_option maxHeartbeats 4000000 in
theorem w_Tape_pass_0 {C : mz_Cl} {Q : Option mz_V → mz_M → Prop} (p0 : Nat) (x1 : Int32) (x2 : Int32) (μ : mz_M) (h :
    ∃ μ1, C n_Tape_note [mz_R 7 p0, mz_I x1, mz_I 0] (mz_wI μ p0 2 ((μ.1 p0 2) + 1)) none μ1 ∧
      (Q (some (mz_I x2)) μ1)) :
  v_Tape_pass C Q (0, [(0, mz_R 7 p0), (1, mz_I x1), (2, mz_I x2)], [], μ) := mz_Ev.run [] 400 h
/-! EtaSeries$Tape.note(II)V, number 59 -/
abbrev v_Tape_note (C : mz_Cl) (Q : Option mz_V → mz_M → Prop) : mz_S → Prop := mz_Ev es_SH tb_Tape_note C Q
set_option maxRecDepth 20000 in
set_option maxHeartbeats 4000000 in
theorem w_Tape_note_0 {C : mz_Cl} {Q : Option mz_V → mz_M → Prop} (p0 : Nat) (x1 : Int32) (x2 : Int32) (μ : mz_M) (h :
    if (μ.1 p0 6 : Int32) < (0 : Int32) then
      (Q none μ)
    else
      (if (nI 60 : Int32) ≤ (μ.1 p0 6 : Int32) then
        (Q none μ)
      else
        (vp_in (μ.1 p0 6) 60 ∧ (vp_in ((mz_wI μ (p0 + 2) (μ.1 p0 6 : Int32).toNatClampNeg x1).1 p0 6) 60 ∧ (Q none (mz_wI (mz_wI (mz_wI μ (p0 + 2) (μ.1 p0 6 : Int32).toNatClampNeg x1) (p0 + 3) ((mz_wI μ (p0 + 2) (μ.1 p0 6 : Int32).toNatClampNeg x1).1 p0 6 : Int32).toNatClampNeg x2) p0 6 (((mz_wI (mz_wI μ (p0 + 2) (μ.1 p0 6 : Int32).toNatClampNeg x1) (p0 + 3) ((mz_wI μ (p0 + 2) (μ.1 p0 6 : Int32).toNatClampNeg x1).1 p0 6 : Int32).toNatClampNeg x2).1 p0 6) + 1))))))) :
  v_Tape_note C Q (0, [(0, mz_R 7 p0), (1, mz_I x1), (2, mz_I x2)], [], μ) := mz_Ev.run [] 400 h
/-! EtaSeries$Tape.signAt(I)I, number 60 -/
abbrev v_Tape_signAt (C : mz_Cl) (Q : Option mz_V → mz_M → Prop) : mz_S → Prop := mz_Ev es_SH tb_Tape_signAt C Q
set_option maxRecDepth 20000 in
set_option maxHeartbeats 4000000 in
theorem w_Tape_signAt_0 {C : mz_Cl} {Q : Option mz_V → mz_M → Prop} (p0 : Nat) (x1 : Int32) (μ : mz_M) (h :
    if (x1 : Int32) < (0 : Int32) then
      (Q (some (mz_I 0)) μ)
    else
      (if (μ.1 p0 6 : Int32) ≤ (x1 : Int32) then
        (Q (some (mz_I 0)) μ)
      else
        (if (nI 60 : Int32) ≤ (x1 : Int32) then
          (Q (some (mz_I 0)) μ)
        else
          (vp_in x1 60 ∧ (Q (some (mz_I (μ.1 (p0 + 2) (x1 : Int32).toNatClampNeg))) μ))))) :
  v_Tape_signAt C Q (0, [(0, mz_R 7 p0), (1, mz_I x1)], [], μ) := mz_Ev.run [] 400 h
/-! EtaSeries$Tape.valueAt(I)I, number 61 -/
abbrev v_Tape_valueAt (C : mz_Cl) (Q : Option mz_V → mz_M → Prop) : mz_S → Prop := mz_Ev es_SH tb_Tape_valueAt C Q
set_option maxRecDepth 20000 in
set_option maxHeartbeats 4000000 in
theorem w_Tape_valueAt_0 {C : mz_Cl} {Q : Option mz_V → mz_M → Prop} (p0 : Nat) (x1 : Int32) (μ : mz_M) (h :
    if (x1 : Int32) < (0 : Int32) then
      (Q (some (mz_I 0)) μ)
    else
      (if (μ.1 p0 6 : Int32) ≤ (x1 : Int32) then
        (Q (some (mz_I 0)) μ)
      else
        (if (nI 60 : Int32) ≤ (x1 : Int32) then
          (Q (some (mz_I 0)) μ)
        else
          (vp_in x1 60 ∧ (Q (some (mz_I (μ.1 (p0 + 3) (x1 : Int32).toNatClampNeg))) μ))))) :
  v_Tape_valueAt C Q (0, [(0, mz_R 7 p0), (1, mz_I x1)], [], μ) := mz_Ev.run [] 400 h
/-! EtaSeries$Tape.kindOf(I)I, number 62 -/
abbrev v_Tape_kindOf (C : mz_Cl) (Q : Option mz_V → mz_M → Prop) : mz_S → Prop := mz_Ev es_SH tb_Tape_kindOf C Q
set_option maxRecDepth 20000 in
set_option maxHeartbeats 4000000 in
theorem w_Tape_kindOf_0 {C : mz_Cl} {Q : Option mz_V → mz_M → Prop} (x0 : Int32) (μ : mz_M) (h :
    if (x0 : Int32) = nI 101 then
      (Q (some (mz_I 3)) μ)
    else if (x0 : Int32) = nI 115 then
      (Q (some (mz_I 2)) μ)
    else if (x0 : Int32) = nI 116 then
      (Q (some (mz_I 1)) μ)
    else (Q (some (mz_I 4)) μ)) :
  v_Tape_kindOf C Q (0, [(0, mz_I x0)], [], μ) := mz_Ev.run [] 400 h
