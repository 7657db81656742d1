/-! What the stretches of the methods ask: by program, closed by evaluation. -/
/-! java/lang/Math.max(II)I, number 0 -/
abbrev v_Math_max (C : mz_Cl) (Q : Option mz_V → mz_M → Prop) : mz_S → Prop := mz_Ev es_SH tb_Math_max C Q
set_option maxRecDepth 20000 in
set_option maxHeartbeats 4000000 in
theorem w_Math_max_0 {C : mz_Cl} {Q : Option mz_V → mz_M → Prop} (x0 : Int32) (x1 : Int32) (μ : mz_M) (h :
    if (x0 : Int32) < (x1 : Int32) then
      (Q (some (mz_I x1)) μ)
    else
      (Q (some (mz_I x0)) μ)) :
  v_Math_max C Q (0, [(0, mz_I x0), (1, mz_I x1)], [], μ) := mz_Ev.run [] 400 h
/-! java/lang/Math.min(II)I, number 1 -/
abbrev v_Math_min (C : mz_Cl) (Q : Option mz_V → mz_M → Prop) : mz_S → Prop := mz_Ev es_SH tb_Math_min C Q
set_option maxRecDepth 20000 in
set_option maxHeartbeats 4000000 in
theorem w_Math_min_0 {C : mz_Cl} {Q : Option mz_V → mz_M → Prop} (x0 : Int32) (x1 : Int32) (μ : mz_M) (h :
    if (x1 : Int32) < (x0 : Int32) then
      (Q (some (mz_I x1)) μ)
    else
      (Q (some (mz_I x0)) μ)) :
  v_Math_min C Q (0, [(0, mz_I x0), (1, mz_I x1)], [], μ) := mz_Ev.run [] 400 h
/-! java/lang/Math.abs(I)I, number 2 -/
abbrev v_Math_abs (C : mz_Cl) (Q : Option mz_V → mz_M → Prop) : mz_S → Prop := mz_Ev es_SH tb_Math_abs C Q
set_option maxRecDepth 20000 in
set_option maxHeartbeats 4000000 in
theorem w_Math_abs_0 {C : mz_Cl} {Q : Option mz_V → mz_M → Prop} (x0 : Int32) (μ : mz_M) (h :
    if (0 : Int32) ≤ (x0 : Int32) then
      (Q (some (mz_I x0)) μ)
    else
      (Q (some (mz_I (-x0))) μ)) :
  v_Math_abs C Q (0, [(0, mz_I x0)], [], μ) := mz_Ev.run [] 400 h
/-! java/lang/Math.floorMod(II)I, number 3 -/
abbrev v_Math_floorMod (C : mz_Cl) (Q : Option mz_V → mz_M → Prop) : mz_S → Prop := mz_Ev es_SH tb_Math_floorMod C Q
set_option maxRecDepth 20000 in
set_option maxHeartbeats 4000000 in
theorem w_Math_floorMod_0 {C : mz_Cl} {Q : Option mz_V → mz_M → Prop} (x0 : Int32) (x1 : Int32) (μ : mz_M) (h :
    ¬ (x1 : Int32) = 0 ∧ (if (0 : Int32) ≤ (x0 ^^^ x1 : Int32) then
      (Q (some (mz_I (x0 - x0 / x1 * x1))) μ)
    else
      (if (x0 - x0 / x1 * x1 : Int32) = (0 : Int32) then
        (Q (some (mz_I (x0 - x0 / x1 * x1))) μ)
      else
        (Q (some (mz_I ((x0 - x0 / x1 * x1) + x1))) μ)))) :
  v_Math_floorMod C Q (0, [(0, mz_I x0), (1, mz_I x1)], [], μ) := mz_Ev.run [] 400 h
/-! EtaSeries$Past.remember(LEtaSeries$Shelf;)V, number 28 -/
abbrev v_Past_remember (C : mz_Cl) (Q : Option mz_V → mz_M → Prop) : mz_S → Prop := mz_Ev es_SH tb_Past_remember C Q
set_option maxRecDepth 20000 in
set_option maxHeartbeats 4000000 in
theorem w_Past_remember_0 {C : mz_Cl} {Q : Option mz_V → mz_M → Prop} (p0 : Nat) (p1 : Nat) (μ : mz_M) (h :
    ∃ (r2 : Int32) (μ1 : mz_M), C n_Math_floorMod [mz_I (μ.1 p0 2), mz_I 6] μ (some (mz_I r2)) μ1 ∧
      (vp_in r2 6 ∧ (∃ μ3, C n_Shelf_take [mz_R 1 (((p0 + 1) + 1) + 10 * (r2 : Int32).toNatClampNeg), mz_R 1 p1] μ1 none μ3 ∧
        (∃ (r5 : Int32) (μ4 : mz_M), C n_Math_floorMod [mz_I ((μ3.1 p0 2) + 1), mz_I 6] μ3 (some (mz_I r5)) μ4 ∧
          (∃ (r7 : Int32) (μ6 : mz_M), C n_Math_min [mz_I (((mz_wI μ4 p0 2 r5).1 p0 1) + 1), mz_I 6] (mz_wI μ4 p0 2 r5) (some (mz_I r7)) μ6 ∧
            (Q none (mz_wI μ6 p0 1 r7))))))) :
  v_Past_remember C Q (0, [(0, mz_R 5 p0), (1, mz_R 1 p1)], [], μ) := mz_Ev.run [] 400 h
/-! EtaSeries$Past.bringBack(LEtaSeries$Shelf;)Z, number 29 -/
abbrev v_Past_bringBack (C : mz_Cl) (Q : Option mz_V → mz_M → Prop) : mz_S → Prop := mz_Ev es_SH tb_Past_bringBack C Q
set_option maxRecDepth 20000 in
set_option maxHeartbeats 4000000 in
theorem w_Past_bringBack_0 {C : mz_Cl} {Q : Option mz_V → mz_M → Prop} (p0 : Nat) (p1 : Nat) (μ : mz_M) (h :
    if (1 : Int32) ≤ (μ.1 p0 1 : Int32) then
      (∃ (r2 : Int32) (μ1 : mz_M), C n_Math_floorMod [mz_I ((μ.1 p0 2) - 1), mz_I 6] μ (some (mz_I r2)) μ1 ∧
        (vp_in ((mz_wI μ1 p0 2 r2).1 p0 2) 6 ∧ (∃ μ3, C n_Shelf_take [mz_R 1 p1, mz_R 1 (((p0 + 1) + 1) + 10 * ((mz_wI μ1 p0 2 r2).1 p0 2 : Int32).toNatClampNeg)] (mz_wI μ1 p0 2 r2) none μ3 ∧
          (((1 : Int32) = 0 ∨ (1 : Int32) = 1) ∧ Q (some (mz_I 1)) (mz_wI μ3 p0 1 ((μ3.1 p0 1) - 1))))))
    else
      (((0 : Int32) = 0 ∨ (0 : Int32) = 1) ∧ Q (some (mz_I 0)) μ)) :
  v_Past_bringBack C Q (0, [(0, mz_R 5 p0), (1, mz_R 1 p1)], [], μ) := mz_Ev.run [] 400 h
/-! EtaSeries$Past.takeAll(LEtaSeries$Past;)V, number 30 -/
abbrev v_Past_takeAll (C : mz_Cl) (Q : Option mz_V → mz_M → Prop) : mz_S → Prop := mz_Ev es_SH tb_Past_takeAll C Q
set_option maxRecDepth 20000 in
set_option maxHeartbeats 4000000 in
theorem w_Past_takeAll_0 {C : mz_Cl} {Q : Option mz_V → mz_M → Prop} (p0 : Nat) (p1 : Nat) (μ : mz_M) (h :
    v_Past_takeAll C Q (2, [(0, mz_R 5 p0), (1, mz_R 5 p1), (2, mz_I 0)], [], μ)) :
  v_Past_takeAll C Q (0, [(0, mz_R 5 p0), (1, mz_R 5 p1)], [], μ) := mz_Ev.run [2] 400 h
set_option maxRecDepth 20000 in
set_option maxHeartbeats 4000000 in
theorem w_Past_takeAll_2 {C : mz_Cl} {Q : Option mz_V → mz_M → Prop} (p0 : Nat) (p1 : Nat) (x2 : Int32) (μ : mz_M) (h :
    if (nI 6 : Int32) ≤ (x2 : Int32) then
      (Q none (mz_wI (mz_wI μ p0 1 (μ.1 p1 1)) p0 2 ((mz_wI μ p0 1 (μ.1 p1 1)).1 p1 2)))
    else
      (vp_in x2 6 ∧ (vp_in x2 6 ∧ (∃ μ1, C n_Shelf_take [mz_R 1 (((p0 + 1) + 1) + 10 * (x2 : Int32).toNatClampNeg), mz_R 1 (((p1 + 1) + 1) + 10 * (x2 : Int32).toNatClampNeg)] μ none μ1 ∧
        (v_Past_takeAll C Q (2, [(0, mz_R 5 p0), (1, mz_R 5 p1), (2, mz_I (x2 + 1))], [], μ1)))))) :
  v_Past_takeAll C Q (2, [(0, mz_R 5 p0), (1, mz_R 5 p1), (2, mz_I x2)], [], μ) := mz_Ev.run [2] 400 h
/-! EtaSeries$Row.begin(I)V, number 31 -/
abbrev v_Row_begin (C : mz_Cl) (Q : Option mz_V → mz_M → Prop) : mz_S → Prop := mz_Ev es_SH tb_Row_begin C Q
set_option maxRecDepth 20000 in
set_option maxHeartbeats 4000000 in
theorem w_Row_begin_0 {C : mz_Cl} {Q : Option mz_V → mz_M → Prop} (p0 : Nat) (x1 : Int32) (μ : mz_M) (h :
    ∃ (r2 : Int32) (μ1 : mz_M), C n_Math_min [mz_I x1, mz_I (nI 40)] μ (some (mz_I r2)) μ1 ∧
      (∃ (r4 : Int32) (μ3 : mz_M), C n_Math_max [mz_I 0, mz_I r2] μ1 (some (mz_I r4)) μ3 ∧
        (v_Row_begin C Q (19, [(0, mz_R 3 p0), (2, mz_I 0)], [], mz_wI μ3 p0 1 r4)))) :
  v_Row_begin C Q (0, [(0, mz_R 3 p0), (1, mz_I x1)], [], μ) := mz_Ev.run [19] 400 h
set_option maxRecDepth 20000 in
set_option maxHeartbeats 4000000 in
theorem w_Row_begin_19 {C : mz_Cl} {Q : Option mz_V → mz_M → Prop} (p0 : Nat) (x2 : Int32) (μ : mz_M) (h :
    if (μ.1 p0 1 : Int32) ≤ (x2 : Int32) then
      (Q none μ)
    else
      (vp_in x2 40 ∧ (v_Row_begin C Q (19, [(0, mz_R 3 p0), (2, mz_I (x2 + 1))], [], mz_wI μ (p0 + 1) (x2 : Int32).toNatClampNeg 0)))) :
  v_Row_begin C Q (19, [(0, mz_R 3 p0), (2, mz_I x2)], [], μ) := mz_Ev.run [19] 400 h
/-! EtaSeries$Row.at(I)I, number 32 -/
abbrev v_Row_at (C : mz_Cl) (Q : Option mz_V → mz_M → Prop) : mz_S → Prop := mz_Ev es_SH tb_Row_at C Q
set_option maxRecDepth 20000 in
set_option maxHeartbeats 4000000 in
theorem w_Row_at_0 {C : mz_Cl} {Q : Option mz_V → mz_M → Prop} (p0 : Nat) (x1 : Int32) (μ : mz_M) (h :
    if (x1 : Int32) < (0 : Int32) then
      (Q (some (mz_I 0)) μ)
    else
      (if (μ.1 p0 1 : Int32) ≤ (x1 : Int32) then
        (Q (some (mz_I 0)) μ)
      else
        (vp_in x1 40 ∧ (Q (some (mz_I (μ.1 (p0 + 1) (x1 : Int32).toNatClampNeg))) μ)))) :
  v_Row_at C Q (0, [(0, mz_R 3 p0), (1, mz_I x1)], [], μ) := mz_Ev.run [] 400 h
/-! EtaSeries$Row.put(IJ)V, number 33 -/
abbrev v_Row_put (C : mz_Cl) (Q : Option mz_V → mz_M → Prop) : mz_S → Prop := mz_Ev es_SH tb_Row_put C Q
set_option maxRecDepth 20000 in
set_option maxHeartbeats 4000000 in
theorem w_Row_put_0 {C : mz_Cl} {Q : Option mz_V → mz_M → Prop} (p0 : Nat) (x1 : Int32) (y2 : Int64) (μ : mz_M) (h :
    if (x1 : Int32) < (0 : Int32) then
      (Q none μ)
    else
      (if (μ.1 p0 1 : Int32) ≤ (x1 : Int32) then
        (Q none μ)
      else
        (vp_in x1 40 ∧ (Q none (mz_wI μ (p0 + 1) (x1 : Int32).toNatClampNeg ((y2 : Int64).toInt32)))))) :
  v_Row_put C Q (0, [(0, mz_R 3 p0), (1, mz_I x1), (2, mz_L y2)], [], μ) := mz_Ev.run [] 400 h
/-! EtaSeries$Row.take(LEtaSeries$Row;)V, number 34 -/
abbrev v_Row_take (C : mz_Cl) (Q : Option mz_V → mz_M → Prop) : mz_S → Prop := mz_Ev es_SH tb_Row_take C Q
set_option maxRecDepth 20000 in
set_option maxHeartbeats 4000000 in
theorem w_Row_take_0 {C : mz_Cl} {Q : Option mz_V → mz_M → Prop} (p0 : Nat) (p1 : Nat) (μ : mz_M) (h :
    (¬ (0 : Int32) < 0 ∧ ¬ (0 : Int32) < 0 ∧ ¬ (nI 40 : Int32) < 0 ∧ (0 : Int32).toNatClampNeg + (nI 40 : Int32).toNatClampNeg ≤ 40 ∧ (0 : Int32).toNatClampNeg + (nI 40 : Int32).toNatClampNeg ≤ 40) ∧ (Q none (mz_cI (mz_wI μ p0 1 (μ.1 p1 1)) (p1 + 1) (p0 + 1) (0 : Int32).toNatClampNeg (0 : Int32).toNatClampNeg (nI 40 : Int32).toNatClampNeg))) :
  v_Row_take C Q (0, [(0, mz_R 3 p0), (1, mz_R 3 p1)], [], μ) := mz_Ev.run [] 400 h
/-! EtaSeries$Row.become(III)V, number 35 -/
abbrev v_Row_become (C : mz_Cl) (Q : Option mz_V → mz_M → Prop) : mz_S → Prop := mz_Ev es_SH tb_Row_become C Q
set_option maxRecDepth 20000 in
set_option maxHeartbeats 4000000 in
theorem w_Row_become_0 {C : mz_Cl} {Q : Option mz_V → mz_M → Prop} (p0 : Nat) (x1 : Int32) (x2 : Int32) (x3 : Int32) (μ : mz_M) (h :
    ∃ μ1, C n_Row_begin [mz_R 3 p0, mz_I x3] μ none μ1 ∧
      (if (x1 : Int32) = (4 : Int32) then
        (∃ μ2, C n_Row_put [mz_R 3 p0, mz_I x2, mz_L 1] μ1 none μ2 ∧
          (v_Row_become C Q (23, [(0, mz_R 3 p0), (1, mz_I x1), (2, mz_I x2), (4, mz_I 1)], [], μ2)))
      else
        (∃ μ3, C n_Row_put [mz_R 3 p0, mz_I 0, mz_L 1] μ1 none μ3 ∧
          (v_Row_become C Q (23, [(0, mz_R 3 p0), (1, mz_I x1), (2, mz_I x2), (4, mz_I 1)], [], μ3))))) :
  v_Row_become C Q (0, [(0, mz_R 3 p0), (1, mz_I x1), (2, mz_I x2), (3, mz_I x3)], [], μ) := mz_Ev.run [23] 400 h
set_option maxRecDepth 20000 in
set_option maxHeartbeats 4000000 in
theorem w_Row_become_23 {C : mz_Cl} {Q : Option mz_V → mz_M → Prop} (p0 : Nat) (x1 : Int32) (x2 : Int32) (x4 : Int32) (μ : mz_M) (h :
    if (μ.1 p0 1 : Int32) ≤ (x4 : Int32) then
      (Q none μ)
    else
      (if (x1 : Int32) = (1 : Int32) then
        (∃ μ1, C n_Row_put [mz_R 3 p0, mz_I ((x2 * x4) * x4), mz_L 2] μ none μ1 ∧
          (v_Row_become C Q (23, [(0, mz_R 3 p0), (1, mz_I x1), (2, mz_I x2), (4, mz_I (x4 + 1))], [], μ1)))
      else
        (if (x1 : Int32) = (2 : Int32) then
          (¬ (2 : Int32) = 0 ∧ (∃ μ2, C n_Row_put [mz_R 3 p0, mz_I (((x2 * x4) * (x4 + 1)) / 2), mz_L 1] μ none μ2 ∧
            (v_Row_become C Q (23, [(0, mz_R 3 p0), (1, mz_I x1), (2, mz_I x2), (4, mz_I (x4 + 1))], [], μ2))))
        else
          (if (x1 : Int32) = (3 : Int32) then
            (if (x4 &&& 1 : Int32) = (0 : Int32) then
              (¬ (2 : Int32) = 0 ∧ (∃ μ3, C n_Row_put [mz_R 3 p0, mz_I (x2 * ((x4 * ((3 * x4) - 1)) / 2)), mz_L ((1 : Int32).toInt64)] μ none μ3 ∧
                (¬ (2 : Int32) = 0 ∧ (∃ μ4, C n_Row_put [mz_R 3 p0, mz_I (x2 * ((x4 * ((3 * x4) + 1)) / 2)), mz_L ((1 : Int32).toInt64)] μ3 none μ4 ∧
                  (v_Row_become C Q (23, [(0, mz_R 3 p0), (1, mz_I x1), (2, mz_I x2), (4, mz_I (x4 + 1))], [], μ4))))))
            else
              (¬ (2 : Int32) = 0 ∧ (∃ μ5, C n_Row_put [mz_R 3 p0, mz_I (x2 * ((x4 * ((3 * x4) - 1)) / 2)), mz_L (((-1) : Int32).toInt64)] μ none μ5 ∧
                (¬ (2 : Int32) = 0 ∧ (∃ μ6, C n_Row_put [mz_R 3 p0, mz_I (x2 * ((x4 * ((3 * x4) + 1)) / 2)), mz_L (((-1) : Int32).toInt64)] μ5 none μ6 ∧
                  (v_Row_become C Q (23, [(0, mz_R 3 p0), (1, mz_I x1), (2, mz_I x2), (4, mz_I (x4 + 1))], [], μ6)))))))
          else
            (v_Row_become C Q (23, [(0, mz_R 3 p0), (1, mz_I x1), (2, mz_I x2), (4, mz_I (x4 + 1))], [], μ)))))) :
  v_Row_become C Q (23, [(0, mz_R 3 p0), (1, mz_I x1), (2, mz_I x2), (4, mz_I x4)], [], μ) := mz_Ev.run [23] 400 h
/-! EtaSeries$Row.becomeJoined(ILEtaSeries$Row;LEtaSeries$Row;)I, number 36 -/
abbrev v_Row_becomeJoined (C : mz_Cl) (Q : Option mz_V → mz_M → Prop) : mz_S → Prop := mz_Ev es_SH tb_Row_becomeJoined C Q
set_option maxRecDepth 20000 in
set_option maxHeartbeats 4000000 in
theorem w_Row_becomeJoined_0 {C : mz_Cl} {Q : Option mz_V → mz_M → Prop} (p0 : Nat) (x1 : Int32) (p2 : Nat) (p3 : Nat) (μ : mz_M) (h :
    if (x1 : Int32) = nI 0 then
      (∃ (r2 : Int32) (μ1 : mz_M), C n_Row_sum [mz_R 3 p0, mz_R 3 p2, mz_R 3 p3, mz_I 1] μ (some (mz_I r2)) μ1 ∧
        (Q (some (mz_I r2)) μ1))
    else if (x1 : Int32) = nI 1 then
      (∃ (r4 : Int32) (μ3 : mz_M), C n_Row_sum [mz_R 3 p0, mz_R 3 p2, mz_R 3 p3, mz_I ((-1))] μ (some (mz_I r4)) μ3 ∧
        (Q (some (mz_I r4)) μ3))
    else if (x1 : Int32) = nI 2 then
      (∃ (r6 : Int32) (μ5 : mz_M), C n_Row_product [mz_R 3 p0, mz_R 3 p2, mz_R 3 p3] μ (some (mz_I r6)) μ5 ∧
        (Q (some (mz_I r6)) μ5))
    else (∃ (r8 : Int32) (μ7 : mz_M), C n_Row_ratio [mz_R 3 p0, mz_R 3 p2, mz_R 3 p3] μ (some (mz_I r8)) μ7 ∧
        (Q (some (mz_I r8)) μ7))) :
  v_Row_becomeJoined C Q (0, [(0, mz_R 3 p0), (1, mz_I x1), (2, mz_R 3 p2), (3, mz_R 3 p3)], [], μ) := mz_Ev.run [] 400 h
/-! EtaSeries$Row.sum(LEtaSeries$Row;LEtaSeries$Row;I)I, number 37 -/
abbrev v_Row_sum (C : mz_Cl) (Q : Option mz_V → mz_M → Prop) : mz_S → Prop := mz_Ev es_SH tb_Row_sum C Q
set_option maxRecDepth 20000 in
set_option maxHeartbeats 4000000 in
theorem w_Row_sum_0 {C : mz_Cl} {Q : Option mz_V → mz_M → Prop} (p0 : Nat) (p1 : Nat) (p2 : Nat) (x3 : Int32) (μ : mz_M) (h :
    ∃ (r2 : Int32) (μ1 : mz_M), C n_Math_min [mz_I (μ.1 p1 1), mz_I (μ.1 p2 1)] μ (some (mz_I r2)) μ1 ∧
      (∃ μ3, C n_Row_begin [mz_R 3 p0, mz_I r2] μ1 none μ3 ∧
        (v_Row_sum C Q (18, [(0, mz_R 3 p0), (1, mz_R 3 p1), (2, mz_R 3 p2), (3, mz_I x3), (4, mz_I 0)], [], μ3)))) :
  v_Row_sum C Q (0, [(0, mz_R 3 p0), (1, mz_R 3 p1), (2, mz_R 3 p2), (3, mz_I x3)], [], μ) := mz_Ev.run [18] 400 h
set_option maxRecDepth 20000 in
set_option maxHeartbeats 4000000 in
theorem w_Row_sum_18 {C : mz_Cl} {Q : Option mz_V → mz_M → Prop} (p0 : Nat) (p1 : Nat) (p2 : Nat) (x3 : Int32) (x4 : Int32) (μ : mz_M) (h :
    if (μ.1 p0 1 : Int32) ≤ (x4 : Int32) then
      (Q (some (mz_I 0)) μ)
    else
      (∃ (r2 : Int32) (μ1 : mz_M), C n_Row_at [mz_R 3 p1, mz_I x4] μ (some (mz_I r2)) μ1 ∧
        (∃ (r4 : Int32) (μ3 : mz_M), C n_Row_at [mz_R 3 p2, mz_I x4] μ1 (some (mz_I r4)) μ3 ∧
          (∃ (r6 : Int32) (μ5 : mz_M), C n_ES_isWide [mz_L (((r2 : Int32).toInt64) + (((x3 : Int32).toInt64) * ((r4 : Int32).toInt64)))] μ3 (some (mz_I r6)) μ5 ∧
            (if (r6 : Int32) = (0 : Int32) then
              (∃ μ7, C n_Row_put [mz_R 3 p0, mz_I x4, mz_L (((r2 : Int32).toInt64) + (((x3 : Int32).toInt64) * ((r4 : Int32).toInt64)))] μ5 none μ7 ∧
                (v_Row_sum C Q (18, [(0, mz_R 3 p0), (1, mz_R 3 p1), (2, mz_R 3 p2), (3, mz_I x3), (4, mz_I (x4 + 1))], [], μ7)))
            else
              (Q (some (mz_I ((-1000005)))) μ5)))))) :
  v_Row_sum C Q (18, [(0, mz_R 3 p0), (1, mz_R 3 p1), (2, mz_R 3 p2), (3, mz_I x3), (4, mz_I x4)], [], μ) := mz_Ev.run [18] 400 h
/-! EtaSeries$Row.product(LEtaSeries$Row;LEtaSeries$Row;)I, number 38 -/
abbrev v_Row_product (C : mz_Cl) (Q : Option mz_V → mz_M → Prop) : mz_S → Prop := mz_Ev es_SH tb_Row_product C Q
set_option maxRecDepth 20000 in
set_option maxHeartbeats 4000000 in
theorem w_Row_product_0 {C : mz_Cl} {Q : Option mz_V → mz_M → Prop} (p0 : Nat) (p1 : Nat) (p2 : Nat) (μ : mz_M) (h :
    ∃ (r2 : Int32) (μ1 : mz_M), C n_Math_min [mz_I (μ.1 p1 1), mz_I (μ.1 p2 1)] μ (some (mz_I r2)) μ1 ∧
      (∃ μ3, C n_Row_begin [mz_R 3 p0, mz_I r2] μ1 none μ3 ∧
        (v_Row_product C Q (17, [(0, mz_R 3 p0), (1, mz_R 3 p1), (2, mz_R 3 p2), (3, mz_I 0)], [], μ3)))) :
  v_Row_product C Q (0, [(0, mz_R 3 p0), (1, mz_R 3 p1), (2, mz_R 3 p2)], [], μ) := mz_Ev.run [17, 31] 400 h
set_option maxRecDepth 20000 in
set_option maxHeartbeats 4000000 in
theorem w_Row_product_17 {C : mz_Cl} {Q : Option mz_V → mz_M → Prop} (p0 : Nat) (p1 : Nat) (p2 : Nat) (x3 : Int32) (μ : mz_M) (h :
    if (μ.1 p0 1 : Int32) ≤ (x3 : Int32) then
      (Q (some (mz_I 0)) μ)
    else
      (v_Row_product C Q (31, [(0, mz_R 3 p0), (1, mz_R 3 p1), (2, mz_R 3 p2), (3, mz_I x3), (4, mz_L 0), (6, mz_I 0)], [], μ))) :
  v_Row_product C Q (17, [(0, mz_R 3 p0), (1, mz_R 3 p1), (2, mz_R 3 p2), (3, mz_I x3)], [], μ) := mz_Ev.run [17, 31] 400 h
set_option maxRecDepth 20000 in
set_option maxHeartbeats 4000000 in
theorem w_Row_product_31 {C : mz_Cl} {Q : Option mz_V → mz_M → Prop} (p0 : Nat) (p1 : Nat) (p2 : Nat) (x3 : Int32) (y4 : Int64) (x6 : Int32) (μ : mz_M) (h :
    if (x3 : Int32) < (x6 : Int32) then
      (∃ (r2 : Int32) (μ1 : mz_M), C n_ES_isWide [mz_L y4] μ (some (mz_I r2)) μ1 ∧
        (if (r2 : Int32) = (0 : Int32) then
          (∃ μ3, C n_Row_put [mz_R 3 p0, mz_I x3, mz_L y4] μ1 none μ3 ∧
            (v_Row_product C Q (17, [(0, mz_R 3 p0), (1, mz_R 3 p1), (2, mz_R 3 p2), (3, mz_I (x3 + 1))], [], μ3)))
        else
          (Q (some (mz_I ((-1000005)))) μ1)))
    else
      (vp_in x6 40 ∧ (vp_in (x3 - x6) 40 ∧ (v_Row_product C Q (31, [(0, mz_R 3 p0), (1, mz_R 3 p1), (2, mz_R 3 p2), (3, mz_I x3), (4, mz_L (y4 + (((μ.1 (p1 + 1) (x6 : Int32).toNatClampNeg : Int32).toInt64) * ((μ.1 (p2 + 1) (x3 - x6 : Int32).toNatClampNeg : Int32).toInt64)))), (6, mz_I (x6 + 1))], [], μ))))) :
  v_Row_product C Q (31, [(0, mz_R 3 p0), (1, mz_R 3 p1), (2, mz_R 3 p2), (3, mz_I x3), (4, mz_L y4), (6, mz_I x6)], [], μ) := mz_Ev.run [17, 31] 400 h
/-! EtaSeries$Row.ratio(LEtaSeries$Row;LEtaSeries$Row;)I, number 39 -/
abbrev v_Row_ratio (C : mz_Cl) (Q : Option mz_V → mz_M → Prop) : mz_S → Prop := mz_Ev es_SH tb_Row_ratio C Q
set_option maxRecDepth 20000 in
set_option maxHeartbeats 4000000 in
theorem w_Row_ratio_0 {C : mz_Cl} {Q : Option mz_V → mz_M → Prop} (p0 : Nat) (p1 : Nat) (p2 : Nat) (μ : mz_M) (h :
    ∃ (r2 : Int32) (μ1 : mz_M), C n_Row_at [mz_R 3 p2, mz_I 0] μ (some (mz_I r2)) μ1 ∧
      (if (r2 : Int32) = (1 : Int32) then
        (∃ (r4 : Int32) (μ3 : mz_M), C n_Math_min [mz_I (μ1.1 p1 1), mz_I (μ1.1 p2 1)] μ1 (some (mz_I r4)) μ3 ∧
          (∃ μ5, C n_Row_begin [mz_R 3 p0, mz_I r4] μ3 none μ5 ∧
            (v_Row_ratio C Q (37, [(0, mz_R 3 p0), (1, mz_R 3 p1), (2, mz_R 3 p2), (3, mz_I r2), (4, mz_I 0)], [], μ5))))
      else
        (if (r2 : Int32) = ((-1) : Int32) then
          (∃ (r7 : Int32) (μ6 : mz_M), C n_Math_min [mz_I (μ1.1 p1 1), mz_I (μ1.1 p2 1)] μ1 (some (mz_I r7)) μ6 ∧
            (∃ μ8, C n_Row_begin [mz_R 3 p0, mz_I r7] μ6 none μ8 ∧
              (v_Row_ratio C Q (37, [(0, mz_R 3 p0), (1, mz_R 3 p1), (2, mz_R 3 p2), (3, mz_I r2), (4, mz_I 0)], [], μ8))))
        else
          (Q (some (mz_I ((-1000006)))) μ1)))) :
  v_Row_ratio C Q (0, [(0, mz_R 3 p0), (1, mz_R 3 p1), (2, mz_R 3 p2)], [], μ) := mz_Ev.run [37, 59] 400 h
set_option maxRecDepth 20000 in
set_option maxHeartbeats 4000000 in
theorem w_Row_ratio_37 {C : mz_Cl} {Q : Option mz_V → mz_M → Prop} (p0 : Nat) (p1 : Nat) (p2 : Nat) (x3 : Int32) (x4 : Int32) (μ : mz_M) (h :
    if (μ.1 p0 1 : Int32) ≤ (x4 : Int32) then
      (Q (some (mz_I 0)) μ)
    else
      (vp_in x4 40 ∧ (v_Row_ratio C Q (59, [(0, mz_R 3 p0), (1, mz_R 3 p1), (2, mz_R 3 p2), (3, mz_I x3), (4, mz_I x4), (5, mz_L ((μ.1 (p1 + 1) (x4 : Int32).toNatClampNeg : Int32).toInt64)), (7, mz_I 1)], [], μ)))) :
  v_Row_ratio C Q (37, [(0, mz_R 3 p0), (1, mz_R 3 p1), (2, mz_R 3 p2), (3, mz_I x3), (4, mz_I x4)], [], μ) := mz_Ev.run [37, 59] 400 h
set_option maxRecDepth 20000 in
set_option maxHeartbeats 4000000 in
theorem w_Row_ratio_59 {C : mz_Cl} {Q : Option mz_V → mz_M → Prop} (p0 : Nat) (p1 : Nat) (p2 : Nat) (x3 : Int32) (x4 : Int32) (y5 : Int64) (x7 : Int32) (μ : mz_M) (h :
    if (x4 : Int32) < (x7 : Int32) then
      (∃ (r2 : Int32) (μ1 : mz_M), C n_ES_isWide [mz_L (y5 * ((x3 : Int32).toInt64))] μ (some (mz_I r2)) μ1 ∧
        (if (r2 : Int32) = (0 : Int32) then
          (∃ μ3, C n_Row_put [mz_R 3 p0, mz_I x4, mz_L (y5 * ((x3 : Int32).toInt64))] μ1 none μ3 ∧
            (v_Row_ratio C Q (37, [(0, mz_R 3 p0), (1, mz_R 3 p1), (2, mz_R 3 p2), (3, mz_I x3), (4, mz_I (x4 + 1))], [], μ3)))
        else
          (Q (some (mz_I ((-1000005)))) μ1)))
    else
      (vp_in x7 40 ∧ (vp_in (x4 - x7) 40 ∧ (v_Row_ratio C Q (59, [(0, mz_R 3 p0), (1, mz_R 3 p1), (2, mz_R 3 p2), (3, mz_I x3), (4, mz_I x4), (5, mz_L (y5 - (((μ.1 (p2 + 1) (x7 : Int32).toNatClampNeg : Int32).toInt64) * ((μ.1 (p0 + 1) (x4 - x7 : Int32).toNatClampNeg : Int32).toInt64)))), (7, mz_I (x7 + 1))], [], μ))))) :
  v_Row_ratio C Q (59, [(0, mz_R 3 p0), (1, mz_R 3 p1), (2, mz_R 3 p2), (3, mz_I x3), (4, mz_I x4), (5, mz_L y5), (7, mz_I x7)], [], μ) := mz_Ev.run [37, 59] 400 h
/-! EtaSeries$Row.becomePower(LEtaSeries$Row;ILEtaSeries$Row;)I, number 40 -/
abbrev v_Row_becomePower (C : mz_Cl) (Q : Option mz_V → mz_M → Prop) : mz_S → Prop := mz_Ev es_SH tb_Row_becomePower C Q
set_option maxRecDepth 20000 in
set_option maxHeartbeats 4000000 in
theorem w_Row_becomePower_0 {C : mz_Cl} {Q : Option mz_V → mz_M → Prop} (p0 : Nat) (p1 : Nat) (x2 : Int32) (p3 : Nat) (μ : mz_M) (h :
    ∃ μ1, C n_Row_begin [mz_R 3 p0, mz_I (μ.1 p1 1)] μ none μ1 ∧
      (∃ μ2, C n_Row_put [mz_R 3 p0, mz_I 0, mz_L 1] μ1 none μ2 ∧
        (v_Row_becomePower C Q (17, [(0, mz_R 3 p0), (1, mz_R 3 p1), (2, mz_I x2), (3, mz_R 3 p3), (4, mz_I 0)], [], μ2)))) :
  v_Row_becomePower C Q (0, [(0, mz_R 3 p0), (1, mz_R 3 p1), (2, mz_I x2), (3, mz_R 3 p3)], [], μ) := mz_Ev.run [17] 400 h
set_option maxRecDepth 20000 in
set_option maxHeartbeats 4000000 in
theorem w_Row_becomePower_17 {C : mz_Cl} {Q : Option mz_V → mz_M → Prop} (p0 : Nat) (p1 : Nat) (x2 : Int32) (p3 : Nat) (x4 : Int32) (μ : mz_M) (h :
    if (x2 : Int32) ≤ (x4 : Int32) then
      (Q (some (mz_I 0)) μ)
    else
      (∃ (r2 : Int32) (μ1 : mz_M), C n_Row_product [mz_R 3 p3, mz_R 3 p0, mz_R 3 p1] μ (some (mz_I r2)) μ1 ∧
        (if (r2 : Int32) = (0 : Int32) then
          (∃ μ3, C n_Row_take [mz_R 3 p0, mz_R 3 p3] μ1 none μ3 ∧
            (v_Row_becomePower C Q (17, [(0, mz_R 3 p0), (1, mz_R 3 p1), (2, mz_I x2), (3, mz_R 3 p3), (4, mz_I (x4 + 1))], [], μ3)))
        else
          (Q (some (mz_I r2)) μ1)))) :
  v_Row_becomePower C Q (17, [(0, mz_R 3 p0), (1, mz_R 3 p1), (2, mz_I x2), (3, mz_R 3 p3), (4, mz_I x4)], [], μ) := mz_Ev.run [17] 400 h
/-! EtaSeries$Row.becomeChanged(IILEtaSeries$Row;)I, number 41 -/
abbrev v_Row_becomeChanged (C : mz_Cl) (Q : Option mz_V → mz_M → Prop) : mz_S → Prop := mz_Ev es_SH tb_Row_becomeChanged C Q
set_option maxRecDepth 20000 in
set_option maxHeartbeats 4000000 in
theorem w_Row_becomeChanged_0 {C : mz_Cl} {Q : Option mz_V → mz_M → Prop} (p0 : Nat) (x1 : Int32) (x2 : Int32) (p3 : Nat) (μ : mz_M) (h :
    if (x1 : Int32) = (3 : Int32) then
      (¬ (10 : Int32) = 0 ∧ (¬ (10 : Int32) = 0 ∧ (∃ (r2 : Int32) (μ1 : mz_M), C n_Row_pick [mz_R 3 p0, mz_I (x2 / 10), mz_I (x2 - x2 / 10 * 10), mz_R 3 p3] μ (some (mz_I r2)) μ1 ∧
        (Q (some (mz_I r2)) μ1))))
    else
      (if (x1 : Int32) = (4 : Int32) then
        (∃ μ3, C n_Row_begin [mz_R 3 p0, mz_I x2] μ none μ3 ∧
          (v_Row_becomeChanged C Q (39, [(0, mz_R 3 p0), (1, mz_I x1), (2, mz_I x2), (3, mz_R 3 p3), (4, mz_I 0)], [], μ3)))
      else
        (∃ μ4, C n_Row_begin [mz_R 3 p0, mz_I (μ.1 p3 1)] μ none μ4 ∧
          (v_Row_becomeChanged C Q (39, [(0, mz_R 3 p0), (1, mz_I x1), (2, mz_I x2), (3, mz_R 3 p3), (4, mz_I 0)], [], μ4))))) :
  v_Row_becomeChanged C Q (0, [(0, mz_R 3 p0), (1, mz_I x1), (2, mz_I x2), (3, mz_R 3 p3)], [], μ) := mz_Ev.run [39] 400 h
set_option maxRecDepth 20000 in
set_option maxHeartbeats 4000000 in
theorem w_Row_becomeChanged_39 {C : mz_Cl} {Q : Option mz_V → mz_M → Prop} (p0 : Nat) (x1 : Int32) (x2 : Int32) (p3 : Nat) (x4 : Int32) (μ : mz_M) (h :
    if (μ.1 p3 1 : Int32) ≤ (x4 : Int32) then
      (Q (some (mz_I 0)) μ)
    else
      (∃ (r2 : Int32) (μ1 : mz_M), C n_Row_at [mz_R 3 p3, mz_I x4] μ (some (mz_I r2)) μ1 ∧
        (if (x1 : Int32) = (0 : Int32) then
          (∃ μ3, C n_Row_put [mz_R 3 p0, mz_I (x4 + x2), mz_L ((r2 : Int32).toInt64)] μ1 none μ3 ∧
            (v_Row_becomeChanged C Q (39, [(0, mz_R 3 p0), (1, mz_I x1), (2, mz_I x2), (3, mz_R 3 p3), (4, mz_I (x4 + 1))], [], μ3)))
        else
          (if (x1 : Int32) = (1 : Int32) then
            (∃ μ4, C n_Row_put [mz_R 3 p0, mz_I (x4 * x2), mz_L ((r2 : Int32).toInt64)] μ1 none μ4 ∧
              (v_Row_becomeChanged C Q (39, [(0, mz_R 3 p0), (1, mz_I x1), (2, mz_I x2), (3, mz_R 3 p3), (4, mz_I (x4 + 1))], [], μ4)))
          else
            (if (x1 : Int32) = (2 : Int32) then
              (if (x4 &&& 1 : Int32) = (0 : Int32) then
                (∃ μ5, C n_Row_put [mz_R 3 p0, mz_I x4, mz_L ((r2 : Int32).toInt64)] μ1 none μ5 ∧
                  (v_Row_becomeChanged C Q (39, [(0, mz_R 3 p0), (1, mz_I x1), (2, mz_I x2), (3, mz_R 3 p3), (4, mz_I (x4 + 1))], [], μ5)))
              else
                (∃ μ6, C n_Row_put [mz_R 3 p0, mz_I x4, mz_L (-((r2 : Int32).toInt64))] μ1 none μ6 ∧
                  (v_Row_becomeChanged C Q (39, [(0, mz_R 3 p0), (1, mz_I x1), (2, mz_I x2), (3, mz_R 3 p3), (4, mz_I (x4 + 1))], [], μ6))))
            else
              (if (x1 : Int32) = (4 : Int32) then
                (∃ μ7, C n_Row_put [mz_R 3 p0, mz_I x4, mz_L ((r2 : Int32).toInt64)] μ1 none μ7 ∧
                  (v_Row_becomeChanged C Q (39, [(0, mz_R 3 p0), (1, mz_I x1), (2, mz_I x2), (3, mz_R 3 p3), (4, mz_I (x4 + 1))], [], μ7)))
              else
                (∃ (r9 : Int32) (μ8 : mz_M), C n_ES_isWide [mz_L (((r2 : Int32).toInt64) * ((x2 : Int32).toInt64))] μ1 (some (mz_I r9)) μ8 ∧
                  (if (r9 : Int32) = (0 : Int32) then
                    (∃ μ10, C n_Row_put [mz_R 3 p0, mz_I x4, mz_L (((r2 : Int32).toInt64) * ((x2 : Int32).toInt64))] μ8 none μ10 ∧
                      (v_Row_becomeChanged C Q (39, [(0, mz_R 3 p0), (1, mz_I x1), (2, mz_I x2), (3, mz_R 3 p3), (4, mz_I (x4 + 1))], [], μ10)))
                  else
                    (Q (some (mz_I ((-1000005)))) μ8))))))))) :
  v_Row_becomeChanged C Q (39, [(0, mz_R 3 p0), (1, mz_I x1), (2, mz_I x2), (3, mz_R 3 p3), (4, mz_I x4)], [], μ) := mz_Ev.run [39] 400 h
/-! EtaSeries$Row.pick(IILEtaSeries$Row;)I, number 42 -/
abbrev v_Row_pick (C : mz_Cl) (Q : Option mz_V → mz_M → Prop) : mz_S → Prop := mz_Ev es_SH tb_Row_pick C Q
set_option maxRecDepth 20000 in
set_option maxHeartbeats 4000000 in
theorem w_Row_pick_0 {C : mz_Cl} {Q : Option mz_V → mz_M → Prop} (p0 : Nat) (x1 : Int32) (x2 : Int32) (p3 : Nat) (μ : mz_M) (h :
    if (x1 : Int32) < (1 : Int32) then
      (Q (some (mz_I ((-1000002)))) μ)
    else
      (if (x2 : Int32) < (μ.1 p3 1 : Int32) then
        (¬ (x1 : Int32) = 0 ∧ (∃ μ1, C n_Row_begin [mz_R 3 p0, mz_I (((((μ.1 p3 1) - x2) + x1) - 1) / x1)] μ none μ1 ∧
          (v_Row_pick C Q (35, [(0, mz_R 3 p0), (1, mz_I x1), (2, mz_I x2), (3, mz_R 3 p3), (4, mz_I 0)], [], μ1))))
      else
        (Q (some (mz_I ((-1000002)))) μ))) :
  v_Row_pick C Q (0, [(0, mz_R 3 p0), (1, mz_I x1), (2, mz_I x2), (3, mz_R 3 p3)], [], μ) := mz_Ev.run [35] 400 h
set_option maxRecDepth 20000 in
set_option maxHeartbeats 4000000 in
theorem w_Row_pick_35 {C : mz_Cl} {Q : Option mz_V → mz_M → Prop} (p0 : Nat) (x1 : Int32) (x2 : Int32) (p3 : Nat) (x4 : Int32) (μ : mz_M) (h :
    if (μ.1 p0 1 : Int32) ≤ (x4 : Int32) then
      (Q (some (mz_I 0)) μ)
    else
      (∃ (r2 : Int32) (μ1 : mz_M), C n_Row_at [mz_R 3 p3, mz_I (x2 + (x4 * x1))] μ (some (mz_I r2)) μ1 ∧
        (∃ μ3, C n_Row_put [mz_R 3 p0, mz_I x4, mz_L ((r2 : Int32).toInt64)] μ1 none μ3 ∧
          (v_Row_pick C Q (35, [(0, mz_R 3 p0), (1, mz_I x1), (2, mz_I x2), (3, mz_R 3 p3), (4, mz_I (x4 + 1))], [], μ3))))) :
  v_Row_pick C Q (35, [(0, mz_R 3 p0), (1, mz_I x1), (2, mz_I x2), (3, mz_R 3 p3), (4, mz_I x4)], [], μ) := mz_Ev.run [35] 400 h
/-! EtaSeries$Shelf.take(LEtaSeries$Shelf;)V, number 43 -/
abbrev v_Shelf_take (C : mz_Cl) (Q : Option mz_V → mz_M → Prop) : mz_S → Prop := mz_Ev es_SH tb_Shelf_take C Q
set_option maxRecDepth 20000 in
set_option maxHeartbeats 4000000 in
theorem w_Shelf_take_0 {C : mz_Cl} {Q : Option mz_V → mz_M → Prop} (p0 : Nat) (p1 : Nat) (μ : mz_M) (h :
    v_Shelf_take C Q (2, [(0, mz_R 1 p0), (1, mz_R 1 p1), (2, mz_I 0)], [], μ)) :
  v_Shelf_take C Q (0, [(0, mz_R 1 p0), (1, mz_R 1 p1)], [], μ) := mz_Ev.run [2] 400 h
set_option maxRecDepth 20000 in
set_option maxHeartbeats 4000000 in
theorem w_Shelf_take_2 {C : mz_Cl} {Q : Option mz_V → mz_M → Prop} (p0 : Nat) (p1 : Nat) (x2 : Int32) (μ : mz_M) (h :
    if (nI 4 : Int32) ≤ (x2 : Int32) then
      (Q none (mz_wI (mz_wI μ p0 1 (μ.1 p1 1)) p0 2 ((mz_wI μ p0 1 (μ.1 p1 1)).1 p1 2)))
    else
      (vp_in x2 4 ∧ (vp_in x2 4 ∧ (∃ μ1, C n_Row_take [mz_R 3 (((p0 + 1) + 1) + 2 * (x2 : Int32).toNatClampNeg), mz_R 3 (((p1 + 1) + 1) + 2 * (x2 : Int32).toNatClampNeg)] μ none μ1 ∧
        (v_Shelf_take C Q (2, [(0, mz_R 1 p0), (1, mz_R 1 p1), (2, mz_I (x2 + 1))], [], μ1)))))) :
  v_Shelf_take C Q (2, [(0, mz_R 1 p0), (1, mz_R 1 p1), (2, mz_I x2)], [], μ) := mz_Ev.run [2] 400 h
/-! EtaSeries$Shelf.isMissing(I)Z, number 44 -/
abbrev v_Shelf_isMissing (C : mz_Cl) (Q : Option mz_V → mz_M → Prop) : mz_S → Prop := mz_Ev es_SH tb_Shelf_isMissing C Q
set_option maxRecDepth 20000 in
set_option maxHeartbeats 4000000 in
theorem w_Shelf_isMissing_0 {C : mz_Cl} {Q : Option mz_V → mz_M → Prop} (p0 : Nat) (x1 : Int32) (μ : mz_M) (h :
    ∃ (r2 : Int32) (μ1 : mz_M), C n_ES_isOneOfFour [mz_I x1] μ (some (mz_I r2)) μ1 ∧
      (if (r2 : Int32) = (0 : Int32) then
        (((1 : Int32) = 0 ∨ (1 : Int32) = 1) ∧ Q (some (mz_I 1)) μ1)
      else
        (vp_in x1 4 ∧ (if (μ1.1 (((p0 + 1) + 1) + 2 * (x1 : Int32).toNatClampNeg) 1 : Int32) = (0 : Int32) then
          (((1 : Int32) = 0 ∨ (1 : Int32) = 1) ∧ Q (some (mz_I 1)) μ1)
        else
          (((0 : Int32) = 0 ∨ (0 : Int32) = 1) ∧ Q (some (mz_I 0)) μ1))))) :
  v_Shelf_isMissing C Q (0, [(0, mz_R 1 p0), (1, mz_I x1)], [], μ) := mz_Ev.run [] 400 h
/-! EtaSeries$Shelf.present()I, number 45 -/
abbrev v_Shelf_present (C : mz_Cl) (Q : Option mz_V → mz_M → Prop) : mz_S → Prop := mz_Ev es_SH tb_Shelf_present C Q
set_option maxRecDepth 20000 in
set_option maxHeartbeats 4000000 in
theorem w_Shelf_present_0 {C : mz_Cl} {Q : Option mz_V → mz_M → Prop} (p0 : Nat) (μ : mz_M) (h :
    v_Shelf_present C Q (4, [(0, mz_R 1 p0), (1, mz_I 0), (2, mz_I 0)], [], μ)) :
  v_Shelf_present C Q (0, [(0, mz_R 1 p0)], [], μ) := mz_Ev.run [4] 400 h
set_option maxRecDepth 20000 in
set_option maxHeartbeats 4000000 in
theorem w_Shelf_present_4 {C : mz_Cl} {Q : Option mz_V → mz_M → Prop} (p0 : Nat) (x1 : Int32) (x2 : Int32) (μ : mz_M) (h :
    if (nI 4 : Int32) ≤ (x2 : Int32) then
      (Q (some (mz_I x1)) μ)
    else
      (vp_in x2 4 ∧ (if (μ.1 (((p0 + 1) + 1) + 2 * (x2 : Int32).toNatClampNeg) 1 : Int32) ≤ (0 : Int32) then
        (v_Shelf_present C Q (4, [(0, mz_R 1 p0), (1, mz_I x1), (2, mz_I (x2 + 1))], [], μ))
      else
        (v_Shelf_present C Q (4, [(0, mz_R 1 p0), (1, mz_I (x1 ||| (1 <<< (x2 &&& 31)))), (2, mz_I (x2 + 1))], [], μ))))) :
  v_Shelf_present C Q (4, [(0, mz_R 1 p0), (1, mz_I x1), (2, mz_I x2)], [], μ) := mz_Ev.run [4] 400 h
/-! EtaSeries$Shelf.turnDraw()V, number 46 -/
abbrev v_Shelf_turnDraw (C : mz_Cl) (Q : Option mz_V → mz_M → Prop) : mz_S → Prop := mz_Ev es_SH tb_Shelf_turnDraw C Q
set_option maxRecDepth 20000 in
set_option maxHeartbeats 4000000 in
theorem w_Shelf_turnDraw_0 {C : mz_Cl} {Q : Option mz_V → mz_M → Prop} (p0 : Nat) (μ : mz_M) (h :
    ¬ (65536 : Int32) = 0 ∧ (∃ (r2 : Int32) (μ1 : mz_M), C n_Math_floorMod [mz_I (((mz_wI μ p0 2 ((((((μ.1 p0 2 : Int32).toInt64) * 1103515245) + 12345) &&& 2147483647 : Int64).toInt32)).1 p0 2) / 65536), mz_I 4] (mz_wI μ p0 2 ((((((μ.1 p0 2 : Int32).toInt64) * 1103515245) + 12345) &&& 2147483647 : Int64).toInt32)) (some (mz_I r2)) μ1 ∧
      (vp_in r2 4 ∧ (¬ (4 : Int32) = 0 ∧ (¬ (3 : Int32) = 0 ∧ (¬ (16 : Int32) = 0 ∧ (¬ (9 : Int32) = 0 ∧ (∃ μ3, C n_Row_become [mz_R 3 (((p0 + 1) + 1) + 2 * (r2 : Int32).toNatClampNeg), mz_I (1 + (((((mz_wI μ p0 2 ((((((μ.1 p0 2 : Int32).toInt64) * 1103515245) + 12345) &&& 2147483647 : Int64).toInt32)).1 p0 2) / 65536) / 4) - ((((mz_wI μ p0 2 ((((((μ.1 p0 2 : Int32).toInt64) * 1103515245) + 12345) &&& 2147483647 : Int64).toInt32)).1 p0 2) / 65536) / 4) / 3 * 3)), mz_I ((((((mz_wI μ p0 2 ((((((μ.1 p0 2 : Int32).toInt64) * 1103515245) + 12345) &&& 2147483647 : Int64).toInt32)).1 p0 2) / 65536) / 16) - ((((mz_wI μ p0 2 ((((((μ.1 p0 2 : Int32).toInt64) * 1103515245) + 12345) &&& 2147483647 : Int64).toInt32)).1 p0 2) / 65536) / 16) / 9 * 9) + 1), mz_I (μ1.1 p0 1)] μ1 none μ3 ∧
        (Q none μ3))))))))) :
  v_Shelf_turnDraw C Q (0, [(0, mz_R 1 p0)], [], μ) := mz_Ev.run [] 400 h
