/-! What the stretches of the methods ask: by program, closed by evaluation. -/
/-! EtaSeries.make(III)I, number 63 -/
abbrev v_ES_make (C : mz_Cl) (Q : Option mz_V → mz_M → Prop) : mz_S → Prop := mz_Ev es_SH tb_ES_make C Q
set_option maxRecDepth 20000 in
set_option maxHeartbeats 4000000 in
theorem w_ES_make_0 {C : mz_Cl} {Q : Option mz_V → mz_M → Prop} (p0 : Nat) (x1 : Int32) (x2 : Int32) (x3 : Int32) (μ : mz_M) (h :
    ∃ (r2 : Int32) (μ1 : mz_M), C n_ES_isOneOfFour [mz_I x1] μ (some (mz_I r2)) μ1 ∧
      (if (r2 : Int32) = (0 : Int32) then
        (Q (some (mz_I ((-1000001)))) μ1)
      else
        (∃ (r4 : Int32) (μ3 : mz_M), C n_ES_isKind [mz_I x2, mz_I x3] μ1 (some (mz_I r4)) μ3 ∧
          (if (r4 : Int32) = (0 : Int32) then
            (Q (some (mz_I ((-1000001)))) μ3)
          else
            (∃ μ5, C n_Row_become [mz_R 3 200, mz_I x2, mz_I x3, mz_I (μ3.1 1 1)] μ3 none μ5 ∧
              (∃ (r7 : Int32) (μ6 : mz_M), C n_ES_settle [mz_R 0 p0, mz_I x1, mz_R 3 200] μ5 (some (mz_I r7)) μ6 ∧
                (Q (some (mz_I r7)) μ6))))))) :
  v_ES_make C Q (0, [(0, mz_R 0 p0), (1, mz_I x1), (2, mz_I x2), (3, mz_I x3)], [], μ) := mz_Ev.run [] 400 h
/-! EtaSeries.join(IIII)I, number 64 -/
abbrev v_ES_join (C : mz_Cl) (Q : Option mz_V → mz_M → Prop) : mz_S → Prop := mz_Ev es_SH tb_ES_join C Q
set_option maxRecDepth 20000 in
set_option maxHeartbeats 4000000 in
theorem w_ES_join_0 {C : mz_Cl} {Q : Option mz_V → mz_M → Prop} (p0 : Nat) (x1 : Int32) (x2 : Int32) (x3 : Int32) (x4 : Int32) (μ : mz_M) (h :
    ∃ (r2 : Int32) (μ1 : mz_M), C n_ES_isOneOfFour [mz_I x1] μ (some (mz_I r2)) μ1 ∧
      (if (r2 : Int32) = (0 : Int32) then
        (Q (some (mz_I ((-1000001)))) μ1)
      else
        (∃ (r4 : Int32) (μ3 : mz_M), C n_ES_isOneOfFour [mz_I x2] μ1 (some (mz_I r4)) μ3 ∧
          (if (r4 : Int32) = (0 : Int32) then
            (Q (some (mz_I ((-1000001)))) μ3)
          else
            (∃ (r6 : Int32) (μ5 : mz_M), C n_ES_isOneOfFour [mz_I x3] μ3 (some (mz_I r6)) μ5 ∧
              (if (r6 : Int32) = (0 : Int32) then
                (Q (some (mz_I ((-1000001)))) μ5)
              else
                (∃ (r8 : Int32) (μ7 : mz_M), C n_ES_isOneOfFour [mz_I x4] μ5 (some (mz_I r8)) μ7 ∧
                  (if (r8 : Int32) = (0 : Int32) then
                    (Q (some (mz_I ((-1000001)))) μ7)
                  else
                    (∃ (r10 : Int32) (μ9 : mz_M), C n_Shelf_isMissing [mz_R 1 1, mz_I x3] μ7 (some (mz_I r10)) μ9 ∧
                      (if (r10 : Int32) = (0 : Int32) then
                        (∃ (r12 : Int32) (μ11 : mz_M), C n_Shelf_isMissing [mz_R 1 1, mz_I x4] μ9 (some (mz_I r12)) μ11 ∧
                          (if (r12 : Int32) = (0 : Int32) then
                            (vp_in x3 4 ∧ (vp_in x4 4 ∧ (∃ (r14 : Int32) (μ13 : mz_M), C n_Row_becomeJoined [mz_R 3 200, mz_I x2, mz_R 3 (3 + 2 * (x3 : Int32).toNatClampNeg), mz_R 3 (3 + 2 * (x4 : Int32).toNatClampNeg)] μ11 (some (mz_I r14)) μ13 ∧
                              (if (r14 : Int32) = (0 : Int32) then
                                (∃ (r16 : Int32) (μ15 : mz_M), C n_ES_settle [mz_R 0 p0, mz_I x1, mz_R 3 200] μ13 (some (mz_I r16)) μ15 ∧
                                  (Q (some (mz_I r16)) μ15))
                              else
                                (Q (some (mz_I r14)) μ13)))))
                          else
                            (Q (some (mz_I ((-1000011)))) μ11)))
                      else
                        (Q (some (mz_I ((-1000011)))) μ9))))))))))) :
  v_ES_join C Q (0, [(0, mz_R 0 p0), (1, mz_I x1), (2, mz_I x2), (3, mz_I x3), (4, mz_I x4)], [], μ) := mz_Ev.run [] 400 h
/-! EtaSeries.change(III)I, number 65 -/
abbrev v_ES_change (C : mz_Cl) (Q : Option mz_V → mz_M → Prop) : mz_S → Prop := mz_Ev es_SH tb_ES_change C Q
set_option maxRecDepth 20000 in
set_option maxHeartbeats 4000000 in
theorem w_ES_change_0 {C : mz_Cl} {Q : Option mz_V → mz_M → Prop} (p0 : Nat) (x1 : Int32) (x2 : Int32) (x3 : Int32) (μ : mz_M) (h :
    ∃ (r2 : Int32) (μ1 : mz_M), C n_ES_isOneOfFour [mz_I x1] μ (some (mz_I r2)) μ1 ∧
      (if (r2 : Int32) = (0 : Int32) then
        (Q (some (mz_I ((-1000001)))) μ1)
      else
        (∃ (r4 : Int32) (μ3 : mz_M), C n_ES_isChange [mz_I x2, mz_I x3] μ1 (some (mz_I r4)) μ3 ∧
          (if (r4 : Int32) = (0 : Int32) then
            (Q (some (mz_I ((-1000001)))) μ3)
          else
            (∃ (r6 : Int32) (μ5 : mz_M), C n_Shelf_isMissing [mz_R 1 1, mz_I x1] μ3 (some (mz_I r6)) μ5 ∧
              (if (r6 : Int32) = (0 : Int32) then
                (vp_in x1 4 ∧ (if (x2 : Int32) = (4 : Int32) then
                  (if (x3 : Int32) ≤ (μ5.1 (3 + 2 * (x1 : Int32).toNatClampNeg) 1 : Int32) then
                    (if (x2 : Int32) = (5 : Int32) then
                      (∃ (r8 : Int32) (μ7 : mz_M), C n_Row_becomePower [mz_R 3 200, mz_R 3 (3 + 2 * (x1 : Int32).toNatClampNeg), mz_I x3, mz_R 3 202] μ5 (some (mz_I r8)) μ7 ∧
                        (if (r8 : Int32) = (0 : Int32) then
                          (∃ (r10 : Int32) (μ9 : mz_M), C n_ES_settle [mz_R 0 p0, mz_I x1, mz_R 3 200] μ7 (some (mz_I r10)) μ9 ∧
                            (Q (some (mz_I r10)) μ9))
                        else
                          (Q (some (mz_I r8)) μ7)))
                    else
                      (∃ (r12 : Int32) (μ11 : mz_M), C n_Row_becomeChanged [mz_R 3 200, mz_I x2, mz_I x3, mz_R 3 (3 + 2 * (x1 : Int32).toNatClampNeg)] μ5 (some (mz_I r12)) μ11 ∧
                        (if (r12 : Int32) = (0 : Int32) then
                          (∃ (r14 : Int32) (μ13 : mz_M), C n_ES_settle [mz_R 0 p0, mz_I x1, mz_R 3 200] μ11 (some (mz_I r14)) μ13 ∧
                            (Q (some (mz_I r14)) μ13))
                        else
                          (Q (some (mz_I r12)) μ11))))
                  else
                    (Q (some (mz_I ((-1000001)))) μ5))
                else
                  (if (x2 : Int32) = (5 : Int32) then
                    (∃ (r16 : Int32) (μ15 : mz_M), C n_Row_becomePower [mz_R 3 200, mz_R 3 (3 + 2 * (x1 : Int32).toNatClampNeg), mz_I x3, mz_R 3 202] μ5 (some (mz_I r16)) μ15 ∧
                      (if (r16 : Int32) = (0 : Int32) then
                        (∃ (r18 : Int32) (μ17 : mz_M), C n_ES_settle [mz_R 0 p0, mz_I x1, mz_R 3 200] μ15 (some (mz_I r18)) μ17 ∧
                          (Q (some (mz_I r18)) μ17))
                      else
                        (Q (some (mz_I r16)) μ15)))
                  else
                    (∃ (r20 : Int32) (μ19 : mz_M), C n_Row_becomeChanged [mz_R 3 200, mz_I x2, mz_I x3, mz_R 3 (3 + 2 * (x1 : Int32).toNatClampNeg)] μ5 (some (mz_I r20)) μ19 ∧
                      (if (r20 : Int32) = (0 : Int32) then
                        (∃ (r22 : Int32) (μ21 : mz_M), C n_ES_settle [mz_R 0 p0, mz_I x1, mz_R 3 200] μ19 (some (mz_I r22)) μ21 ∧
                          (Q (some (mz_I r22)) μ21))
                      else
                        (Q (some (mz_I r20)) μ19))))))
              else
                (Q (some (mz_I ((-1000011)))) μ5))))))) :
  v_ES_change C Q (0, [(0, mz_R 0 p0), (1, mz_I x1), (2, mz_I x2), (3, mz_I x3)], [], μ) := mz_Ev.run [] 400 h
/-! EtaSeries.out(I)I, number 66 -/
abbrev v_ES_out (C : mz_Cl) (Q : Option mz_V → mz_M → Prop) : mz_S → Prop := mz_Ev es_SH tb_ES_out C Q
set_option maxRecDepth 20000 in
set_option maxHeartbeats 4000000 in
theorem w_ES_out_0 {C : mz_Cl} {Q : Option mz_V → mz_M → Prop} (p0 : Nat) (x1 : Int32) (μ : mz_M) (h :
    ∃ (r2 : Int32) (μ1 : mz_M), C n_ES_isOneOfFour [mz_I x1] μ (some (mz_I r2)) μ1 ∧
      (if (r2 : Int32) = (0 : Int32) then
        (Q (some (mz_I ((-1000001)))) μ1)
      else
        (∃ (r4 : Int32) (μ3 : mz_M), C n_Shelf_isMissing [mz_R 1 1, mz_I x1] μ1 (some (mz_I r4)) μ3 ∧
          (if (r4 : Int32) = (0 : Int32) then
            (vp_in x1 4 ∧ (∃ μ5, C n_Past_remember [mz_R 5 11, mz_R 1 1] μ3 none μ5 ∧
              (vp_in x1 4 ∧ (∃ μ6, C n_Row_begin [mz_R 3 (3 + 2 * (x1 : Int32).toNatClampNeg), mz_I 0] μ5 none μ6 ∧
                (Q (some (mz_I (μ3.1 (3 + 2 * (x1 : Int32).toNatClampNeg) 1))) μ6)))))
          else
            (Q (some (mz_I ((-1000011)))) μ3))))) :
  v_ES_out C Q (0, [(0, mz_R 0 p0), (1, mz_I x1)], [], μ) := mz_Ev.run [] 400 h
/-! EtaSeries.length(I)I, number 67 -/
abbrev v_ES_length (C : mz_Cl) (Q : Option mz_V → mz_M → Prop) : mz_S → Prop := mz_Ev es_SH tb_ES_length C Q
set_option maxRecDepth 20000 in
set_option maxHeartbeats 4000000 in
theorem w_ES_length_0 {C : mz_Cl} {Q : Option mz_V → mz_M → Prop} (p0 : Nat) (x1 : Int32) (μ : mz_M) (h :
    if (x1 : Int32) < (4 : Int32) then
      (Q (some (mz_I ((-1000001)))) μ)
    else
      (if (x1 : Int32) ≤ (40 : Int32) then
        (if (x1 : Int32) = (μ.1 1 1 : Int32) then
          (Q (some (mz_I ((-1000002)))) μ)
        else
          (∃ μ1, C n_Past_remember [mz_R 5 11, mz_R 1 1] μ none μ1 ∧
            (Q (some (mz_I (μ.1 1 1))) (mz_wI μ1 1 1 x1))))
      else
        (Q (some (mz_I ((-1000001)))) μ))) :
  v_ES_length C Q (0, [(0, mz_R 0 p0), (1, mz_I x1)], [], μ) := mz_Ev.run [] 400 h
/-! EtaSeries.type(I)I, number 68 -/
abbrev v_ES_type (C : mz_Cl) (Q : Option mz_V → mz_M → Prop) : mz_S → Prop := mz_Ev es_SH tb_ES_type C Q
set_option maxRecDepth 20000 in
set_option maxHeartbeats 4000000 in
theorem w_ES_type_0 {C : mz_Cl} {Q : Option mz_V → mz_M → Prop} (p0 : Nat) (x1 : Int32) (μ : mz_M) (h :
    if (x1 : Int32) < (32 : Int32) then
      (Q (some (mz_I ((-1000001)))) μ)
    else
      (if (x1 : Int32) ≤ (126 : Int32) then
        (∃ (r2 : Int32) (μ1 : mz_M), C n_Tape_write [mz_R 7 146, mz_I x1] μ (some (mz_I r2)) μ1 ∧
          (if (r2 : Int32) = (0 : Int32) then
            (Q (some (mz_I ((-1000003)))) μ1)
          else
            (Q (some (mz_I (μ1.1 146 1))) μ1)))
      else
        (Q (some (mz_I ((-1000001)))) μ))) :
  v_ES_type C Q (0, [(0, mz_R 0 p0), (1, mz_I x1)], [], μ) := mz_Ev.run [] 400 h
/-! EtaSeries.work(I)I, number 69 -/
abbrev v_ES_work (C : mz_Cl) (Q : Option mz_V → mz_M → Prop) : mz_S → Prop := mz_Ev es_SH tb_ES_work C Q
set_option maxRecDepth 20000 in
set_option maxHeartbeats 4000000 in
theorem w_ES_work_0 {C : mz_Cl} {Q : Option mz_V → mz_M → Prop} (p0 : Nat) (x1 : Int32) (μ : mz_M) (h :
    ∃ (r2 : Int32) (μ1 : mz_M), C n_ES_isOneOfFour [mz_I x1] μ (some (mz_I r2)) μ1 ∧
      (if (r2 : Int32) = (0 : Int32) then
        (Q (some (mz_I ((-1000001)))) μ1)
      else
        (∃ (r4 : Int32) (μ3 : mz_M), C n_Tape_parse [mz_R 7 146] μ1 (some (mz_I r4)) μ3 ∧
          (if (r4 : Int32) = (0 : Int32) then
            (∃ μ5, C n_Mill_reset [mz_R 9 145, mz_I ((mz_wI μ3 146 1 0).1 1 1)] (mz_wI μ3 146 1 0) none μ5 ∧
              (∃ (r7 : Int32) (μ6 : mz_M), C n_Mill_workSum [mz_R 9 145, mz_I 0] μ5 (some (mz_I r7)) μ6 ∧
                (if (r7 : Int32) = (0 : Int32) then
                  (∃ (r9 : Nat) (μ8 : mz_M), C n_Mill_result [mz_R 9 145] μ6 (some (mz_R 3 r9)) μ8 ∧
                    (∃ (r11 : Int32) (μ10 : mz_M), C n_ES_settle [mz_R 0 p0, mz_I x1, mz_R 3 r9] μ8 (some (mz_I r11)) μ10 ∧
                      (Q (some (mz_I r11)) μ10)))
                else
                  (Q (some (mz_I r7)) μ6))))
          else
            (Q (some (mz_I r4)) (mz_wI μ3 146 1 0)))))) :
  v_ES_work C Q (0, [(0, mz_R 0 p0), (1, mz_I x1)], [], μ) := mz_Ev.run [] 400 h
/-! EtaSeries.drift(I)I, number 70 -/
abbrev v_ES_drift (C : mz_Cl) (Q : Option mz_V → mz_M → Prop) : mz_S → Prop := mz_Ev es_SH tb_ES_drift C Q
set_option maxRecDepth 20000 in
set_option maxHeartbeats 4000000 in
theorem w_ES_drift_0 {C : mz_Cl} {Q : Option mz_V → mz_M → Prop} (p0 : Nat) (x1 : Int32) (μ : mz_M) (h :
    if (x1 : Int32) < (1 : Int32) then
      (Q (some (mz_I ((-1000001)))) μ)
    else
      (if (x1 : Int32) ≤ (40 : Int32) then
        (v_ES_drift C Q (16, [(0, mz_R 0 p0), (1, mz_I x1), (2, mz_I 0)], [], μ))
      else
        (Q (some (mz_I ((-1000001)))) μ))) :
  v_ES_drift C Q (0, [(0, mz_R 0 p0), (1, mz_I x1)], [], μ) := mz_Ev.run [16] 400 h
set_option maxRecDepth 20000 in
set_option maxHeartbeats 4000000 in
theorem w_ES_drift_16 {C : mz_Cl} {Q : Option mz_V → mz_M → Prop} (p0 : Nat) (x1 : Int32) (x2 : Int32) (μ : mz_M) (h :
    if (x1 : Int32) ≤ (x2 : Int32) then
      (∃ (r2 : Int32) (μ1 : mz_M), C n_Shelf_present [mz_R 1 1] μ (some (mz_I r2)) μ1 ∧
        (Q (some (mz_I r2)) μ1))
    else
      (∃ μ3, C n_Past_remember [mz_R 5 11, mz_R 1 1] μ none μ3 ∧
        (∃ μ4, C n_Shelf_turnDraw [mz_R 1 1] μ3 none μ4 ∧
          (v_ES_drift C Q (16, [(0, mz_R 0 p0), (1, mz_I x1), (2, mz_I (x2 + 1))], [], μ4))))) :
  v_ES_drift C Q (16, [(0, mz_R 0 p0), (1, mz_I x1), (2, mz_I x2)], [], μ) := mz_Ev.run [16] 400 h
/-! EtaSeries.undo()I, number 71 -/
abbrev v_ES_undo (C : mz_Cl) (Q : Option mz_V → mz_M → Prop) : mz_S → Prop := mz_Ev es_SH tb_ES_undo C Q
set_option maxRecDepth 20000 in
set_option maxHeartbeats 4000000 in
theorem w_ES_undo_0 {C : mz_Cl} {Q : Option mz_V → mz_M → Prop} (p0 : Nat) (μ : mz_M) (h :
    ∃ (r2 : Int32) (μ1 : mz_M), C n_Past_bringBack [mz_R 5 11, mz_R 1 1] μ (some (mz_I r2)) μ1 ∧
      (if (r2 : Int32) = (0 : Int32) then
        (Q (some (mz_I ((-1000004)))) μ1)
      else
        (Q (some (mz_I (μ1.1 11 1))) μ1))) :
  v_ES_undo C Q (0, [(0, mz_R 0 p0)], [], μ) := mz_Ev.run [] 400 h
/-! EtaSeries.seed(I)I, number 72 -/
abbrev v_ES_seed (C : mz_Cl) (Q : Option mz_V → mz_M → Prop) : mz_S → Prop := mz_Ev es_SH tb_ES_seed C Q
set_option maxRecDepth 20000 in
set_option maxHeartbeats 4000000 in
theorem w_ES_seed_0 {C : mz_Cl} {Q : Option mz_V → mz_M → Prop} (p0 : Nat) (x1 : Int32) (μ : mz_M) (h :
    if (0 : Int32) ≤ (x1 : Int32) then
      (Q (some (mz_I (μ.1 1 2))) (mz_wI μ 1 2 x1))
    else
      (Q (some (mz_I ((-1000001)))) μ)) :
  v_ES_seed C Q (0, [(0, mz_R 0 p0), (1, mz_I x1)], [], μ) := mz_Ev.run [] 400 h
/-! EtaSeries.term(II)I, number 73 -/
abbrev v_ES_term (C : mz_Cl) (Q : Option mz_V → mz_M → Prop) : mz_S → Prop := mz_Ev es_SH tb_ES_term C Q
set_option maxRecDepth 20000 in
set_option maxHeartbeats 4000000 in
theorem w_ES_term_0 {C : mz_Cl} {Q : Option mz_V → mz_M → Prop} (p0 : Nat) (x1 : Int32) (x2 : Int32) (μ : mz_M) (h :
    ∃ (r2 : Int32) (μ1 : mz_M), C n_ES_isOneOfFour [mz_I x1] μ (some (mz_I r2)) μ1 ∧
      (if (r2 : Int32) = (0 : Int32) then
        (Q (some (mz_I ((-1000001)))) μ1)
      else
        (if (0 : Int32) ≤ (x2 : Int32) then
          (∃ (r4 : Int32) (μ3 : mz_M), C n_Shelf_isMissing [mz_R 1 1, mz_I x1] μ1 (some (mz_I r4)) μ3 ∧
            (if (r4 : Int32) = (0 : Int32) then
              (vp_in x1 4 ∧ (if (μ3.1 (3 + 2 * (x1 : Int32).toNatClampNeg) 1 : Int32) ≤ (x2 : Int32) then
                (Q (some (mz_I ((-1000001)))) μ3)
              else
                (∃ (r6 : Int32) (μ5 : mz_M), C n_Row_at [mz_R 3 (3 + 2 * (x1 : Int32).toNatClampNeg), mz_I x2] μ3 (some (mz_I r6)) μ5 ∧
                  (Q (some (mz_I r6)) μ5))))
            else
              (Q (some (mz_I ((-1000011)))) μ3)))
        else
          (Q (some (mz_I ((-1000001)))) μ1)))) :
  v_ES_term C Q (0, [(0, mz_R 0 p0), (1, mz_I x1), (2, mz_I x2)], [], μ) := mz_Ev.run [] 400 h
/-! EtaSeries.count(I)I, number 74 -/
abbrev v_ES_count (C : mz_Cl) (Q : Option mz_V → mz_M → Prop) : mz_S → Prop := mz_Ev es_SH tb_ES_count C Q
set_option maxRecDepth 20000 in
set_option maxHeartbeats 4000000 in
theorem w_ES_count_0 {C : mz_Cl} {Q : Option mz_V → mz_M → Prop} (p0 : Nat) (x1 : Int32) (μ : mz_M) (h :
    if (x1 : Int32) = nI 0 then
      (Q (some (mz_I (μ.1 1 1))) μ)
    else if (x1 : Int32) = nI 1 then
      (∃ (r2 : Int32) (μ1 : mz_M), C n_Shelf_present [mz_R 1 1] μ (some (mz_I r2)) μ1 ∧
        (Q (some (mz_I r2)) μ1))
    else if (x1 : Int32) = nI 2 then
      (vp_in (x1 - 2) 4 ∧ (Q (some (mz_I (μ.1 (3 + 2 * (x1 - 2 : Int32).toNatClampNeg) 1))) μ))
    else if (x1 : Int32) = nI 3 then
      (vp_in (x1 - 2) 4 ∧ (Q (some (mz_I (μ.1 (3 + 2 * (x1 - 2 : Int32).toNatClampNeg) 1))) μ))
    else if (x1 : Int32) = nI 4 then
      (vp_in (x1 - 2) 4 ∧ (Q (some (mz_I (μ.1 (3 + 2 * (x1 - 2 : Int32).toNatClampNeg) 1))) μ))
    else if (x1 : Int32) = nI 5 then
      (vp_in (x1 - 2) 4 ∧ (Q (some (mz_I (μ.1 (3 + 2 * (x1 - 2 : Int32).toNatClampNeg) 1))) μ))
    else if (x1 : Int32) = nI 6 then
      (Q (some (mz_I (μ.1 145 8))) μ)
    else if (x1 : Int32) = nI 7 then
      (Q (some (mz_I (μ.1 145 9))) μ)
    else if (x1 : Int32) = nI 8 then
      (Q (some (mz_I (μ.1 11 1))) μ)
    else (Q (some (mz_I ((-1000001)))) μ)) :
  v_ES_count C Q (0, [(0, mz_R 0 p0), (1, mz_I x1)], [], μ) := mz_Ev.run [] 400 h
/-! EtaSeries.first(II)I, number 75 -/
abbrev v_ES_first (C : mz_Cl) (Q : Option mz_V → mz_M → Prop) : mz_S → Prop := mz_Ev es_SH tb_ES_first C Q
set_option maxRecDepth 20000 in
set_option maxHeartbeats 4000000 in
theorem w_ES_first_0 {C : mz_Cl} {Q : Option mz_V → mz_M → Prop} (p0 : Nat) (x1 : Int32) (x2 : Int32) (μ : mz_M) (h :
    ∃ (r2 : Int32) (μ1 : mz_M), C n_ES_isOneOfFour [mz_I x1] μ (some (mz_I r2)) μ1 ∧
      (if (r2 : Int32) = (0 : Int32) then
        (Q (some (mz_I ((-1000001)))) μ1)
      else
        (∃ (r4 : Int32) (μ3 : mz_M), C n_ES_isOneOfFour [mz_I x2] μ1 (some (mz_I r4)) μ3 ∧
          (if (r4 : Int32) = (0 : Int32) then
            (Q (some (mz_I ((-1000001)))) μ3)
          else
            (∃ (r6 : Int32) (μ5 : mz_M), C n_Shelf_isMissing [mz_R 1 1, mz_I x1] μ3 (some (mz_I r6)) μ5 ∧
              (if (r6 : Int32) = (0 : Int32) then
                (∃ (r8 : Int32) (μ7 : mz_M), C n_Shelf_isMissing [mz_R 1 1, mz_I x2] μ5 (some (mz_I r8)) μ7 ∧
                  (if (r8 : Int32) = (0 : Int32) then
                    (vp_in x1 4 ∧ (vp_in x2 4 ∧ (∃ (r10 : Int32) (μ9 : mz_M), C n_ES_firstUnlike [mz_R 3 (3 + 2 * (x1 : Int32).toNatClampNeg), mz_R 3 (3 + 2 * (x2 : Int32).toNatClampNeg)] μ7 (some (mz_I r10)) μ9 ∧
                      (Q (some (mz_I r10)) μ9))))
                  else
                    (Q (some (mz_I ((-1000011)))) μ7)))
              else
                (Q (some (mz_I ((-1000011)))) μ5))))))) :
  v_ES_first C Q (0, [(0, mz_R 0 p0), (1, mz_I x1), (2, mz_I x2)], [], μ) := mz_Ev.run [] 400 h
/-! EtaSeries.fits(IIIII)I, number 76 -/
abbrev v_ES_fits (C : mz_Cl) (Q : Option mz_V → mz_M → Prop) : mz_S → Prop := mz_Ev es_SH tb_ES_fits C Q
set_option maxRecDepth 20000 in
set_option maxHeartbeats 4000000 in
theorem w_ES_fits_0 {C : mz_Cl} {Q : Option mz_V → mz_M → Prop} (p0 : Nat) (x1 : Int32) (x2 : Int32) (x3 : Int32) (x4 : Int32) (x5 : Int32) (μ : mz_M) (h :
    if (x4 : Int32) < (2 : Int32) then
      (∃ (r2 : Int32) (μ1 : mz_M), C n_ES_isOneOfFour [mz_I x1] μ (some (mz_I r2)) μ1 ∧
        (if (r2 : Int32) = (0 : Int32) then
          (Q (some (mz_I ((-1000001)))) μ1)
        else
          (∃ (r4 : Int32) (μ3 : mz_M), C n_ES_isStep [mz_I x2, mz_I x3] μ1 (some (mz_I r4)) μ3 ∧
            (if (r4 : Int32) = (0 : Int32) then
              (Q (some (mz_I ((-1000001)))) μ3)
            else
              (if (0 : Int32) = (0 : Int32) then
                (Q (some (mz_I ((-1000001)))) μ3)
              else
                (∃ (r6 : Int32) (μ5 : mz_M), C n_ES_isWithin [mz_I x5, mz_I 1] μ3 (some (mz_I r6)) μ5 ∧
                  (if (r6 : Int32) = (0 : Int32) then
                    (Q (some (mz_I ((-1000001)))) μ5)
                  else
                    (∃ (r8 : Int32) (μ7 : mz_M), C n_Shelf_isMissing [mz_R 1 1, mz_I x1] μ5 (some (mz_I r8)) μ7 ∧
                      (if (r8 : Int32) = (0 : Int32) then
                        (vp_in x1 4 ∧ (∃ (r10 : Int32) (μ9 : mz_M), C n_ES_firstMisfit [mz_R 3 (3 + 2 * (x1 : Int32).toNatClampNeg), mz_I x2, mz_I x3, mz_I x4] μ7 (some (mz_I r10)) μ9 ∧
                          (if (x5 : Int32) = (1 : Int32) then
                            (Q (some (mz_I r10)) μ9)
                          else
                            (if (r10 : Int32) = ((-1000004) : Int32) then
                              (Q (some (mz_I 1)) μ9)
                            else
                              (Q (some (mz_I 0)) μ9)))))
                      else
                        (Q (some (mz_I ((-1000011)))) μ7))))))))))
    else
      (if (9 : Int32) < (x4 : Int32) then
        (∃ (r12 : Int32) (μ11 : mz_M), C n_ES_isOneOfFour [mz_I x1] μ (some (mz_I r12)) μ11 ∧
          (if (r12 : Int32) = (0 : Int32) then
            (Q (some (mz_I ((-1000001)))) μ11)
          else
            (∃ (r14 : Int32) (μ13 : mz_M), C n_ES_isStep [mz_I x2, mz_I x3] μ11 (some (mz_I r14)) μ13 ∧
              (if (r14 : Int32) = (0 : Int32) then
                (Q (some (mz_I ((-1000001)))) μ13)
              else
                (if (0 : Int32) = (0 : Int32) then
                  (Q (some (mz_I ((-1000001)))) μ13)
                else
                  (∃ (r16 : Int32) (μ15 : mz_M), C n_ES_isWithin [mz_I x5, mz_I 1] μ13 (some (mz_I r16)) μ15 ∧
                    (if (r16 : Int32) = (0 : Int32) then
                      (Q (some (mz_I ((-1000001)))) μ15)
                    else
                      (∃ (r18 : Int32) (μ17 : mz_M), C n_Shelf_isMissing [mz_R 1 1, mz_I x1] μ15 (some (mz_I r18)) μ17 ∧
                        (if (r18 : Int32) = (0 : Int32) then
                          (vp_in x1 4 ∧ (∃ (r20 : Int32) (μ19 : mz_M), C n_ES_firstMisfit [mz_R 3 (3 + 2 * (x1 : Int32).toNatClampNeg), mz_I x2, mz_I x3, mz_I x4] μ17 (some (mz_I r20)) μ19 ∧
                            (if (x5 : Int32) = (1 : Int32) then
                              (Q (some (mz_I r20)) μ19)
                            else
                              (if (r20 : Int32) = ((-1000004) : Int32) then
                                (Q (some (mz_I 1)) μ19)
                              else
                                (Q (some (mz_I 0)) μ19)))))
                        else
                          (Q (some (mz_I ((-1000011)))) μ17))))))))))
      else
        (∃ (r22 : Int32) (μ21 : mz_M), C n_ES_isOneOfFour [mz_I x1] μ (some (mz_I r22)) μ21 ∧
          (if (r22 : Int32) = (0 : Int32) then
            (Q (some (mz_I ((-1000001)))) μ21)
          else
            (∃ (r24 : Int32) (μ23 : mz_M), C n_ES_isStep [mz_I x2, mz_I x3] μ21 (some (mz_I r24)) μ23 ∧
              (if (r24 : Int32) = (0 : Int32) then
                (Q (some (mz_I ((-1000001)))) μ23)
              else
                (if (1 : Int32) = (0 : Int32) then
                  (Q (some (mz_I ((-1000001)))) μ23)
                else
                  (∃ (r26 : Int32) (μ25 : mz_M), C n_ES_isWithin [mz_I x5, mz_I 1] μ23 (some (mz_I r26)) μ25 ∧
                    (if (r26 : Int32) = (0 : Int32) then
                      (Q (some (mz_I ((-1000001)))) μ25)
                    else
                      (∃ (r28 : Int32) (μ27 : mz_M), C n_Shelf_isMissing [mz_R 1 1, mz_I x1] μ25 (some (mz_I r28)) μ27 ∧
                        (if (r28 : Int32) = (0 : Int32) then
                          (vp_in x1 4 ∧ (∃ (r30 : Int32) (μ29 : mz_M), C n_ES_firstMisfit [mz_R 3 (3 + 2 * (x1 : Int32).toNatClampNeg), mz_I x2, mz_I x3, mz_I x4] μ27 (some (mz_I r30)) μ29 ∧
                            (if (x5 : Int32) = (1 : Int32) then
                              (Q (some (mz_I r30)) μ29)
                            else
                              (if (r30 : Int32) = ((-1000004) : Int32) then
                                (Q (some (mz_I 1)) μ29)
                              else
                                (Q (some (mz_I 0)) μ29)))))
                        else
                          (Q (some (mz_I ((-1000011)))) μ27)))))))))))) :
  v_ES_fits C Q (0, [(0, mz_R 0 p0), (1, mz_I x1), (2, mz_I x2), (3, mz_I x3), (4, mz_I x4), (5, mz_I x5)], [], μ) := mz_Ev.run [] 400 h
/-! EtaSeries.found(III)I, number 77 -/
abbrev v_ES_found (C : mz_Cl) (Q : Option mz_V → mz_M → Prop) : mz_S → Prop := mz_Ev es_SH tb_ES_found C Q
set_option maxRecDepth 20000 in
set_option maxHeartbeats 4000000 in
theorem w_ES_found_0 {C : mz_Cl} {Q : Option mz_V → mz_M → Prop} (p0 : Nat) (x1 : Int32) (x2 : Int32) (x3 : Int32) (μ : mz_M) (h :
    ∃ (r2 : Int32) (μ1 : mz_M), C n_ES_isOneOfFour [mz_I x1] μ (some (mz_I r2)) μ1 ∧
      (if (r2 : Int32) = (0 : Int32) then
        (Q (some (mz_I ((-1000001)))) μ1)
      else
        (∃ (r4 : Int32) (μ3 : mz_M), C n_ES_isStep [mz_I x2, mz_I x3] μ1 (some (mz_I r4)) μ3 ∧
          (if (r4 : Int32) = (0 : Int32) then
            (Q (some (mz_I ((-1000001)))) μ3)
          else
            (∃ (r6 : Int32) (μ5 : mz_M), C n_Shelf_isMissing [mz_R 1 1, mz_I x1] μ3 (some (mz_I r6)) μ5 ∧
              (if (r6 : Int32) = (0 : Int32) then
                (vp_in x1 4 ∧ (v_ES_found C Q (46, [(2, mz_I x2), (3, mz_I x3), (4, mz_R 3 (3 + 2 * (x1 : Int32).toNatClampNeg)), (5, mz_I x2)], [], μ5)))
              else
                (Q (some (mz_I ((-1000011)))) μ5))))))) :
  v_ES_found C Q (0, [(0, mz_R 0 p0), (1, mz_I x1), (2, mz_I x2), (3, mz_I x3)], [], μ) := mz_Ev.run [46, 66] 400 h
set_option maxRecDepth 20000 in
set_option maxHeartbeats 4000000 in
theorem w_ES_found_46 {C : mz_Cl} {Q : Option mz_V → mz_M → Prop} (x2 : Int32) (x3 : Int32) (p4 : Nat) (x5 : Int32) (μ : mz_M) (h :
    if (8 : Int32) < (x5 : Int32) then
      (Q (some (mz_I ((-1000004)))) μ)
    else
      (if (x5 : Int32) = (x2 : Int32) then
        (v_ES_found C Q (66, [(2, mz_I x2), (3, mz_I x3), (4, mz_R 3 p4), (5, mz_I x5), (6, mz_I x3)], [], μ))
      else
        (v_ES_found C Q (66, [(2, mz_I x2), (3, mz_I x3), (4, mz_R 3 p4), (5, mz_I x5), (6, mz_I 0)], [], μ)))) :
  v_ES_found C Q (46, [(2, mz_I x2), (3, mz_I x3), (4, mz_R 3 p4), (5, mz_I x5)], [], μ) := mz_Ev.run [46, 66] 400 h
set_option maxRecDepth 20000 in
set_option maxHeartbeats 4000000 in
theorem w_ES_found_66 {C : mz_Cl} {Q : Option mz_V → mz_M → Prop} (x2 : Int32) (x3 : Int32) (p4 : Nat) (x5 : Int32) (x6 : Int32) (μ : mz_M) (h :
    if (x5 : Int32) ≤ (x6 : Int32) then
      (v_ES_found C Q (46, [(2, mz_I x2), (3, mz_I x3), (4, mz_R 3 p4), (5, mz_I (x5 + 1))], [], μ))
    else
      (if (μ.1 p4 1 : Int32) ≤ (x6 + (2 * x5) : Int32) then
        (if ((-1000004) : Int32) = ((-1000004) : Int32) then
          (v_ES_found C Q (66, [(2, mz_I x2), (3, mz_I x3), (4, mz_R 3 p4), (5, mz_I x5), (6, mz_I (x6 + 1))], [], μ))
        else
          (Q (some (mz_I (((1000 * x5) + (100 * x6)) + ((-1000004))))) μ))
      else
        (∃ (r2 : Int32) (μ1 : mz_M), C n_ES_leastFitting [mz_R 3 p4, mz_I x5, mz_I x6] μ (some (mz_I r2)) μ1 ∧
          (if (r2 : Int32) = ((-1000004) : Int32) then
            (v_ES_found C Q (66, [(2, mz_I x2), (3, mz_I x3), (4, mz_R 3 p4), (5, mz_I x5), (6, mz_I (x6 + 1))], [], μ1))
          else
            (Q (some (mz_I (((1000 * x5) + (100 * x6)) + r2))) μ1))))) :
  v_ES_found C Q (66, [(2, mz_I x2), (3, mz_I x3), (4, mz_R 3 p4), (5, mz_I x5), (6, mz_I x6)], [], μ) := mz_Ev.run [46, 66] 400 h
/-! EtaSeries.guess(IIII)I, number 78 -/
abbrev v_ES_guess (C : mz_Cl) (Q : Option mz_V → mz_M → Prop) : mz_S → Prop := mz_Ev es_SH tb_ES_guess C Q
set_option maxRecDepth 20000 in
set_option maxHeartbeats 4000000 in
theorem w_ES_guess_0 {C : mz_Cl} {Q : Option mz_V → mz_M → Prop} (p0 : Nat) (x1 : Int32) (x2 : Int32) (x3 : Int32) (x4 : Int32) (μ : mz_M) (h :
    ∃ (r2 : Int32) (μ1 : mz_M), C n_ES_isOneOfFour [mz_I x1] μ (some (mz_I r2)) μ1 ∧
      (if (r2 : Int32) = (0 : Int32) then
        (Q (some (mz_I ((-1000001)))) μ1)
      else
        (∃ (r4 : Int32) (μ3 : mz_M), C n_ES_isWithin [mz_I x2, mz_I 6] μ1 (some (mz_I r4)) μ3 ∧
          (if (r4 : Int32) = (0 : Int32) then
            (Q (some (mz_I ((-1000001)))) μ3)
          else
            (∃ (r6 : Int32) (μ5 : mz_M), C n_ES_isWithin [mz_I x3, mz_I 10] μ3 (some (mz_I r6)) μ5 ∧
              (if (r6 : Int32) = (0 : Int32) then
                (Q (some (mz_I ((-1000001)))) μ5)
              else
                (∃ (r8 : Int32) (μ7 : mz_M), C n_ES_isWithin [mz_I x4, mz_I 1] μ5 (some (mz_I r8)) μ7 ∧
                  (if (r8 : Int32) = (0 : Int32) then
                    (Q (some (mz_I ((-1000001)))) μ7)
                  else
                    (∃ (r10 : Int32) (μ9 : mz_M), C n_Shelf_isMissing [mz_R 1 1, mz_I x1] μ7 (some (mz_I r10)) μ9 ∧
                      (if (r10 : Int32) = (0 : Int32) then
                        (vp_in x1 4 ∧ (if (x2 : Int32) ≤ (μ9.1 (3 + 2 * (x1 : Int32).toNatClampNeg) 1 : Int32) then
                          (if (x4 : Int32) = (0 : Int32) then
                            (∃ (r12 : Int32) (μ11 : mz_M), C n_ES_chanceOfEven [mz_R 3 (3 + 2 * (x1 : Int32).toNatClampNeg), mz_I x2, mz_I x3, mz_I 1] μ9 (some (mz_I r12)) μ11 ∧
                              (Q (some (mz_I r12)) μ11))
                          else
                            (∃ (r14 : Int32) (μ13 : mz_M), C n_ES_chanceOfEven [mz_R 3 (3 + 2 * (x1 : Int32).toNatClampNeg), mz_I x2, mz_I x3, mz_I 0] μ9 (some (mz_I r14)) μ13 ∧
                              (Q (some (mz_I r14)) μ13)))
                        else
                          (Q (some (mz_I ((-1000001)))) μ9)))
                      else
                        (Q (some (mz_I ((-1000011)))) μ9))))))))))) :
  v_ES_guess C Q (0, [(0, mz_R 0 p0), (1, mz_I x1), (2, mz_I x2), (3, mz_I x3), (4, mz_I x4)], [], μ) := mz_Ev.run [] 400 h
/-! EtaSeries.image()I, number 79 -/
abbrev v_ES_image (C : mz_Cl) (Q : Option mz_V → mz_M → Prop) : mz_S → Prop := mz_Ev es_SH tb_ES_image C Q
set_option maxRecDepth 20000 in
set_option maxHeartbeats 4000000 in
theorem w_ES_image_0 {C : mz_Cl} {Q : Option mz_V → mz_M → Prop} (p0 : Nat) (μ : mz_M) (h :
    ∃ μ1, C n_Shelf_take [mz_R 1 73, mz_R 1 1] μ none μ1 ∧
      (∃ μ2, C n_Past_takeAll [mz_R 5 83, mz_R 5 11] μ1 none μ2 ∧
        (((1 : Int32) = 0 ∨ (1 : Int32) = 1) ∧ (Q (some (mz_I 1)) (mz_wI μ2 p0 4 1))))) :
  v_ES_image C Q (0, [(0, mz_R 0 p0)], [], μ) := mz_Ev.run [] 400 h
/-! EtaSeries.restore()I, number 80 -/
abbrev v_ES_restore (C : mz_Cl) (Q : Option mz_V → mz_M → Prop) : mz_S → Prop := mz_Ev es_SH tb_ES_restore C Q
set_option maxRecDepth 20000 in
set_option maxHeartbeats 4000000 in
theorem w_ES_restore_0 {C : mz_Cl} {Q : Option mz_V → mz_M → Prop} (p0 : Nat) (μ : mz_M) (h :
    if (μ.1 p0 4 : Int32) = (0 : Int32) then
      (Q (some (mz_I ((-1000004)))) μ)
    else
      (∃ μ1, C n_Shelf_take [mz_R 1 1, mz_R 1 73] μ none μ1 ∧
        (∃ μ2, C n_Past_takeAll [mz_R 5 11, mz_R 5 83] μ1 none μ2 ∧
          (Q (some (mz_I 1)) μ2)))) :
  v_ES_restore C Q (0, [(0, mz_R 0 p0)], [], μ) := mz_Ev.run [] 400 h
/-! EtaSeries.told(IIIII)I, number 81 -/
abbrev v_ES_told (C : mz_Cl) (Q : Option mz_V → mz_M → Prop) : mz_S → Prop := mz_Ev es_SH tb_ES_told C Q
set_option maxRecDepth 20000 in
set_option maxHeartbeats 4000000 in
theorem w_ES_told_0 {C : mz_Cl} {Q : Option mz_V → mz_M → Prop} (p0 : Nat) (x1 : Int32) (x2 : Int32) (x3 : Int32) (x4 : Int32) (x5 : Int32) (μ : mz_M) (h :
    ∃ (r2 : Int32) (μ1 : mz_M), C n_ES_isOneOfFour [mz_I x1] μ (some (mz_I r2)) μ1 ∧
      (if (r2 : Int32) = (0 : Int32) then
        (Q (some (mz_I ((-1000001)))) μ1)
      else
        (∃ (r4 : Int32) (μ3 : mz_M), C n_ES_isOneOfFour [mz_I x2] μ1 (some (mz_I r4)) μ3 ∧
          (if (r4 : Int32) = (0 : Int32) then
            (Q (some (mz_I ((-1000001)))) μ3)
          else
            (∃ (r6 : Int32) (μ5 : mz_M), C n_ES_isPairs [mz_I x4] μ3 (some (mz_I r6)) μ5 ∧
              (if (r6 : Int32) = (0 : Int32) then
                (Q (some (mz_I ((-1000001)))) μ5)
              else
                (∃ (r8 : Int32) (μ7 : mz_M), C n_ES_isWithin [mz_I x5, mz_I 2] μ5 (some (mz_I r8)) μ7 ∧
                  (if (r8 : Int32) = (0 : Int32) then
                    (Q (some (mz_I ((-1000001)))) μ7)
                  else
                    (vp_in x1 4 ∧ (∃ (r10 : Int32) (μ9 : mz_M), C n_Leaf_refusePairs [mz_R 14 (204 + 2 * (x1 : Int32).toNatClampNeg), mz_I x2, mz_I x3, mz_I x4] μ7 (some (mz_I r10)) μ9 ∧
                      (if (r10 : Int32) = (0 : Int32) then
                        (if (x5 : Int32) = (0 : Int32) then
                          (∃ (r12 : Int32) (μ11 : mz_M), C n_Leaf_weight [mz_R 14 (204 + 2 * (x1 : Int32).toNatClampNeg), mz_I x3, mz_I x4] μ9 (some (mz_I r12)) μ11 ∧
                            (Q (some (mz_I r12)) μ11))
                        else
                          (if (x5 : Int32) = (1 : Int32) then
                            (∃ (r14 : Int32) (μ13 : mz_M), C n_Leaf_level [mz_R 14 (204 + 2 * (x1 : Int32).toNatClampNeg), mz_I x3, mz_I x4] μ9 (some (mz_I r14)) μ13 ∧
                              (Q (some (mz_I r14)) μ13))
                          else
                            (∃ (r16 : Int32) (μ15 : mz_M), C n_Leaf_bound [mz_R 14 (204 + 2 * (x1 : Int32).toNatClampNeg), mz_I x3, mz_I x4] μ9 (some (mz_I r16)) μ15 ∧
                              (Q (some (mz_I r16)) μ15))))
                      else
                        (Q (some (mz_I r10)) μ9)))))))))))) :
  v_ES_told C Q (0, [(0, mz_R 0 p0), (1, mz_I x1), (2, mz_I x2), (3, mz_I x3), (4, mz_I x4), (5, mz_I x5)], [], μ) := mz_Ev.run [] 400 h
/-! EtaSeries.quotient(IIIII)I, number 82 -/
abbrev v_ES_quotient (C : mz_Cl) (Q : Option mz_V → mz_M → Prop) : mz_S → Prop := mz_Ev es_SH tb_ES_quotient C Q
set_option maxRecDepth 20000 in
set_option maxHeartbeats 4000000 in
theorem w_ES_quotient_0 {C : mz_Cl} {Q : Option mz_V → mz_M → Prop} (p0 : Nat) (x1 : Int32) (x2 : Int32) (x3 : Int32) (x4 : Int32) (x5 : Int32) (μ : mz_M) (h :
    ∃ (r2 : Int32) (μ1 : mz_M), C n_ES_isOneOfFour [mz_I x1] μ (some (mz_I r2)) μ1 ∧
      (if (r2 : Int32) = (0 : Int32) then
        (Q (some (mz_I ((-1000001)))) μ1)
      else
        (∃ (r4 : Int32) (μ3 : mz_M), C n_ES_isOneOfFour [mz_I x2] μ1 (some (mz_I r4)) μ3 ∧
          (if (r4 : Int32) = (0 : Int32) then
            (Q (some (mz_I ((-1000001)))) μ3)
          else
            (∃ (r6 : Int32) (μ5 : mz_M), C n_ES_isOneOfFour [mz_I x3] μ3 (some (mz_I r6)) μ5 ∧
              (if (r6 : Int32) = (0 : Int32) then
                (Q (some (mz_I ((-1000001)))) μ5)
              else
                (∃ (r8 : Int32) (μ7 : mz_M), C n_ES_isPairs [mz_I x5] μ5 (some (mz_I r8)) μ7 ∧
                  (if (r8 : Int32) = (0 : Int32) then
                    (Q (some (mz_I ((-1000001)))) μ7)
                  else
                    (vp_in x2 4 ∧ (∃ (r10 : Int32) (μ9 : mz_M), C n_Leaf_refusePairs [mz_R 14 (204 + 2 * (x2 : Int32).toNatClampNeg), mz_I x3, mz_I x4, mz_I x5] μ7 (some (mz_I r10)) μ9 ∧
                      (if (r10 : Int32) = (0 : Int32) then
                        (∃ (r12 : Int32) (μ11 : mz_M), C n_Mill_workQuotient [mz_R 9 145, mz_R 14 (204 + 2 * (x2 : Int32).toNatClampNeg), mz_I x4, mz_I x5, mz_I (μ9.1 1 1)] μ9 (some (mz_I r12)) μ11 ∧
                          (if (r12 : Int32) = (0 : Int32) then
                            (∃ (r14 : Nat) (μ13 : mz_M), C n_Mill_result [mz_R 9 145] μ11 (some (mz_R 3 r14)) μ13 ∧
                              (∃ (r16 : Int32) (μ15 : mz_M), C n_ES_settle [mz_R 0 p0, mz_I x1, mz_R 3 r14] μ13 (some (mz_I r16)) μ15 ∧
                                (Q (some (mz_I r16)) μ15)))
                          else
                            (Q (some (mz_I r12)) μ11)))
                      else
                        (Q (some (mz_I r10)) μ9)))))))))))) :
  v_ES_quotient C Q (0, [(0, mz_R 0 p0), (1, mz_I x1), (2, mz_I x2), (3, mz_I x3), (4, mz_I x4), (5, mz_I x5)], [], μ) := mz_Ev.run [] 400 h
/-! EtaSeries.wrought(IIIIII)I, number 83 -/
abbrev v_ES_wrought (C : mz_Cl) (Q : Option mz_V → mz_M → Prop) : mz_S → Prop := mz_Ev es_SH tb_ES_wrought C Q
set_option maxRecDepth 20000 in
set_option maxHeartbeats 4000000 in
theorem w_ES_wrought_0 {C : mz_Cl} {Q : Option mz_V → mz_M → Prop} (p0 : Nat) (x1 : Int32) (x2 : Int32) (x3 : Int32) (x4 : Int32) (x5 : Int32) (x6 : Int32) (μ : mz_M) (h :
    ∃ (r2 : Int32) (μ1 : mz_M), C n_ES_isOneOfFour [mz_I x1] μ (some (mz_I r2)) μ1 ∧
      (if (r2 : Int32) = (0 : Int32) then
        (Q (some (mz_I ((-1000001)))) μ1)
      else
        (∃ (r4 : Int32) (μ3 : mz_M), C n_ES_isOneOfFour [mz_I x2] μ1 (some (mz_I r4)) μ3 ∧
          (if (r4 : Int32) = (0 : Int32) then
            (Q (some (mz_I ((-1000001)))) μ3)
          else
            (∃ (r6 : Int32) (μ5 : mz_M), C n_ES_isOneOfFour [mz_I x3] μ3 (some (mz_I r6)) μ5 ∧
              (if (r6 : Int32) = (0 : Int32) then
                (Q (some (mz_I ((-1000001)))) μ5)
              else
                (∃ (r8 : Int32) (μ7 : mz_M), C n_ES_isOneOfFour [mz_I x4] μ5 (some (mz_I r8)) μ7 ∧
                  (if (r8 : Int32) = (0 : Int32) then
                    (Q (some (mz_I ((-1000001)))) μ7)
                  else
                    (if (x6 : Int32) < (1 : Int32) then
                      (Q (some (mz_I ((-1000001)))) μ7)
                    else
                      (if (x6 : Int32) ≤ (12 : Int32) then
                        (vp_in x3 4 ∧ (∃ (r10 : Int32) (μ9 : mz_M), C n_Leaf_refuse [mz_R 14 (204 + 2 * (x3 : Int32).toNatClampNeg), mz_I x4, mz_I x5, mz_I x6] μ7 (some (mz_I r10)) μ9 ∧
                          (if (r10 : Int32) = (0 : Int32) then
                            (∃ (r12 : Int32) (μ11 : mz_M), C n_Shelf_isMissing [mz_R 1 1, mz_I x1] μ9 (some (mz_I r12)) μ11 ∧
                              (if (r12 : Int32) = (0 : Int32) then
                                (∃ (r14 : Int32) (μ13 : mz_M), C n_Shelf_isMissing [mz_R 1 1, mz_I x2] μ11 (some (mz_I r14)) μ13 ∧
                                  (if (r14 : Int32) = (0 : Int32) then
                                    (v_ES_wrought C Q (108, [(0, mz_R 0 p0), (1, mz_I x1), (2, mz_I x2), (5, mz_I x5), (6, mz_I x6), (7, mz_R 14 (204 + 2 * (x3 : Int32).toNatClampNeg)), (9, mz_I 0), (10, mz_I 0)], [], μ13))
                                  else
                                    (Q (some (mz_I ((-1000002)))) μ13)))
                              else
                                (Q (some (mz_I ((-1000002)))) μ11)))
                          else
                            (Q (some (mz_I r10)) μ9))))
                      else
                        (Q (some (mz_I ((-1000001)))) μ7))))))))))) :
  v_ES_wrought C Q (0, [(0, mz_R 0 p0), (1, mz_I x1), (2, mz_I x2), (3, mz_I x3), (4, mz_I x4), (5, mz_I x5), (6, mz_I x6)], [], μ) := mz_Ev.run [108] 400 h
set_option maxRecDepth 20000 in
set_option maxHeartbeats 4000000 in
theorem w_ES_wrought_108 {C : mz_Cl} {Q : Option mz_V → mz_M → Prop} (p0 : Nat) (x1 : Int32) (x2 : Int32) (x5 : Int32) (x6 : Int32) (p7 : Nat) (x9 : Int32) (x10 : Int32) (μ : mz_M) (h :
    if (3 : Int32) < (x10 : Int32) then
      (Q (some (mz_I x9)) μ)
    else
      (vp_in x1 4 ∧ (vp_in x2 4 ∧ (∃ (r2 : Int32) (μ1 : mz_M), C n_Row_becomeJoined [mz_R 3 200, mz_I x10, mz_R 3 (3 + 2 * (x1 : Int32).toNatClampNeg), mz_R 3 (3 + 2 * (x2 : Int32).toNatClampNeg)] μ (some (mz_I r2)) μ1 ∧
        (if (r2 : Int32) = (0 : Int32) then
          (∃ (r4 : Int32) (μ3 : mz_M), C n_Leaf_begins [mz_R 14 p7, mz_I x5, mz_I x6, mz_R 3 200] μ1 (some (mz_I r4)) μ3 ∧
            (if (r4 : Int32) = (0 : Int32) then
              (v_ES_wrought C Q (108, [(0, mz_R 0 p0), (1, mz_I x1), (2, mz_I x2), (5, mz_I x5), (6, mz_I x6), (7, mz_R 14 p7), (9, mz_I x9), (10, mz_I (x10 + 1))], [], μ3))
            else
              (v_ES_wrought C Q (108, [(0, mz_R 0 p0), (1, mz_I x1), (2, mz_I x2), (5, mz_I x5), (6, mz_I x6), (7, mz_R 14 p7), (9, mz_I (x9 ||| (1 <<< (x10 &&& 31)))), (10, mz_I (x10 + 1))], [], μ3))))
        else
          (v_ES_wrought C Q (108, [(0, mz_R 0 p0), (1, mz_I x1), (2, mz_I x2), (5, mz_I x5), (6, mz_I x6), (7, mz_R 14 p7), (9, mz_I x9), (10, mz_I (x10 + 1))], [], μ1))))))) :
  v_ES_wrought C Q (108, [(0, mz_R 0 p0), (1, mz_I x1), (2, mz_I x2), (5, mz_I x5), (6, mz_I x6), (7, mz_R 14 p7), (9, mz_I x9), (10, mz_I x10)], [], μ) := mz_Ev.run [108] 400 h
/-! EtaSeries.film(IIII)I, number 84 -/
abbrev v_ES_film (C : mz_Cl) (Q : Option mz_V → mz_M → Prop) : mz_S → Prop := mz_Ev es_SH tb_ES_film C Q
set_option maxRecDepth 20000 in
set_option maxHeartbeats 4000000 in
theorem w_ES_film_0 {C : mz_Cl} {Q : Option mz_V → mz_M → Prop} (p0 : Nat) (x1 : Int32) (x2 : Int32) (x3 : Int32) (x4 : Int32) (μ : mz_M) (h :
    ∃ (r2 : Int32) (μ1 : mz_M), C n_ES_isOneOfFour [mz_I x1] μ (some (mz_I r2)) μ1 ∧
      (if (r2 : Int32) = (0 : Int32) then
        (Q (some (mz_I ((-1000001)))) μ1)
      else
        (∃ (r4 : Int32) (μ3 : mz_M), C n_ES_isOneOfFour [mz_I x2] μ1 (some (mz_I r4)) μ3 ∧
          (if (r4 : Int32) = (0 : Int32) then
            (Q (some (mz_I ((-1000001)))) μ3)
          else
            (∃ (r6 : Int32) (μ5 : mz_M), C n_ES_isOneOfFour [mz_I x3] μ3 (some (mz_I r6)) μ5 ∧
              (if (r6 : Int32) = (0 : Int32) then
                (Q (some (mz_I ((-1000001)))) μ5)
              else
                (∃ (r8 : Int32) (μ7 : mz_M), C n_Shelf_isMissing [mz_R 1 1, mz_I x1] μ5 (some (mz_I r8)) μ7 ∧
                  (if (r8 : Int32) = (0 : Int32) then
                    (vp_in x1 4 ∧ (vp_in x2 4 ∧ (∃ (r10 : Int32) (μ9 : mz_M), C n_Leaf_refuse [mz_R 14 (204 + 2 * (x2 : Int32).toNatClampNeg), mz_I x3, mz_I x4, mz_I (μ7.1 (3 + 2 * (x1 : Int32).toNatClampNeg) 1)] μ7 (some (mz_I r10)) μ9 ∧
                      (if (r10 : Int32) = (0 : Int32) then
                        (v_ES_film C Q (79, [(0, mz_R 0 p0), (2, mz_I x2), (4, mz_I x4), (5, mz_R 3 (3 + 2 * (x1 : Int32).toNatClampNeg)), (7, mz_I 0)], [], μ9))
                      else
                        (Q (some (mz_I r10)) μ9)))))
                  else
                    (Q (some (mz_I ((-1000002)))) μ7))))))))) :
  v_ES_film C Q (0, [(0, mz_R 0 p0), (1, mz_I x1), (2, mz_I x2), (3, mz_I x3), (4, mz_I x4)], [], μ) := mz_Ev.run [79] 400 h
set_option maxRecDepth 20000 in
set_option maxHeartbeats 4000000 in
theorem w_ES_film_79 {C : mz_Cl} {Q : Option mz_V → mz_M → Prop} (p0 : Nat) (x2 : Int32) (x4 : Int32) (p5 : Nat) (x7 : Int32) (μ : mz_M) (h :
    if (μ.1 p5 1 : Int32) ≤ (x7 : Int32) then
      (Q (some (mz_I (μ.1 p5 1))) μ)
    else
      (vp_in x2 4 ∧ (∃ (r2 : Int32) (μ1 : mz_M), C n_Row_at [mz_R 3 p5, mz_I x7] μ (some (mz_I r2)) μ1 ∧
        (∃ μ3, C n_Leaf_put [mz_R 14 (204 + 2 * (x2 : Int32).toNatClampNeg), mz_I (x4 + x7), mz_L ((r2 : Int32).toInt64)] μ1 none μ3 ∧
          (v_ES_film C Q (79, [(0, mz_R 0 p0), (2, mz_I x2), (4, mz_I x4), (5, mz_R 3 p5), (7, mz_I (x7 + 1))], [], μ3)))))) :
  v_ES_film C Q (79, [(0, mz_R 0 p0), (2, mz_I x2), (4, mz_I x4), (5, mz_R 3 p5), (7, mz_I x7)], [], μ) := mz_Ev.run [79] 400 h
/-! EtaSeries.sheet(III)I, number 85 -/
abbrev v_ES_sheet (C : mz_Cl) (Q : Option mz_V → mz_M → Prop) : mz_S → Prop := mz_Ev es_SH tb_ES_sheet C Q
set_option maxRecDepth 20000 in
set_option maxHeartbeats 4000000 in
theorem w_ES_sheet_0 {C : mz_Cl} {Q : Option mz_V → mz_M → Prop} (p0 : Nat) (x1 : Int32) (x2 : Int32) (x3 : Int32) (μ : mz_M) (h :
    ∃ (r2 : Int32) (μ1 : mz_M), C n_ES_isOneOfFour [mz_I x1] μ (some (mz_I r2)) μ1 ∧
      (if (r2 : Int32) = (0 : Int32) then
        (Q (some (mz_I ((-1000001)))) μ1)
      else
        (∃ (r4 : Int32) (μ3 : mz_M), C n_ES_isOneOfFour [mz_I x2] μ1 (some (mz_I r4)) μ3 ∧
          (if (r4 : Int32) = (0 : Int32) then
            (Q (some (mz_I ((-1000001)))) μ3)
          else
            (if (x3 : Int32) ≤ (40 : Int32) then
              (if (0 : Int32) ≤ (x3 : Int32) then
                (vp_in x1 4 ∧ (∃ μ5, C n_Leaf_hold [mz_R 14 (204 + 2 * (x1 : Int32).toNatClampNeg), mz_I x2, mz_I x3] μ3 none μ5 ∧
                  (Q (some (mz_I x3)) μ5)))
              else
                (Q (some (mz_I ((-1000014)))) μ3))
            else
              (Q (some (mz_I ((-1000001)))) μ3)))))) :
  v_ES_sheet C Q (0, [(0, mz_R 0 p0), (1, mz_I x1), (2, mz_I x2), (3, mz_I x3)], [], μ) := mz_Ev.run [] 400 h
/-! EtaSeries.drop(I)I, number 86 -/
abbrev v_ES_drop (C : mz_Cl) (Q : Option mz_V → mz_M → Prop) : mz_S → Prop := mz_Ev es_SH tb_ES_drop C Q
set_option maxRecDepth 20000 in
set_option maxHeartbeats 4000000 in
theorem w_ES_drop_0 {C : mz_Cl} {Q : Option mz_V → mz_M → Prop} (p0 : Nat) (x1 : Int32) (μ : mz_M) (h :
    ∃ (r2 : Int32) (μ1 : mz_M), C n_ES_isOneOfFour [mz_I x1] μ (some (mz_I r2)) μ1 ∧
      (if (r2 : Int32) = (0 : Int32) then
        (Q (some (mz_I ((-1000001)))) μ1)
      else
        (vp_in x1 4 ∧ (if (μ1.1 (204 + 2 * (x1 : Int32).toNatClampNeg) 1 : Int32) = (0 : Int32) then
          (Q (some (mz_I ((-1000011)))) μ1)
        else
          (((0 : Int32) = 0 ∨ (0 : Int32) = 1) ∧ (Q (some (mz_I ((mz_wI μ1 (204 + 2 * (x1 : Int32).toNatClampNeg) 1 0).1 (204 + 2 * (x1 : Int32).toNatClampNeg) 3))) (mz_wI μ1 (204 + 2 * (x1 : Int32).toNatClampNeg) 1 0))))))) :
  v_ES_drop C Q (0, [(0, mz_R 0 p0), (1, mz_I x1)], [], μ) := mz_Ev.run [] 400 h
/-! EtaSeries.item(IIIJ)I, number 87 -/
abbrev v_ES_item (C : mz_Cl) (Q : Option mz_V → mz_M → Prop) : mz_S → Prop := mz_Ev es_SH tb_ES_item C Q
set_option maxRecDepth 20000 in
set_option maxHeartbeats 4000000 in
theorem w_ES_item_0 {C : mz_Cl} {Q : Option mz_V → mz_M → Prop} (p0 : Nat) (x1 : Int32) (x2 : Int32) (x3 : Int32) (y4 : Int64) (μ : mz_M) (h :
    ∃ (r2 : Int32) (μ1 : mz_M), C n_ES_isOneOfFour [mz_I x1] μ (some (mz_I r2)) μ1 ∧
      (if (r2 : Int32) = (0 : Int32) then
        (Q (some (mz_I ((-1000001)))) μ1)
      else
        (∃ (r4 : Int32) (μ3 : mz_M), C n_ES_isOneOfFour [mz_I x2] μ1 (some (mz_I r4)) μ3 ∧
          (if (r4 : Int32) = (0 : Int32) then
            (Q (some (mz_I ((-1000001)))) μ3)
          else
            (vp_in x1 4 ∧ (∃ (r6 : Int32) (μ5 : mz_M), C n_Leaf_refuse [mz_R 14 (204 + 2 * (x1 : Int32).toNatClampNeg), mz_I x2, mz_I x3, mz_I 1] μ3 (some (mz_I r6)) μ5 ∧
              (if (r6 : Int32) = (0 : Int32) then
                (vp_in x1 4 ∧ (∃ μ7, C n_Leaf_put [mz_R 14 (204 + 2 * (x1 : Int32).toNatClampNeg), mz_I x3, mz_L y4] μ5 none μ7 ∧
                  (Q (some (mz_I 1)) μ7)))
              else
                (Q (some (mz_I r6)) μ5)))))))) :
  v_ES_item C Q (0, [(0, mz_R 0 p0), (1, mz_I x1), (2, mz_I x2), (3, mz_I x3), (4, mz_L y4)], [], μ) := mz_Ev.run [] 400 h
/-! EtaSeries.copy(IIIII)I, number 88 -/
abbrev v_ES_copy (C : mz_Cl) (Q : Option mz_V → mz_M → Prop) : mz_S → Prop := mz_Ev es_SH tb_ES_copy C Q
set_option maxRecDepth 20000 in
set_option maxHeartbeats 4000000 in
theorem w_ES_copy_0 {C : mz_Cl} {Q : Option mz_V → mz_M → Prop} (p0 : Nat) (x1 : Int32) (x2 : Int32) (x3 : Int32) (x4 : Int32) (x5 : Int32) (μ : mz_M) (h :
    ∃ (r2 : Int32) (μ1 : mz_M), C n_ES_isOneOfFour [mz_I x1] μ (some (mz_I r2)) μ1 ∧
      (if (r2 : Int32) = (0 : Int32) then
        (Q (some (mz_I ((-1000001)))) μ1)
      else
        (∃ (r4 : Int32) (μ3 : mz_M), C n_ES_isOneOfFour [mz_I x3] μ1 (some (mz_I r4)) μ3 ∧
          (if (r4 : Int32) = (0 : Int32) then
            (Q (some (mz_I ((-1000001)))) μ3)
          else
            (vp_in x1 4 ∧ (vp_in x3 4 ∧ (if (μ3.1 (204 + 2 * (x1 : Int32).toNatClampNeg) 1 : Int32) = (0 : Int32) then
              (Q (some (mz_I ((-1000011)))) μ3)
            else
              (if (μ3.1 (204 + 2 * (x3 : Int32).toNatClampNeg) 1 : Int32) = (0 : Int32) then
                (Q (some (mz_I ((-1000011)))) μ3)
              else
                (if (μ3.1 (204 + 2 * (x1 : Int32).toNatClampNeg) 2 : Int32) = (μ3.1 (204 + 2 * (x3 : Int32).toNatClampNeg) 2 : Int32) then
                  (∃ (r6 : Int32) (μ5 : mz_M), C n_Leaf_hasItems [mz_R 14 (204 + 2 * (x1 : Int32).toNatClampNeg), mz_I x2, mz_I x5] μ3 (some (mz_I r6)) μ5 ∧
                    (if (r6 : Int32) = (0 : Int32) then
                      (Q (some (mz_I ((-1000013)))) μ5)
                    else
                      (∃ (r8 : Int32) (μ7 : mz_M), C n_Leaf_hasItems [mz_R 14 (204 + 2 * (x3 : Int32).toNatClampNeg), mz_I x4, mz_I x5] μ5 (some (mz_I r8)) μ7 ∧
                        (if (r8 : Int32) = (0 : Int32) then
                          (Q (some (mz_I ((-1000013)))) μ7)
                        else
                          ((¬ (x2 : Int32) < 0 ∧ ¬ (x4 : Int32) < 0 ∧ ¬ (x5 : Int32) < 0 ∧ (x2 : Int32).toNatClampNeg + (x5 : Int32).toNatClampNeg ≤ 40 ∧ (x4 : Int32).toNatClampNeg + (x5 : Int32).toNatClampNeg ≤ 40) ∧ (Q (some (mz_I x5)) (mz_cL μ7 ((204 + 2 * (x1 : Int32).toNatClampNeg) + 1) ((204 + 2 * (x3 : Int32).toNatClampNeg) + 1) (x2 : Int32).toNatClampNeg (x4 : Int32).toNatClampNeg (x5 : Int32).toNatClampNeg)))))))
                else
                  (Q (some (mz_I ((-1000012)))) μ3)))))))))) :
  v_ES_copy C Q (0, [(0, mz_R 0 p0), (1, mz_I x1), (2, mz_I x2), (3, mz_I x3), (4, mz_I x4), (5, mz_I x5)], [], μ) := mz_Ev.run [] 400 h
/-! EtaSeries.isOneOfFour(I)Z, number 89 -/
abbrev v_ES_isOneOfFour (C : mz_Cl) (Q : Option mz_V → mz_M → Prop) : mz_S → Prop := mz_Ev es_SH tb_ES_isOneOfFour C Q
set_option maxRecDepth 20000 in
set_option maxHeartbeats 4000000 in
theorem w_ES_isOneOfFour_0 {C : mz_Cl} {Q : Option mz_V → mz_M → Prop} (x0 : Int32) (μ : mz_M) (h :
    if (x0 : Int32) < (0 : Int32) then
      (((0 : Int32) = 0 ∨ (0 : Int32) = 1) ∧ Q (some (mz_I 0)) μ)
    else
      (if (4 : Int32) ≤ (x0 : Int32) then
        (((0 : Int32) = 0 ∨ (0 : Int32) = 1) ∧ Q (some (mz_I 0)) μ)
      else
        (((1 : Int32) = 0 ∨ (1 : Int32) = 1) ∧ Q (some (mz_I 1)) μ))) :
  v_ES_isOneOfFour C Q (0, [(0, mz_I x0)], [], μ) := mz_Ev.run [] 400 h
/-! EtaSeries.isWithin(II)Z, number 90 -/
abbrev v_ES_isWithin (C : mz_Cl) (Q : Option mz_V → mz_M → Prop) : mz_S → Prop := mz_Ev es_SH tb_ES_isWithin C Q
set_option maxRecDepth 20000 in
set_option maxHeartbeats 4000000 in
theorem w_ES_isWithin_0 {C : mz_Cl} {Q : Option mz_V → mz_M → Prop} (x0 : Int32) (x1 : Int32) (μ : mz_M) (h :
    if (x0 : Int32) < (0 : Int32) then
      (((0 : Int32) = 0 ∨ (0 : Int32) = 1) ∧ Q (some (mz_I 0)) μ)
    else
      (if (x1 : Int32) < (x0 : Int32) then
        (((0 : Int32) = 0 ∨ (0 : Int32) = 1) ∧ Q (some (mz_I 0)) μ)
      else
        (((1 : Int32) = 0 ∨ (1 : Int32) = 1) ∧ Q (some (mz_I 1)) μ))) :
  v_ES_isWithin C Q (0, [(0, mz_I x0), (1, mz_I x1)], [], μ) := mz_Ev.run [] 400 h
/-! EtaSeries.isPairs(I)Z, number 91 -/
abbrev v_ES_isPairs (C : mz_Cl) (Q : Option mz_V → mz_M → Prop) : mz_S → Prop := mz_Ev es_SH tb_ES_isPairs C Q
set_option maxRecDepth 20000 in
set_option maxHeartbeats 4000000 in
theorem w_ES_isPairs_0 {C : mz_Cl} {Q : Option mz_V → mz_M → Prop} (x0 : Int32) (μ : mz_M) (h :
    if (x0 : Int32) < (1 : Int32) then
      (((0 : Int32) = 0 ∨ (0 : Int32) = 1) ∧ Q (some (mz_I 0)) μ)
    else
      (if (6 : Int32) < (x0 : Int32) then
        (((0 : Int32) = 0 ∨ (0 : Int32) = 1) ∧ Q (some (mz_I 0)) μ)
      else
        (((1 : Int32) = 0 ∨ (1 : Int32) = 1) ∧ Q (some (mz_I 1)) μ))) :
  v_ES_isPairs C Q (0, [(0, mz_I x0)], [], μ) := mz_Ev.run [] 400 h
/-! EtaSeries.isStep(II)Z, number 92 -/
abbrev v_ES_isStep (C : mz_Cl) (Q : Option mz_V → mz_M → Prop) : mz_S → Prop := mz_Ev es_SH tb_ES_isStep C Q
set_option maxRecDepth 20000 in
set_option maxHeartbeats 4000000 in
theorem w_ES_isStep_0 {C : mz_Cl} {Q : Option mz_V → mz_M → Prop} (x0 : Int32) (x1 : Int32) (μ : mz_M) (h :
    if (x0 : Int32) < (1 : Int32) then
      (((0 : Int32) = 0 ∨ (0 : Int32) = 1) ∧ Q (some (mz_I 0)) μ)
    else
      (if (8 : Int32) < (x0 : Int32) then
        (((0 : Int32) = 0 ∨ (0 : Int32) = 1) ∧ Q (some (mz_I 0)) μ)
      else
        (if (x1 : Int32) < (0 : Int32) then
          (((0 : Int32) = 0 ∨ (0 : Int32) = 1) ∧ Q (some (mz_I 0)) μ)
        else
          (if (x0 : Int32) ≤ (x1 : Int32) then
            (((0 : Int32) = 0 ∨ (0 : Int32) = 1) ∧ Q (some (mz_I 0)) μ)
          else
            (((1 : Int32) = 0 ∨ (1 : Int32) = 1) ∧ Q (some (mz_I 1)) μ))))) :
  v_ES_isStep C Q (0, [(0, mz_I x0), (1, mz_I x1)], [], μ) := mz_Ev.run [] 400 h
/-! EtaSeries.isKind(II)Z, number 93 -/
abbrev v_ES_isKind (C : mz_Cl) (Q : Option mz_V → mz_M → Prop) : mz_S → Prop := mz_Ev es_SH tb_ES_isKind C Q
set_option maxRecDepth 20000 in
set_option maxHeartbeats 4000000 in
theorem w_ES_isKind_0 {C : mz_Cl} {Q : Option mz_V → mz_M → Prop} (x0 : Int32) (x1 : Int32) (μ : mz_M) (h :
    if (x0 : Int32) = nI 0 then
      (if (x1 : Int32) = (0 : Int32) then
        (((1 : Int32) = 0 ∨ (1 : Int32) = 1) ∧ Q (some (mz_I 1)) μ)
      else
        (((0 : Int32) = 0 ∨ (0 : Int32) = 1) ∧ Q (some (mz_I 0)) μ))
    else if (x0 : Int32) = nI 1 then
      (if (x1 : Int32) < (1 : Int32) then
        (((0 : Int32) = 0 ∨ (0 : Int32) = 1) ∧ Q (some (mz_I 0)) μ)
      else
        (if (9 : Int32) < (x1 : Int32) then
          (((0 : Int32) = 0 ∨ (0 : Int32) = 1) ∧ Q (some (mz_I 0)) μ)
        else
          (((1 : Int32) = 0 ∨ (1 : Int32) = 1) ∧ Q (some (mz_I 1)) μ)))
    else if (x0 : Int32) = nI 2 then
      (if (x1 : Int32) < (1 : Int32) then
        (((0 : Int32) = 0 ∨ (0 : Int32) = 1) ∧ Q (some (mz_I 0)) μ)
      else
        (if (9 : Int32) < (x1 : Int32) then
          (((0 : Int32) = 0 ∨ (0 : Int32) = 1) ∧ Q (some (mz_I 0)) μ)
        else
          (((1 : Int32) = 0 ∨ (1 : Int32) = 1) ∧ Q (some (mz_I 1)) μ)))
    else if (x0 : Int32) = nI 3 then
      (if (x1 : Int32) < (1 : Int32) then
        (((0 : Int32) = 0 ∨ (0 : Int32) = 1) ∧ Q (some (mz_I 0)) μ)
      else
        (if (9 : Int32) < (x1 : Int32) then
          (((0 : Int32) = 0 ∨ (0 : Int32) = 1) ∧ Q (some (mz_I 0)) μ)
        else
          (((1 : Int32) = 0 ∨ (1 : Int32) = 1) ∧ Q (some (mz_I 1)) μ)))
    else if (x0 : Int32) = nI 4 then
      (if (x1 : Int32) < (0 : Int32) then
        (((0 : Int32) = 0 ∨ (0 : Int32) = 1) ∧ Q (some (mz_I 0)) μ)
      else
        (if (40 : Int32) ≤ (x1 : Int32) then
          (((0 : Int32) = 0 ∨ (0 : Int32) = 1) ∧ Q (some (mz_I 0)) μ)
        else
          (((1 : Int32) = 0 ∨ (1 : Int32) = 1) ∧ Q (some (mz_I 1)) μ)))
    else (((0 : Int32) = 0 ∨ (0 : Int32) = 1) ∧ Q (some (mz_I 0)) μ)) :
  v_ES_isKind C Q (0, [(0, mz_I x0), (1, mz_I x1)], [], μ) := mz_Ev.run [] 400 h
/-! EtaSeries.isChange(II)Z, number 94 -/
abbrev v_ES_isChange (C : mz_Cl) (Q : Option mz_V → mz_M → Prop) : mz_S → Prop := mz_Ev es_SH tb_ES_isChange C Q
set_option maxRecDepth 20000 in
set_option maxHeartbeats 4000000 in
theorem w_ES_isChange_0 {C : mz_Cl} {Q : Option mz_V → mz_M → Prop} (x0 : Int32) (x1 : Int32) (μ : mz_M) (h :
    if (x0 : Int32) = nI 0 then
      (∃ (r2 : Int32) (μ1 : mz_M), C n_ES_isWithin [mz_I x1, mz_I 9] μ (some (mz_I r2)) μ1 ∧
        (((r2 : Int32) = 0 ∨ (r2 : Int32) = 1) ∧ Q (some (mz_I r2)) μ1))
    else if (x0 : Int32) = nI 1 then
      (if (x1 : Int32) < (1 : Int32) then
        (((0 : Int32) = 0 ∨ (0 : Int32) = 1) ∧ Q (some (mz_I 0)) μ)
      else
        (if (8 : Int32) < (x1 : Int32) then
          (((0 : Int32) = 0 ∨ (0 : Int32) = 1) ∧ Q (some (mz_I 0)) μ)
        else
          (((1 : Int32) = 0 ∨ (1 : Int32) = 1) ∧ Q (some (mz_I 1)) μ)))
    else if (x0 : Int32) = nI 2 then
      (if (x1 : Int32) = (0 : Int32) then
        (((1 : Int32) = 0 ∨ (1 : Int32) = 1) ∧ Q (some (mz_I 1)) μ)
      else
        (((0 : Int32) = 0 ∨ (0 : Int32) = 1) ∧ Q (some (mz_I 0)) μ))
    else if (x0 : Int32) = nI 3 then
      (if (x1 : Int32) < (0 : Int32) then
        (((0 : Int32) = 0 ∨ (0 : Int32) = 1) ∧ Q (some (mz_I 0)) μ)
      else
        (¬ (10 : Int32) = 0 ∧ (¬ (10 : Int32) = 0 ∧ (∃ (r4 : Int32) (μ3 : mz_M), C n_ES_isStep [mz_I (x1 / 10), mz_I (x1 - x1 / 10 * 10)] μ (some (mz_I r4)) μ3 ∧
          (if (r4 : Int32) = (0 : Int32) then
            (((0 : Int32) = 0 ∨ (0 : Int32) = 1) ∧ Q (some (mz_I 0)) μ3)
          else
            (((1 : Int32) = 0 ∨ (1 : Int32) = 1) ∧ Q (some (mz_I 1)) μ3))))))
    else if (x0 : Int32) = nI 4 then
      (if (x1 : Int32) < (1 : Int32) then
        (((0 : Int32) = 0 ∨ (0 : Int32) = 1) ∧ Q (some (mz_I 0)) μ)
      else
        (((1 : Int32) = 0 ∨ (1 : Int32) = 1) ∧ Q (some (mz_I 1)) μ))
    else if (x0 : Int32) = nI 5 then
      (∃ (r6 : Int32) (μ5 : mz_M), C n_ES_isWithin [mz_I x1, mz_I 8] μ (some (mz_I r6)) μ5 ∧
        (((r6 : Int32) = 0 ∨ (r6 : Int32) = 1) ∧ Q (some (mz_I r6)) μ5))
    else if (x0 : Int32) = nI 6 then
      (if (x1 : Int32) < ((-99) : Int32) then
        (((0 : Int32) = 0 ∨ (0 : Int32) = 1) ∧ Q (some (mz_I 0)) μ)
      else
        (if (99 : Int32) < (x1 : Int32) then
          (((0 : Int32) = 0 ∨ (0 : Int32) = 1) ∧ Q (some (mz_I 0)) μ)
        else
          (((1 : Int32) = 0 ∨ (1 : Int32) = 1) ∧ Q (some (mz_I 1)) μ)))
    else (((0 : Int32) = 0 ∨ (0 : Int32) = 1) ∧ Q (some (mz_I 0)) μ)) :
  v_ES_isChange C Q (0, [(0, mz_I x0), (1, mz_I x1)], [], μ) := mz_Ev.run [] 400 h
/-! EtaSeries.isWide(J)Z, number 95 -/
abbrev v_ES_isWide (C : mz_Cl) (Q : Option mz_V → mz_M → Prop) : mz_S → Prop := mz_Ev es_SH tb_ES_isWide C Q
set_option maxRecDepth 20000 in
set_option maxHeartbeats 4000000 in
theorem w_ES_isWide_0 {C : mz_Cl} {Q : Option mz_V → mz_M → Prop} (y0 : Int64) (μ : mz_M) (h :
    if (0 : Int32) < (lg_cmp y0 100000000 : Int32) then
      (((1 : Int32) = 0 ∨ (1 : Int32) = 1) ∧ Q (some (mz_I 1)) μ)
    else
      (if (0 : Int32) ≤ (lg_cmp y0 ((-100000000)) : Int32) then
        (((0 : Int32) = 0 ∨ (0 : Int32) = 1) ∧ Q (some (mz_I 0)) μ)
      else
        (((1 : Int32) = 0 ∨ (1 : Int32) = 1) ∧ Q (some (mz_I 1)) μ))) :
  v_ES_isWide C Q (0, [(0, mz_L y0)], [], μ) := mz_Ev.run [] 400 h
/-! EtaSeries.settle(ILEtaSeries$Row;)I, number 96 -/
abbrev v_ES_settle (C : mz_Cl) (Q : Option mz_V → mz_M → Prop) : mz_S → Prop := mz_Ev es_SH tb_ES_settle C Q
set_option maxRecDepth 20000 in
set_option maxHeartbeats 4000000 in
theorem w_ES_settle_0 {C : mz_Cl} {Q : Option mz_V → mz_M → Prop} (p0 : Nat) (x1 : Int32) (p2 : Nat) (μ : mz_M) (h :
    ∃ μ1, C n_Past_remember [mz_R 5 11, mz_R 1 1] μ none μ1 ∧
      (vp_in x1 4 ∧ (∃ μ2, C n_Row_take [mz_R 3 (3 + 2 * (x1 : Int32).toNatClampNeg), mz_R 3 p2] μ1 none μ2 ∧
        (Q (some (mz_I (μ2.1 p2 1))) μ2)))) :
  v_ES_settle C Q (0, [(0, mz_R 0 p0), (1, mz_I x1), (2, mz_R 3 p2)], [], μ) := mz_Ev.run [] 400 h
/-! EtaSeries.firstUnlike(LEtaSeries$Row;LEtaSeries$Row;)I, number 97 -/
abbrev v_ES_firstUnlike (C : mz_Cl) (Q : Option mz_V → mz_M → Prop) : mz_S → Prop := mz_Ev es_SH tb_ES_firstUnlike C Q
set_option maxRecDepth 20000 in
set_option maxHeartbeats 4000000 in
theorem w_ES_firstUnlike_0 {C : mz_Cl} {Q : Option mz_V → mz_M → Prop} (p0 : Nat) (p1 : Nat) (μ : mz_M) (h :
    ∃ (r2 : Int32) (μ1 : mz_M), C n_Math_min [mz_I (μ.1 p0 1), mz_I (μ.1 p1 1)] μ (some (mz_I r2)) μ1 ∧
      (v_ES_firstUnlike C Q (14, [(0, mz_R 3 p0), (1, mz_R 3 p1), (2, mz_I r2), (3, mz_I 0)], [], μ1))) :
  v_ES_firstUnlike C Q (0, [(0, mz_R 3 p0), (1, mz_R 3 p1)], [], μ) := mz_Ev.run [14] 400 h
set_option maxRecDepth 20000 in
set_option maxHeartbeats 4000000 in
theorem w_ES_firstUnlike_14 {C : mz_Cl} {Q : Option mz_V → mz_M → Prop} (p0 : Nat) (p1 : Nat) (x2 : Int32) (x3 : Int32) (μ : mz_M) (h :
    if (x2 : Int32) ≤ (x3 : Int32) then
      (Q (some (mz_I ((-1000004)))) μ)
    else
      (∃ (r2 : Int32) (μ1 : mz_M), C n_Row_at [mz_R 3 p0, mz_I x3] μ (some (mz_I r2)) μ1 ∧
        (∃ (r4 : Int32) (μ3 : mz_M), C n_Row_at [mz_R 3 p1, mz_I x3] μ1 (some (mz_I r4)) μ3 ∧
          (if (r2 : Int32) = (r4 : Int32) then
            (v_ES_firstUnlike C Q (14, [(0, mz_R 3 p0), (1, mz_R 3 p1), (2, mz_I x2), (3, mz_I (x3 + 1))], [], μ3))
          else
            (Q (some (mz_I x3)) μ3))))) :
  v_ES_firstUnlike C Q (14, [(0, mz_R 3 p0), (1, mz_R 3 p1), (2, mz_I x2), (3, mz_I x3)], [], μ) := mz_Ev.run [14] 400 h
/-! EtaSeries.firstMisfit(LEtaSeries$Row;III)I, number 98 -/
abbrev v_ES_firstMisfit (C : mz_Cl) (Q : Option mz_V → mz_M → Prop) : mz_S → Prop := mz_Ev es_SH tb_ES_firstMisfit C Q
set_option maxRecDepth 20000 in
set_option maxHeartbeats 4000000 in
theorem w_ES_firstMisfit_0 {C : mz_Cl} {Q : Option mz_V → mz_M → Prop} (p0 : Nat) (x1 : Int32) (x2 : Int32) (x3 : Int32) (μ : mz_M) (h :
    if (x1 : Int32) < (1 : Int32) then
      (Q (some (mz_I ((-1000004)))) μ)
    else
      (if (1 : Int32) ≤ (x3 : Int32) then
        (v_ES_firstMisfit C Q (16, [(0, mz_R 3 p0), (1, mz_I x1), (3, mz_I x3), (4, mz_I x2)], [], μ))
      else
        (Q (some (mz_I ((-1000004)))) μ))) :
  v_ES_firstMisfit C Q (0, [(0, mz_R 3 p0), (1, mz_I x1), (2, mz_I x2), (3, mz_I x3)], [], μ) := mz_Ev.run [16] 400 h
set_option maxRecDepth 20000 in
set_option maxHeartbeats 4000000 in
theorem w_ES_firstMisfit_16 {C : mz_Cl} {Q : Option mz_V → mz_M → Prop} (p0 : Nat) (x1 : Int32) (x3 : Int32) (x4 : Int32) (μ : mz_M) (h :
    if (μ.1 p0 1 : Int32) ≤ (x4 : Int32) then
      (Q (some (mz_I ((-1000004)))) μ)
    else
      (∃ (r2 : Int32) (μ1 : mz_M), C n_Row_at [mz_R 3 p0, mz_I x4] μ (some (mz_I r2)) μ1 ∧
        (¬ (x3 : Int32) = 0 ∧ (if (r2 - r2 / x3 * x3 : Int32) = (0 : Int32) then
          (v_ES_firstMisfit C Q (16, [(0, mz_R 3 p0), (1, mz_I x1), (3, mz_I x3), (4, mz_I (x4 + x1))], [], μ1))
        else
          (Q (some (mz_I x4)) μ1))))) :
  v_ES_firstMisfit C Q (16, [(0, mz_R 3 p0), (1, mz_I x1), (3, mz_I x3), (4, mz_I x4)], [], μ) := mz_Ev.run [16] 400 h
/-! EtaSeries.leastFitting(LEtaSeries$Row;II)I, number 99 -/
abbrev v_ES_leastFitting (C : mz_Cl) (Q : Option mz_V → mz_M → Prop) : mz_S → Prop := mz_Ev es_SH tb_ES_leastFitting C Q
set_option maxRecDepth 20000 in
set_option maxHeartbeats 4000000 in
theorem w_ES_leastFitting_0 {C : mz_Cl} {Q : Option mz_V → mz_M → Prop} (p0 : Nat) (x1 : Int32) (x2 : Int32) (μ : mz_M) (h :
    v_ES_leastFitting C Q (2, [(0, mz_R 3 p0), (1, mz_I x1), (2, mz_I x2), (3, mz_I 2)], [], μ)) :
  v_ES_leastFitting C Q (0, [(0, mz_R 3 p0), (1, mz_I x1), (2, mz_I x2)], [], μ) := mz_Ev.run [2] 400 h
set_option maxRecDepth 20000 in
set_option maxHeartbeats 4000000 in
theorem w_ES_leastFitting_2 {C : mz_Cl} {Q : Option mz_V → mz_M → Prop} (p0 : Nat) (x1 : Int32) (x2 : Int32) (x3 : Int32) (μ : mz_M) (h :
    if (9 : Int32) < (x3 : Int32) then
      (Q (some (mz_I ((-1000004)))) μ)
    else
      (∃ (r2 : Int32) (μ1 : mz_M), C n_ES_firstMisfit [mz_R 3 p0, mz_I x1, mz_I x2, mz_I x3] μ (some (mz_I r2)) μ1 ∧
        (if (r2 : Int32) = ((-1000004) : Int32) then
          (Q (some (mz_I x3)) μ1)
        else
          (v_ES_leastFitting C Q (2, [(0, mz_R 3 p0), (1, mz_I x1), (2, mz_I x2), (3, mz_I (x3 + 1))], [], μ1))))) :
  v_ES_leastFitting C Q (2, [(0, mz_R 3 p0), (1, mz_I x1), (2, mz_I x2), (3, mz_I x3)], [], μ) := mz_Ev.run [2] 400 h
/-! EtaSeries.chanceOfEven(LEtaSeries$Row;IIZ)I, number 100 -/
abbrev v_ES_chanceOfEven (C : mz_Cl) (Q : Option mz_V → mz_M → Prop) : mz_S → Prop := mz_Ev es_SH tb_ES_chanceOfEven C Q
set_option maxRecDepth 20000 in
set_option maxHeartbeats 4000000 in
theorem w_ES_chanceOfEven_0 {C : mz_Cl} {Q : Option mz_V → mz_M → Prop} (p0 : Nat) (x1 : Int32) (x2 : Int32) (x3 : Int32) (μ : mz_M) (h :
    v_ES_chanceOfEven C Q (9, [(0, mz_R 3 p0), (1, mz_I x1), (2, mz_I x2), (3, mz_I x3), (4, mz_I 1), (5, mz_I 1), (6, mz_I 0)], [], μ)) :
  v_ES_chanceOfEven C Q (0, [(0, mz_R 3 p0), (1, mz_I x1), (2, mz_I x2), (3, mz_I x3)], [], μ) := mz_Ev.run [9, 55] 400 h
set_option maxRecDepth 20000 in
set_option maxHeartbeats 4000000 in
theorem w_ES_chanceOfEven_9 {C : mz_Cl} {Q : Option mz_V → mz_M → Prop} (p0 : Nat) (x1 : Int32) (x2 : Int32) (x3 : Int32) (x4 : Int32) (x5 : Int32) (x6 : Int32) (μ : mz_M) (h :
    if (x1 : Int32) ≤ (x6 : Int32) then
      (v_ES_chanceOfEven C Q (55, [(1, mz_I x1), (3, mz_I x3), (4, mz_I x4), (5, mz_I x5), (6, mz_I 0)], [], μ))
    else
      (∃ (r2 : Int32) (μ1 : mz_M), C n_Row_at [mz_R 3 p0, mz_I x6] μ (some (mz_I r2)) μ1 ∧
        (if (r2 &&& 1 : Int32) = (0 : Int32) then
          (v_ES_chanceOfEven C Q (9, [(0, mz_R 3 p0), (1, mz_I x1), (2, mz_I x2), (3, mz_I x3), (4, mz_I (x4 * (10 - x2))), (5, mz_I (x5 * 10)), (6, mz_I (x6 + 1))], [], μ1))
        else
          (v_ES_chanceOfEven C Q (9, [(0, mz_R 3 p0), (1, mz_I x1), (2, mz_I x2), (3, mz_I x3), (4, mz_I (x4 * x2)), (5, mz_I (x5 * 10)), (6, mz_I (x6 + 1))], [], μ1))))) :
  v_ES_chanceOfEven C Q (9, [(0, mz_R 3 p0), (1, mz_I x1), (2, mz_I x2), (3, mz_I x3), (4, mz_I x4), (5, mz_I x5), (6, mz_I x6)], [], μ) := mz_Ev.run [9, 55] 400 h
set_option maxRecDepth 20000 in
set_option maxHeartbeats 4000000 in
theorem w_ES_chanceOfEven_55 {C : mz_Cl} {Q : Option mz_V → mz_M → Prop} (x1 : Int32) (x3 : Int32) (x4 : Int32) (x5 : Int32) (x6 : Int32) (μ : mz_M) (h :
    if (x1 : Int32) ≤ (x6 : Int32) then
      (if (x3 : Int32) = (0 : Int32) then
        (Q (some (mz_I x5)) μ)
      else
        (Q (some (mz_I x4)) μ))
    else
      (¬ (2 : Int32) = 0 ∧ (if (x4 - x4 / 2 * 2 : Int32) = (0 : Int32) then
        (¬ (2 : Int32) = 0 ∧ (if (x5 - x5 / 2 * 2 : Int32) = (0 : Int32) then
          (¬ (2 : Int32) = 0 ∧ (¬ (2 : Int32) = 0 ∧ (¬ (5 : Int32) = 0 ∧ (if ((x4 / 2) - (x4 / 2) / 5 * 5 : Int32) = (0 : Int32) then
            (¬ (5 : Int32) = 0 ∧ (if ((x5 / 2) - (x5 / 2) / 5 * 5 : Int32) = (0 : Int32) then
              (¬ (5 : Int32) = 0 ∧ (¬ (5 : Int32) = 0 ∧ (v_ES_chanceOfEven C Q (55, [(1, mz_I x1), (3, mz_I x3), (4, mz_I ((x4 / 2) / 5)), (5, mz_I ((x5 / 2) / 5)), (6, mz_I (x6 + 1))], [], μ))))
            else
              (v_ES_chanceOfEven C Q (55, [(1, mz_I x1), (3, mz_I x3), (4, mz_I (x4 / 2)), (5, mz_I (x5 / 2)), (6, mz_I (x6 + 1))], [], μ))))
          else
            (v_ES_chanceOfEven C Q (55, [(1, mz_I x1), (3, mz_I x3), (4, mz_I (x4 / 2)), (5, mz_I (x5 / 2)), (6, mz_I (x6 + 1))], [], μ))))))
        else
          (¬ (5 : Int32) = 0 ∧ (if (x4 - x4 / 5 * 5 : Int32) = (0 : Int32) then
            (¬ (5 : Int32) = 0 ∧ (if (x5 - x5 / 5 * 5 : Int32) = (0 : Int32) then
              (¬ (5 : Int32) = 0 ∧ (¬ (5 : Int32) = 0 ∧ (v_ES_chanceOfEven C Q (55, [(1, mz_I x1), (3, mz_I x3), (4, mz_I (x4 / 5)), (5, mz_I (x5 / 5)), (6, mz_I (x6 + 1))], [], μ))))
            else
              (v_ES_chanceOfEven C Q (55, [(1, mz_I x1), (3, mz_I x3), (4, mz_I x4), (5, mz_I x5), (6, mz_I (x6 + 1))], [], μ))))
          else
            (v_ES_chanceOfEven C Q (55, [(1, mz_I x1), (3, mz_I x3), (4, mz_I x4), (5, mz_I x5), (6, mz_I (x6 + 1))], [], μ))))))
      else
        (¬ (5 : Int32) = 0 ∧ (if (x4 - x4 / 5 * 5 : Int32) = (0 : Int32) then
          (¬ (5 : Int32) = 0 ∧ (if (x5 - x5 / 5 * 5 : Int32) = (0 : Int32) then
            (¬ (5 : Int32) = 0 ∧ (¬ (5 : Int32) = 0 ∧ (v_ES_chanceOfEven C Q (55, [(1, mz_I x1), (3, mz_I x3), (4, mz_I (x4 / 5)), (5, mz_I (x5 / 5)), (6, mz_I (x6 + 1))], [], μ))))
          else
            (v_ES_chanceOfEven C Q (55, [(1, mz_I x1), (3, mz_I x3), (4, mz_I x4), (5, mz_I x5), (6, mz_I (x6 + 1))], [], μ))))
        else
          (v_ES_chanceOfEven C Q (55, [(1, mz_I x1), (3, mz_I x3), (4, mz_I x4), (5, mz_I x5), (6, mz_I (x6 + 1))], [], μ))))))) :
  v_ES_chanceOfEven C Q (55, [(1, mz_I x1), (3, mz_I x3), (4, mz_I x4), (5, mz_I x5), (6, mz_I x6)], [], μ) := mz_Ev.run [9, 55] 400 h
