section MZU
variable {p : Program} {l : Launch} {e : Env} {s : State} {m : MethodId} {args : Array Value} {below : List Frame} {meth : Method} {c : Code} {d : Nat}
variable {SH : List mz_Sh} {LAY : List Nat} {cA : Nat → ClassId} {ad : Nat → Nat} {D : va_G} {cls : List vw_C} {TBL : List Jvm.Cond} {host : String} {MS : List mz_Me} {ats : List FieldType}
theorem mz_oka_i {own : String} {idx : Nat} {stt : Bool} {a : List Nat} (h : mz_oka TBL host MS own idx stt a = true) : ∃ (y n k t ml nest pl : Nat) (me' : mz_Me), a = [y, n, k, t, ml, nest, pl] ∧ mz_nth MS y = some me' ∧ me'.2.2.2.2.2.1 = stt ∧ n = me'.2.2.2.2.1 + (bif stt then 0 else 1) ∧ ml = me'.2.2.1 ∧ (match nest with
      | 0 => mz_lw TBL pl (.methodLink own idx me'.1)
      | _ + 1 => mz_lw TBL pl (.methodLinkNest own idx me'.1 host)) = true := by
  unfold mz_oka at h
  split at h
  · next y n k t ml nest pl =>
    split at h
    · next me' hm =>
      simp only [Bool.and_eq_true, decide_eq_true_eq] at h
      exact ⟨y, n, k, t, ml, nest, pl, me', rfl, hm, h.1.1.1, h.1.1.2, h.1.2, h.2⟩
    · cases h
  · cases h
theorem mz_look {x : Int32} {K : Nat → Prop} {pc dn : Nat} {df : Int} (hdf : (pc : Int) + df = (dn : Int)) : ∀ {prs : List (Int × Int)}, (∀ q ∈ prs, 0 ≤ q.1 ∧ q.1 < 2147483648 ∧ 0 ≤ (pc : Int) + q.2) → mz_sw x K dn (mz_prl pc prs) → ∃ (off : Int) (tgt : Nat), Op.lookupswitch.offset prs df x.toInt = off ∧ (pc : Int) + off = (tgt : Int) ∧ K tgt
  | [], _, h => ⟨df, dn, rfl, hdf, h⟩
  | q :: r, hq, h => by
    obtain ⟨a, o⟩ := q
    obtain ⟨q1, q2, q3⟩ := hq (a, o) List.mem_cons_self
    dsimp only at q1 q2 q3
    unfold mz_prl mz_sw at h
    dsimp only at h
    rw [Op.lookupswitch.offset_cons]
    by_cases hx : x = nI a.toNat
    · rw [if_pos hx] at h
      have e : a = x.toInt := by rw [hx, nI_toInt (by omega)]; omega
      rw [if_pos e]
      exact ⟨o, _, rfl, by omega, h⟩
    · rw [if_neg hx] at h
      have e : ¬ a = x.toInt := by
        intro z
        apply hx
        apply Int32.toInt_inj.mp
        rw [nI_toInt (by omega)]
        omega
      rw [if_neg e]
      exact mz_look hdf (fun z hz => hq z (List.mem_cons_of_mem _ hz)) h
set_option maxHeartbeats 8000000 in
set_option maxRecDepth 100000 in
theorem mz_opW {me : mz_Me} {C : mz_Cl} {r0 : Option mz_V} {μ0 : mz_M} (hW : mz_Wd SH LAY ad cls TBL ats) (hM : ∀ (y : Nat) (me : mz_Me), mz_nth MS y = some me → mz_okM TBL host cls MS me = true) (hC : mz_Hc l SH LAY cA ad D cls TBL MS ats d C) (hX : mz_Cx p s m args meth c cA D cls TBL ats me) {ee : mz_E} {pc : Nat} {L : mz_Lo} {st : List mz_V} {μ : mz_M} (hok : mz_ok TBL host cls MS me pc ee = true)
    (h : mz_op SH C (fun r2 μ2 => r2 = r0 ∧ μ2 = μ0) (mz_PW p l e (mz_room (d + 1)) s m args below meth c SH LAY cA ad D cls me.2.2.1 (MQ below (mz_QC SH LAY cA ad D cls r0 μ0) args s 0 0 (mz_A LAY ad))) ee pc L st μ) :
    mz_PW p l e (mz_room (d + 1)) s m args below meth c SH LAY cA ad D cls me.2.2.1 (MQ below (mz_QC SH LAY cA ad D cls r0 μ0) args s 0 0 (mz_A LAY ad)) (pc, L, st, μ) := by
  intro H locs ls hl hvl hvs hP hS
  have hX0 := hX
  have hW0 := hW
  obtain ⟨hx, hb, hml, hown, hts, hr, hlocks, hK, hN⟩ := hX
  obtain ⟨had, hL1, hL2, hS0, hS1, hS2, hS3, hcl⟩ := hW
  have gw : ∀ w, w ∈ TBL → goodWord w = true → w.before args s = true := fun w h1 h2 => hts w (List.mem_cons_of_mem _ (List.mem_filter.mpr ⟨h1, h2⟩))
  have hD := mz_w_D (SH := SH) (cA := cA) (μ := μ) had
  have hls : ls.size = me.2.2.1 := hl.1
  obtain ⟨i, len, c32, c64, a, ps, kt, kn⟩ := ee
  unfold mz_ok at hok
  rw [Bool.and_eq_true] at hok
  obtain ⟨hd', hok⟩ := hok
  have hd := of_decide_eq_true hd'
  clear hd'
  dsimp only at hd
  cases i
  case iconst n =>
    simp only [Bool.and_eq_true, decide_eq_true_eq] at hok
    obtain ⟨rfl, hc⟩ := hok
    exact lv_iconst hx hb hd hc (h H locs ls (mz_has_kp kn hl) (mz_vl_kp kn hvl) (mz_vs_c trivial hvs) hP hS)
  case bipush n =>
    simp only [Bool.and_eq_true, decide_eq_true_eq] at hok
    obtain ⟨rfl, hc⟩ := hok
    exact lv_bipush hx hb hd hc (h H locs ls (mz_has_kp kn hl) (mz_vl_kp kn hvl) (mz_vs_c trivial hvs) hP hS)
  case sipush n =>
    simp only [Bool.and_eq_true, decide_eq_true_eq] at hok
    obtain ⟨rfl, hc⟩ := hok
    exact lv_sipush hx hb hd hc (h H locs ls (mz_has_kp kn hl) (mz_vl_kp kn hvl) (mz_vs_c trivial hvs) hP hS)
  case lconst n =>
    simp only [Bool.and_eq_true, decide_eq_true_eq] at hok
    obtain ⟨rfl, hc⟩ := hok
    exact lv_lconst hx hb hd hc (h H locs ls (mz_has_kp kn hl) (mz_vl_kp kn hvl) (mz_vs_c trivial hvs) hP hS)
  case ldc n =>
    simp only [Bool.and_eq_true, decide_eq_true_eq] at hok
    obtain ⟨rfl, hc⟩ := hok
    exact lv_ldc hx hb hown (gw _ (mz_lw_m hc) rfl) hd (h H locs ls (mz_has_kp kn hl) (mz_vl_kp kn hvl) (mz_vs_c trivial hvs) hP hS)
  case ldc_w n =>
    simp only [Bool.and_eq_true, decide_eq_true_eq] at hok
    obtain ⟨rfl, hc⟩ := hok
    exact lv_ldcw hx hb hown (gw _ (mz_lw_m hc) rfl) hd (h H locs ls (mz_has_kp kn hl) (mz_vl_kp kn hvl) (mz_vs_c trivial hvs) hP hS)
  case ldc2_w n =>
    simp only [Bool.and_eq_true, decide_eq_true_eq] at hok
    obtain ⟨rfl, hc⟩ := hok
    exact lv_ldc2 hx hb hown (gw _ (mz_lw_m hc) rfl) hd (h H locs ls (mz_has_kp kn hl) (mz_vl_kp kn hvl) (mz_vs_c trivial hvs) hP hS)
  case iload_n k =>
    simp only [Bool.and_eq_true, decide_eq_true_eq] at hok
    obtain ⟨rfl, hc⟩ := hok
    obtain ⟨x, hk, h⟩ := mz_li_i h
    exact lv_iload_n hx hb hd hc (mz_has_at hl hk) (h H locs ls (mz_has_kp kn hl) (mz_vl_kp kn hvl) (mz_vs_c trivial hvs) hP hS)
  case iload k =>
    simp only [Bool.and_eq_true, decide_eq_true_eq] at hok
    obtain ⟨rfl, rfl⟩ := hok
    obtain ⟨x, hk, h⟩ := mz_li_i h
    exact lv_iload hx hb hd (mz_has_at hl hk) (h H locs ls (mz_has_kp kn hl) (mz_vl_kp kn hvl) (mz_vs_c trivial hvs) hP hS)
  case lload_n k =>
    simp only [Bool.and_eq_true, decide_eq_true_eq] at hok
    obtain ⟨rfl, hc⟩ := hok
    obtain ⟨x, hk, h⟩ := mz_ll_i h
    exact lv_lload_n hx hb hd hc (mz_has_at hl hk) (h H locs ls (mz_has_kp kn hl) (mz_vl_kp kn hvl) (mz_vs_c trivial hvs) hP hS)
  case lload k =>
    simp only [Bool.and_eq_true, decide_eq_true_eq] at hok
    obtain ⟨rfl, rfl⟩ := hok
    obtain ⟨x, hk, h⟩ := mz_ll_i h
    exact lv_lload hx hb hd (mz_has_at hl hk) (h H locs ls (mz_has_kp kn hl) (mz_vl_kp kn hvl) (mz_vs_c trivial hvs) hP hS)
  case aload_n k =>
    simp only [Bool.and_eq_true, decide_eq_true_eq] at hok
    obtain ⟨rfl, hc⟩ := hok
    obtain ⟨t, x, hk, h⟩ := mz_lr_i h
    exact lv_aload_n hx hb hd hc (mz_has_at hl hk) (h H locs ls (mz_has_kp kn hl) (mz_vl_kp kn hvl) (mz_vs_c (mz_vl_lk hvl hk) hvs) hP hS)
  case aload k =>
    simp only [Bool.and_eq_true, decide_eq_true_eq] at hok
    obtain ⟨rfl, rfl⟩ := hok
    obtain ⟨t, x, hk, h⟩ := mz_lr_i h
    exact lv_aload hx hb hd (mz_has_at hl hk) (h H locs ls (mz_has_kp kn hl) (mz_vl_kp kn hvl) (mz_vs_c (mz_vl_lk hvl hk) hvs) hP hS)
  case istore_n k =>
    simp only [Bool.and_eq_true, decide_eq_true_eq] at hok
    obtain ⟨⟨rfl, hc⟩, hn⟩ := hok
    obtain ⟨x, r, rfl, h⟩ := mz_p1_i h
    exact lv_istore_n hx hb hd hc hl hn rfl (fun ls hl => h H locs ls (mz_has_st1 (v := mz_I x) kn hl) (mz_vl_st1 kn hvl trivial) (mz_vs_t hvs) hP hS)
  case istore k =>
    simp only [Bool.and_eq_true, decide_eq_true_eq] at hok
    obtain ⟨⟨rfl, rfl⟩, hn⟩ := hok
    obtain ⟨x, r, rfl, h⟩ := mz_p1_i h
    exact lv_istore hx hb hd hl hn rfl (fun ls hl => h H locs ls (mz_has_st1 (v := mz_I x) kn hl) (mz_vl_st1 kn hvl trivial) (mz_vs_t hvs) hP hS)
  case lstore_n k =>
    simp only [Bool.and_eq_true, decide_eq_true_eq] at hok
    obtain ⟨⟨rfl, hc⟩, hn⟩ := hok
    obtain ⟨x, r, rfl, h⟩ := mz_g1_i h
    exact lv_lstore_n hx hb hd hc hl hn rfl (fun ls hl => h H locs ls (mz_has_st2 (v := mz_L x) kn hl) (mz_vl_st2 kn hvl trivial) (mz_vs_t hvs) hP hS)
  case lstore k =>
    simp only [Bool.and_eq_true, decide_eq_true_eq] at hok
    obtain ⟨⟨rfl, rfl⟩, hn⟩ := hok
    obtain ⟨x, r, rfl, h⟩ := mz_g1_i h
    exact lv_lstore hx hb hd hl hn rfl (fun ls hl => h H locs ls (mz_has_st2 (v := mz_L x) kn hl) (mz_vl_st2 kn hvl trivial) (mz_vs_t hvs) hP hS)
  case astore_n k =>
    simp only [Bool.and_eq_true, decide_eq_true_eq] at hok
    obtain ⟨⟨rfl, hc⟩, hn⟩ := hok
    obtain ⟨t, x, r, rfl, h⟩ := mz_h1_i h
    exact lv_astore_n hx hb hd hc hl hn rfl (fun ls hl => h H locs ls (mz_has_st1 (v := mz_R t x) kn hl) (mz_vl_st1 kn hvl (mz_vs_h hvs)) (mz_vs_t hvs) hP hS)
  case astore k =>
    simp only [Bool.and_eq_true, decide_eq_true_eq] at hok
    obtain ⟨⟨rfl, rfl⟩, hn⟩ := hok
    obtain ⟨t, x, r, rfl, h⟩ := mz_h1_i h
    exact lv_astore hx hb hd hl hn rfl (fun ls hl => h H locs ls (mz_has_st1 (v := mz_R t x) kn hl) (mz_vl_st1 kn hvl (mz_vs_h hvs)) (mz_vs_t hvs) hP hS)
  case iinc k n =>
    simp only [Bool.and_eq_true, decide_eq_true_eq] at hok
    obtain ⟨⟨⟨rfl, rfl⟩, hn⟩, hc⟩ := hok
    obtain ⟨x, hk, h⟩ := mz_li_i h
    obtain ⟨j, hj⟩ := List.getElem?_of_mem (List.mem_map.mpr ⟨_, mz_lk_mem hk, rfl⟩ : ((mz_a0 a, mz_cv ad (mz_I x)) : Nat × Value) ∈ mz_lc ad L)
    exact lv_iinc (k := j) (v := x + c32) hx hb hd hl hj (by rw [hc]) hn rfl (fun ls hl => h H locs ls (mz_has_st1 (v := mz_I (x + c32)) kn hl) (mz_vl_st1 kn hvl trivial) hvs hP hS)
  case goto off =>
    simp only [Bool.and_eq_true, decide_eq_true_eq] at hok
    obtain ⟨rfl, ht⟩ := hok
    exact lv_goto hx hb hd ht (h H locs ls (mz_has_kp kt hl) (mz_vl_kp kt hvl) hvs hP hS)
  case if_icmp op off =>
    simp only [Bool.and_eq_true, decide_eq_true_eq] at hok
    obtain ⟨rfl, ht⟩ := hok
    obtain ⟨x, y, r, rfl, h⟩ := mz_p2_i h
    have kT : ∀ {z : mz_S}, z = (mz_a0 a, mz_kp kt L, r, μ) → mz_PW p l e (mz_room (d + 1)) s m args below meth c SH LAY cA ad D cls me.2.2.1 (MQ below (mz_QC SH LAY cA ad D cls r0 μ0) args s 0 0 (mz_A LAY ad)) z → W p l e (mz_room (d + 1)) s m args below meth c H locs 0 0 (MQ below (mz_QC SH LAY cA ad D cls r0 μ0) args s 0 0 (mz_A LAY ad)) (F0 m (mz_a0 a) ls (r.map (mz_cv ad))) := by
      intro z hz h
      subst hz
      exact h H locs ls (mz_has_kp kt hl) (mz_vl_kp kt hvl) (mz_vs_t (mz_vs_t hvs)) hP hS
    have kN : ∀ {z : mz_S}, z = (pc + 3, mz_kp kn L, r, μ) → mz_PW p l e (mz_room (d + 1)) s m args below meth c SH LAY cA ad D cls me.2.2.1 (MQ below (mz_QC SH LAY cA ad D cls r0 μ0) args s 0 0 (mz_A LAY ad)) z → W p l e (mz_room (d + 1)) s m args below meth c H locs 0 0 (MQ below (mz_QC SH LAY cA ad D cls r0 μ0) args s 0 0 (mz_A LAY ad)) (F0 m (pc + 3) ls (r.map (mz_cv ad))) := by
      intro z hz h
      subst hz
      exact h H locs ls (mz_has_kp kn hl) (mz_vl_kp kn hvl) (mz_vs_t (mz_vs_t hvs)) hP hS
    cases op
    · exact lv_icmp_eq hx hb hd ht (fun q => kT rfl (mz_ite_t h q)) (fun q => kN rfl (mz_ite_f h q))
    · exact lv_icmp_ne hx hb hd ht (fun q => kT rfl (mz_ite_f h q)) (fun q => kN rfl (mz_ite_t h q))
    · exact lv_icmp_lt hx hb hd ht (fun q => kT rfl (mz_ite_t h q)) (fun q => kN rfl (mz_ite_f h q))
    · exact lv_icmp_ge hx hb hd ht (fun q => kT rfl (mz_ite_t h q)) (fun q => kN rfl (mz_ite_f h q))
    · exact lv_icmp_gt hx hb hd ht (fun q => kT rfl (mz_ite_t h q)) (fun q => kN rfl (mz_ite_f h q))
    · exact lv_icmp_le hx hb hd ht (fun q => kT rfl (mz_ite_t h q)) (fun q => kN rfl (mz_ite_f h q))
  case ifCond op off =>
    simp only [Bool.and_eq_true, decide_eq_true_eq] at hok
    obtain ⟨rfl, ht⟩ := hok
    obtain ⟨x, r, rfl, h⟩ := mz_p1_i h
    have kT : ∀ {z : mz_S}, z = (mz_a0 a, mz_kp kt L, r, μ) → mz_PW p l e (mz_room (d + 1)) s m args below meth c SH LAY cA ad D cls me.2.2.1 (MQ below (mz_QC SH LAY cA ad D cls r0 μ0) args s 0 0 (mz_A LAY ad)) z → W p l e (mz_room (d + 1)) s m args below meth c H locs 0 0 (MQ below (mz_QC SH LAY cA ad D cls r0 μ0) args s 0 0 (mz_A LAY ad)) (F0 m (mz_a0 a) ls (r.map (mz_cv ad))) := by
      intro z hz h
      subst hz
      exact h H locs ls (mz_has_kp kt hl) (mz_vl_kp kt hvl) (mz_vs_t hvs) hP hS
    have kN : ∀ {z : mz_S}, z = (pc + 3, mz_kp kn L, r, μ) → mz_PW p l e (mz_room (d + 1)) s m args below meth c SH LAY cA ad D cls me.2.2.1 (MQ below (mz_QC SH LAY cA ad D cls r0 μ0) args s 0 0 (mz_A LAY ad)) z → W p l e (mz_room (d + 1)) s m args below meth c H locs 0 0 (MQ below (mz_QC SH LAY cA ad D cls r0 μ0) args s 0 0 (mz_A LAY ad)) (F0 m (pc + 3) ls (r.map (mz_cv ad))) := by
      intro z hz h
      subst hz
      exact h H locs ls (mz_has_kp kn hl) (mz_vl_kp kn hvl) (mz_vs_t hvs) hP hS
    cases op
    · exact lv_if_eq hx hb hd ht (fun q => kT rfl (mz_ite_t h q)) (fun q => kN rfl (mz_ite_f h q))
    · exact lv_if_ne hx hb hd ht (fun q => kT rfl (mz_ite_f h q)) (fun q => kN rfl (mz_ite_t h q))
    · exact lv_if_lt hx hb hd ht (fun q => kT rfl (mz_ite_t h q)) (fun q => kN rfl (mz_ite_f h q))
    · exact lv_if_ge hx hb hd ht (fun q => kT rfl (mz_ite_t h q)) (fun q => kN rfl (mz_ite_f h q))
    · exact lv_if_gt hx hb hd ht (fun q => kT rfl (mz_ite_t h q)) (fun q => kN rfl (mz_ite_f h q))
    · exact lv_if_le hx hb hd ht (fun q => kT rfl (mz_ite_t h q)) (fun q => kN rfl (mz_ite_f h q))
  case tableswitch df lo hi offs =>
    simp only [Bool.and_eq_true, decide_eq_true_eq] at hok
    obtain ⟨⟨⟨⟨⟨g1, g2⟩, g3⟩, g4⟩, g5⟩, g6⟩ := hok
    obtain ⟨x, r, rfl, h⟩ := mz_p1_i h
    have go : ∀ t, mz_PW p l e (mz_room (d + 1)) s m args below meth c SH LAY cA ad D cls me.2.2.1 (MQ below (mz_QC SH LAY cA ad D cls r0 μ0) args s 0 0 (mz_A LAY ad)) (t, L, r, μ) → W p l e (mz_room (d + 1)) s m args below meth c H locs 0 0 (MQ below (mz_QC SH LAY cA ad D cls r0 μ0) args s 0 0 (mz_A LAY ad)) (F0 m t ls (r.map (mz_cv ad))) := fun t h => h H locs ls hl hvl (mz_vs_t hvs) hP hS
    rcases mz_sw_i h with ⟨q, hq, hxq, hk⟩ | ⟨hno, hk⟩
    · rw [g2] at hq
      obtain ⟨j, o, hj, rfl⟩ := mz_prs_m hq
      have hjl : j < offs.toList.length := (List.getElem?_eq_some_iff.mp hj).1
      have hxi : x.toInt = lo + j := by
        rw [hxq, nI_toInt (by omega)]
        omega
      have ho0 : 0 ≤ (pc : Int) + o := of_decide_eq_true (List.all_eq_true.mp g6 o (List.mem_of_getElem? hj))
      refine lv_tableIn (off := o) (tgt := ((pc : Int) + o).toNat) hx hb hd (by omega) (by omega) ?_ (by omega) (go _ hk)
      rw [hxi, show (lo + (j : Int) - lo).toNat = j by omega, ← Array.getElem?_toList]
      exact hj
    · refine lv_tableOut hx hb hd ?_ g1 (go _ hk)
      rcases Int.lt_or_le x.toInt lo with q | q
      · exact Or.inl q
      · rcases Int.lt_or_le hi x.toInt with q2 | q2
        · exact Or.inr q2
        · obtain ⟨z, hz, hz1⟩ := mz_prs_in (pc := pc) (offs := offs.toList) (lo := lo) (j := (x.toInt - lo).toNat) (by omega)
          refine absurd ?_ (hno z (by rw [g2]; exact hz))
          rw [hz1, show (lo + ((x.toInt - lo).toNat : Int)).toNat = x.toInt.toNat by omega]
          apply Int32.toInt_inj.mp
          rw [nI_toInt (by omega)]
          omega
  case lookupswitch df prs =>
    simp only [Bool.and_eq_true, decide_eq_true_eq] at hok
    obtain ⟨⟨⟨g1, g2⟩, g3⟩, g4⟩ := hok
    obtain ⟨x, r, rfl, h⟩ := mz_p1_i h
    subst g2
    obtain ⟨off, tgt, b1, b2, b3⟩ := mz_look (prs := prs.toList) g1 (fun q hq => by
      have := List.all_eq_true.mp g4 q hq
      simp only [Bool.and_eq_true, decide_eq_true_eq] at this
      exact ⟨this.1.1, this.1.2, this.2⟩) h
    exact lv_lookup hx hb hd g3 b1 b2 (b3 H locs ls hl hvl (mz_vs_t hvs) hP hS)
  case getfield idx =>
    rw [Bool.and_eq_true] at hok
    obtain ⟨h3, hok⟩ := hok
    obtain rfl := of_decide_eq_true h3
    split at hok
    · next ci f nest pl =>
      obtain ⟨t, pp, r, rfl, k1⟩ := mz_h1_i h
      split at k1
      · next ci' fs cj k rest0 hsh heq =>
        cases heq
        obtain ⟨hci, k2⟩ := mz_bif_i k1
        obtain rfl := Nat.eq_of_beq_eq_true hci
        have hvp : LAY[pp]? = some t := mz_vs_h hvs
        split at k2
        · next hf =>
          exact mz_getW hW0 hX0 hd hP hvp hsh hf hok (k2 H locs ls (mz_has_kp kn hl) (mz_vl_kp kn hvl) (mz_vs_c trivial (mz_vs_t hvs)) hP hS)
        · next b off t' hf =>
          exact mz_getW hW0 hX0 hd hP hvp hsh hf hok (k2 H locs ls (mz_has_kp kn hl) (mz_vl_kp kn hvl) (mz_vs_c (hL1 _ _ _ _ _ _ _ _ hvp hsh hf) (mz_vs_t hvs)) hP hS)
        · first | exact k1.elim | exact k2.elim | exact k3.elim | exact h.elim
      · first | exact k1.elim | exact k2.elim | exact k3.elim | exact h.elim
    · cases hok
  case putfield idx =>
    rw [Bool.and_eq_true] at hok
    obtain ⟨h3, hok⟩ := hok
    obtain rfl := of_decide_eq_true h3
    split at hok
    · next ci f b nest pl =>
      rw [Bool.and_eq_true] at hok
      obtain ⟨hok, hok2⟩ := hok
      obtain ⟨x, r1, rfl, k1⟩ := mz_p1_i h
      obtain ⟨t, pp, r, rfl, k2⟩ := mz_h1_i k1
      split at k2
      · next ci' fs cj k bb rest0 hsh heq =>
        cases heq
        obtain ⟨hci, k3⟩ := mz_bif_i k2
        obtain rfl := Nat.eq_of_beq_eq_true hci
        have hvp : LAY[pp]? = some t := mz_vs_h (mz_vs_t hvs)
        split at k3
        · next hf =>
          have hb2 : (b ≠ 0 → x = 0 ∨ x = 1) ∧ mz_PW p l e (mz_room (d + 1)) s m args below meth c SH LAY cA ad D cls me.2.2.1 (MQ below (mz_QC SH LAY cA ad D cls r0 μ0) args s 0 0 (mz_A LAY ad)) (pc + 3, mz_kp kn L, r, mz_wI μ pp f x) := by
            cases b with
            | zero => exact ⟨fun q => absurd rfl q, k3⟩
            | succ b => exact ⟨fun _ => k3.1, k3.2⟩
          refine mz_putW (b := b) hW0 hX0 hd hP hS hvp hsh hf hok (fun q hq => ?_) hb2.1 (fun H1 locs1 a1 a2 => hb2.2 H1 locs1 ls (mz_has_kp kn hl) (mz_vl_kp kn hvl) (mz_vs_t (mz_vs_t hvs)) a1 a2)
          rw [hq] at hok2
          simp only [Bool.and_eq_true, decide_eq_true_eq] at hok2
          exact hok2
        · first | exact k1.elim | exact k2.elim | exact k3.elim | exact h.elim
      · first | exact k1.elim | exact k2.elim | exact k3.elim | exact h.elim
    · cases hok
  case iaload =>
    obtain rfl := of_decide_eq_true hok
    obtain ⟨x, r1, rfl, k1⟩ := mz_p1_i h
    obtain ⟨t, pp, r, rfl, k2⟩ := mz_h1_i k1
    have hvp : LAY[pp]? = some t := mz_vs_h (mz_vs_t hvs)
    split at k2
    · next ti n q hsh =>
      exact va_iald hx hb hK hP pp ti (mz_w_get (cA := cA) (ad := ad) (μ := μ) hvp hsh) (mz_ty_at (hS0 _ _ _ _ hsh)) k2.1 hd (k2.2 H locs ls (mz_has_kp kn hl) (mz_vl_kp kn hvl) (mz_vs_c trivial (mz_vs_t (mz_vs_t hvs))) hP hS)
    · first | exact k1.elim | exact k2.elim | exact k3.elim | exact h.elim
  case laload =>
    obtain rfl := of_decide_eq_true hok
    obtain ⟨x, r1, rfl, k1⟩ := mz_p1_i h
    obtain ⟨t, pp, r, rfl, k2⟩ := mz_h1_i k1
    have hvp : LAY[pp]? = some t := mz_vs_h (mz_vs_t hvs)
    split at k2
    · next ti n q hsh =>
      exact va_lald hx hb hK hP pp ti (mz_w_get (cA := cA) (ad := ad) (μ := μ) hvp hsh) (mz_ty_at (hS1 _ _ _ _ hsh)) k2.1 hd (k2.2 H locs ls (mz_has_kp kn hl) (mz_vl_kp kn hvl) (mz_vs_c trivial (mz_vs_t (mz_vs_t hvs))) hP hS)
    · first | exact k1.elim | exact k2.elim | exact k3.elim | exact h.elim
  case aaload =>
    obtain rfl := of_decide_eq_true hok
    obtain ⟨x, r1, rfl, k1⟩ := mz_p1_i h
    obtain ⟨t, pp, r, rfl, k2⟩ := mz_h1_i k1
    have hvp : LAY[pp]? = some t := mz_vs_h (mz_vs_t hvs)
    split at k2
    · next ti n t' b off w hsh =>
      obtain ⟨Cn, hCn⟩ := hS2 _ _ _ _ hsh
      have hlt : x.toNatClampNeg < n := Nat.not_le.mp fun q => k2.1 (Or.inr q)
      exact va_aldq hx hb hK hP pp ti (mz_w_get (cA := cA) (ad := ad) (μ := μ) hvp hsh) (mz_ty_at hCn) k2.1 hd (k2.2 H locs ls (mz_has_kp kn hl) (mz_vl_kp kn hvl) (mz_vs_c (hL2 _ _ _ _ _ _ _ _ _ hvp hsh hlt) (mz_vs_t (mz_vs_t hvs))) hP hS)
    · first | exact k1.elim | exact k2.elim | exact k3.elim | exact h.elim
  case iastore =>
    obtain rfl := of_decide_eq_true hok
    obtain ⟨v, r2, rfl, k1⟩ := mz_p1_i h
    obtain ⟨x, r1, rfl, k2⟩ := mz_p1_i k1
    obtain ⟨t, pp, r, rfl, k3⟩ := mz_h1_i k2
    have hvp : LAY[pp]? = some t := mz_vs_h (mz_vs_t (mz_vs_t hvs))
    split at k3
    · next ti n q hsh =>
      refine va_iast hx hb hK hP hD hS pp ti (mz_w_get (cA := cA) (ad := ad) (μ := μ) hvp hsh) (mz_ty_at (hS0 _ _ _ _ hsh)) k3.1 hd (fun H1 locs1 a1 a2 a3 => k3.2 H1 locs1 ls (mz_has_kp kn hl) (mz_vl_kp kn hvl) (mz_vs_t (mz_vs_t (mz_vs_t hvs))) ?_ a3)
      have e := mz_w_set (cA := cA) (ad := ad) (μ := μ) (μ' := mz_wI μ pp x.toNatClampNeg v) hvp hsh (fun q hq => ⟨by simp [mz_wI, mz_wr, hq], rfl⟩)
      rw [← e]
      have e2 : mz_cell cA ad (mz_wI μ pp x.toNatClampNeg v) pp (.inr (ti, n, 0, q)) = .inl (cA ti, n, .inl (upd (μ.1 pp) x.toNatClampNeg v)) := by
        show Sum.inl (cA ti, n, Sum.inl (mz_wr μ.1 pp (upd (μ.1 pp) x.toNatClampNeg v) pp)) = _
        simp [mz_wr]
      rw [e2]
      exact a1
    · first | exact k1.elim | exact k2.elim | exact k3.elim | exact h.elim
  case lastore =>
    obtain rfl := of_decide_eq_true hok
    obtain ⟨v, r2, rfl, k1⟩ := mz_g1_i h
    obtain ⟨x, r1, rfl, k2⟩ := mz_p1_i k1
    obtain ⟨t, pp, r, rfl, k3⟩ := mz_h1_i k2
    have hvp : LAY[pp]? = some t := mz_vs_h (mz_vs_t (mz_vs_t hvs))
    split at k3
    · next ti n q hsh =>
      refine va_last hx hb hK hP hD hS pp ti (mz_w_get (cA := cA) (ad := ad) (μ := μ) hvp hsh) (mz_ty_at (hS1 _ _ _ _ hsh)) k3.1 hd (fun H1 locs1 a1 a2 a3 => k3.2 H1 locs1 ls (mz_has_kp kn hl) (mz_vl_kp kn hvl) (mz_vs_t (mz_vs_t (mz_vs_t hvs))) ?_ a3)
      have e := mz_w_set (cA := cA) (ad := ad) (μ := μ) (μ' := mz_wL μ pp x.toNatClampNeg v) hvp hsh (fun q hq => ⟨rfl, by simp [mz_wL, mz_wr, hq]⟩)
      rw [← e]
      have e2 : mz_cell cA ad (mz_wL μ pp x.toNatClampNeg v) pp (.inr (ti, n, 1, q)) = .inl (cA ti, n, .inr (.inl (vp_updL (μ.2 pp) x.toNatClampNeg v))) := by
        show Sum.inl (cA ti, n, Sum.inr (Sum.inl (mz_wr μ.2 pp (vp_updL (μ.2 pp) x.toNatClampNeg v) pp))) = _
        simp [mz_wr]
      rw [e2]
      exact a1
    · first | exact k1.elim | exact k2.elim | exact k3.elim | exact h.elim
  case arraylength =>
    obtain rfl := of_decide_eq_true hok
    obtain ⟨t, pp, r, rfl, k1⟩ := mz_h1_i h
    have hvp : LAY[pp]? = some t := mz_vs_h hvs
    split at k1
    · next ti n q hsh =>
      obtain ⟨kk, t', b, off, w⟩ := q
      have go := k1 H locs ls (mz_has_kp kn hl) (mz_vl_kp kn hvl) (mz_vs_c trivial (mz_vs_t hvs)) hP hS
      have hk2 := hS3 _ _ _ _ _ hsh
      rcases (show kk = 0 ∨ kk = 1 ∨ kk = 2 by omega) with rfl | rfl | rfl
      · exact va_alen hx hb hK hP pp ti (mz_w_get (cA := cA) (ad := ad) (μ := μ) hvp hsh) (mz_ty_at (hS0 _ _ _ _ hsh)) rfl hd go
      · exact va_alen hx hb hK hP pp ti (mz_w_get (cA := cA) (ad := ad) (μ := μ) hvp hsh) (mz_ty_at (hS1 _ _ _ _ hsh)) rfl hd go
      · obtain ⟨Cn, hCn⟩ := hS2 _ _ _ _ hsh
        exact va_alen hx hb hK hP pp ti (mz_w_get (cA := cA) (ad := ad) (μ := μ) hvp hsh) (mz_ty_at hCn) rfl hd go
    · first | exact k1.elim | exact k2.elim | exact k3.elim | exact h.elim
  case invokevirtual idx =>
    rw [Bool.and_eq_true] at hok
    obtain ⟨h3, hok⟩ := hok
    obtain rfl := of_decide_eq_true h3
    cases a with
    | nil => cases hok
    | cons cj a' =>
      dsimp only at hok
      rw [Bool.and_eq_true] at hok
      obtain ⟨hok, hok2⟩ := hok
      obtain ⟨y, n, k, t, ml, nest, pl, me', rfl, hy, hst, hn, hml', hlk⟩ := mz_oka_i hok
      obtain ⟨as, rest, r, μ', e1, rfl, e3, e4, e5, e6, k1⟩ := mz_cl_i (C := C) (g := mz_rv SH cj) (y := y) (n := n) (k := k) (t := t) (ml := ml) (a' := [nest, pl]) (st := st) (μ := μ) (f := fun v μ' => mz_PW p l e (mz_room (d + 1)) s m args below meth c SH LAY cA ad D cls me.2.2.1 (MQ below (mz_QC SH LAY cA ad D cls r0 μ0) args s 0 0 (mz_A LAY ad)) (pc + 3, mz_kp kn L, v, μ')) h
      have hvas : ∀ v ∈ as, mz_vd LAY v := fun v hv => hvs v (List.mem_append_left _ (List.mem_reverse.mpr hv))
      refine mz_callW (me' := me') rfl hM hC hX0 hls hP hS hy hst (e1.trans hn) e3 (by rw [← hml']; exact e4) hlk hd (fun _ => ?_) hvas e6 (fun H1 locs1 a1 a2 a3 => ?_)
      · unfold mz_rv at e5
        split at e5
        · next t' pp rest' =>
          split at e5
          · next ci fs hsh =>
            obtain rfl := Nat.eq_of_beq_eq_true e5
            dsimp only [mz_a0] at hok2
            rw [hy] at hok2
            split at hok2
            · next q me2 hq he =>
              cases he
              exact ⟨t', pp, rest', ci, fs, q, rfl, hvas _ List.mem_cons_self, hsh, hq, of_decide_eq_true hok2⟩
            · cases hok2
          · cases e5
        · cases e5
      · have go := k1 H1 locs1 ls (mz_has_kp kn hl) (mz_vl_kp kn hvl) (mz_vs_app (fun v hv => a1 v (by cases r with
          | none => cases hv
          | some z => rcases List.mem_cons.mp hv with rfl | hv
                      · rfl
                      · cases hv)) (fun v hv => hvs v (List.mem_append_right _ hv))) a2 a3
        have e : (r.map (mz_cv ad)).toList ++ rest.map (mz_cv ad) = (r.toList ++ rest).map (mz_cv ad) := by
          cases r <;> rfl
        rw [e]
        exact go
  case invokestatic idx =>
    rw [Bool.and_eq_true] at hok
    obtain ⟨h3, hok⟩ := hok
    obtain rfl := of_decide_eq_true h3
    cases a with
    | nil => cases hok
    | cons z a' =>
      cases z with
      | zero =>
        have hok2 : mz_okac TBL me.1.cls idx a' = true := hok
        unfold mz_okac at hok2
        split at hok2
        · next p0' p1' p2' p3' =>
          simp only [Bool.and_eq_true] at hok2
          obtain ⟨⟨⟨w0, w1⟩, w2⟩, w3⟩ := hok2
          obtain ⟨n, dd, t1, p1, ss, t0, p0, r, rfl, hcs, k1⟩ := mz_ac_i h
          · 
            have hv1 : LAY[p1]? = some t1 := hvs (mz_R t1 p1) (by simp)
            have hv0 : LAY[p0]? = some t0 := hvs (mz_R t0 p0) (by simp)
            have hwd : nativeFrameWords "java/lang/System" "arraycopy" 5 ≤ 40 := by decide +kernel
            have hvr : mz_vs LAY r := mz_vs_t (mz_vs_t (mz_vs_t (mz_vs_t (mz_vs_t hvs))))
            rcases k1 with ⟨i0, n0, q0, i1, n1, q1, hsh0, hsh1, ⟨g1, g2, g3, g4, g5⟩, k2⟩ | ⟨i0, n0, q0, i1, n1, q1, hsh0, hsh1, ⟨g1, g2, g3, g4, g5⟩, k2⟩
            ·
              refine va_copyi (rest := r.map (mz_cv ad)) hx hb (hml.trans hls.symm) hown (gw _ (mz_lw_m w0) rfl) (gw _ (mz_lw_m w1) rfl) (gw _ (mz_lw_m w2) rfl) (gw _ (mz_lw_m w3) rfl) hK hP hD hS p0 p1 i0 i1 (mz_w_get (cA := cA) (ad := ad) (μ := μ) hv0 hsh0) (mz_w_get (cA := cA) (ad := ad) (μ := μ) hv1 hsh1) (mz_ty_at (hS0 _ _ _ _ hsh0)) (mz_ty_at (hS0 _ _ _ _ hsh1)) rfl g1 g2 g3 g4 g5 (fun _ _ => rfl) (show 1 ≤ d + 1 by omega) (by rw [mz_cs_sum]; show mz_cs r + (nativeFrameWords "java/lang/System" "arraycopy" 5 + 11) ≤ 60 * (d + 1) + 100; omega) hd (fun H1 locs1 a1 a2 a3 => k2 H1 locs1 ls (mz_has_kp kn hl) (mz_vl_kp kn hvl) hvr ?_ a3)
              have e := mz_w_set (cA := cA) (ad := ad) (μ := μ) (μ' := mz_cI μ p0 p1 ss.toNatClampNeg dd.toNatClampNeg n.toNatClampNeg) hv1 hsh1 (fun q hq => ⟨by simp [mz_cI, mz_wr, hq], rfl⟩)
              rw [← e]
              have e2 : mz_cell cA ad (mz_cI μ p0 p1 ss.toNatClampNeg dd.toNatClampNeg n.toNatClampNeg) p1 (.inr (i1, n1, 0, q1)) = .inl (cA i1, n1, .inl (va_cpy (μ.1 p0) (μ.1 p1) ss.toNatClampNeg dd.toNatClampNeg n.toNatClampNeg)) := by
                show Sum.inl (cA i1, n1, Sum.inl (mz_wr μ.1 p1 _ p1)) = _
                simp [mz_wr]
              rw [e2]
              exact a1
            ·
              refine va_copyl (rest := r.map (mz_cv ad)) hx hb (hml.trans hls.symm) hown (gw _ (mz_lw_m w0) rfl) (gw _ (mz_lw_m w1) rfl) (gw _ (mz_lw_m w2) rfl) (gw _ (mz_lw_m w3) rfl) hK hP hD hS p0 p1 i0 i1 (mz_w_get (cA := cA) (ad := ad) (μ := μ) hv0 hsh0) (mz_w_get (cA := cA) (ad := ad) (μ := μ) hv1 hsh1) (mz_ty_at (hS1 _ _ _ _ hsh0)) (mz_ty_at (hS1 _ _ _ _ hsh1)) rfl g1 g2 g3 g4 g5 (fun _ _ => rfl) (show 1 ≤ d + 1 by omega) (by rw [mz_cs_sum]; show mz_cs r + (nativeFrameWords "java/lang/System" "arraycopy" 5 + 11) ≤ 60 * (d + 1) + 100; omega) hd (fun H1 locs1 a1 a2 a3 => k2 H1 locs1 ls (mz_has_kp kn hl) (mz_vl_kp kn hvl) hvr ?_ a3)
              have e := mz_w_set (cA := cA) (ad := ad) (μ := μ) (μ' := mz_cL μ p0 p1 ss.toNatClampNeg dd.toNatClampNeg n.toNatClampNeg) hv1 hsh1 (fun q hq => ⟨rfl, by simp [mz_cL, mz_wr, hq]⟩)
              rw [← e]
              have e2 : mz_cell cA ad (mz_cL μ p0 p1 ss.toNatClampNeg dd.toNatClampNeg n.toNatClampNeg) p1 (.inr (i1, n1, 1, q1)) = .inl (cA i1, n1, .inr (.inl (va_cpy (μ.2 p0) (μ.2 p1) ss.toNatClampNeg dd.toNatClampNeg n.toNatClampNeg))) := by
                show Sum.inl (cA i1, n1, Sum.inr (Sum.inl (mz_wr μ.2 p1 _ p1))) = _
                simp [mz_wr]
              rw [e2]
              exact a1
        · cases hok2
      | succ z =>
        obtain ⟨y, n, k, t, ml, nest, pl, me', rfl, hy, hst, hn, hml', hlk⟩ := mz_oka_i hok
        obtain ⟨as, rest, r, μ', e1, rfl, e3, e4, e5, e6, k1⟩ := mz_cl_i (C := C) (g := fun _ => true) (y := y) (n := n) (k := k) (t := t) (ml := ml) (a' := [nest, pl]) (st := st) (μ := μ) (f := fun v μ' => mz_PW p l e (mz_room (d + 1)) s m args below meth c SH LAY cA ad D cls me.2.2.1 (MQ below (mz_QC SH LAY cA ad D cls r0 μ0) args s 0 0 (mz_A LAY ad)) (pc + 3, mz_kp kn L, v, μ')) h
        have hvas : ∀ v ∈ as, mz_vd LAY v := fun v hv => hvs v (List.mem_append_left _ (List.mem_reverse.mpr hv))
        refine mz_callW (me' := me') rfl hM hC hX0 hls hP hS hy hst (e1.trans hn) e3 (by rw [← hml']; exact e4) hlk hd (fun q => by cases q) hvas e6 (fun H1 locs1 a1 a2 a3 => ?_)
        have go := k1 H1 locs1 ls (mz_has_kp kn hl) (mz_vl_kp kn hvl) (mz_vs_app (fun v hv => a1 v (by cases r with
          | none => cases hv
          | some z => rcases List.mem_cons.mp hv with rfl | hv
                      · rfl
                      · cases hv)) (fun v hv => hvs v (List.mem_append_right _ hv))) a2 a3
        have e : (r.map (mz_cv ad)).toList ++ rest.map (mz_cv ad) = (r.toList ++ rest).map (mz_cv ad) := by
          cases r <;> rfl
        rw [e]
        exact go
  case iadd =>
    obtain rfl := of_decide_eq_true hok
    obtain ⟨x, y, r, rfl, h⟩ := mz_p2_i h
    exact lv_iadd hx hb hd (h H locs ls (mz_has_kp kn hl) (mz_vl_kp kn hvl) (mz_vs_c trivial (mz_vs_t (mz_vs_t hvs))) hP hS)
  case isub =>
    obtain rfl := of_decide_eq_true hok
    obtain ⟨x, y, r, rfl, h⟩ := mz_p2_i h
    exact lv_isub hx hb hd (h H locs ls (mz_has_kp kn hl) (mz_vl_kp kn hvl) (mz_vs_c trivial (mz_vs_t (mz_vs_t hvs))) hP hS)
  case imul =>
    obtain rfl := of_decide_eq_true hok
    obtain ⟨x, y, r, rfl, h⟩ := mz_p2_i h
    exact lv_imul hx hb hd (h H locs ls (mz_has_kp kn hl) (mz_vl_kp kn hvl) (mz_vs_c trivial (mz_vs_t (mz_vs_t hvs))) hP hS)
  case iand =>
    obtain rfl := of_decide_eq_true hok
    obtain ⟨x, y, r, rfl, h⟩ := mz_p2_i h
    exact lv_iand hx hb hd (h H locs ls (mz_has_kp kn hl) (mz_vl_kp kn hvl) (mz_vs_c trivial (mz_vs_t (mz_vs_t hvs))) hP hS)
  case ior =>
    obtain rfl := of_decide_eq_true hok
    obtain ⟨x, y, r, rfl, h⟩ := mz_p2_i h
    exact lv_ior hx hb hd (h H locs ls (mz_has_kp kn hl) (mz_vl_kp kn hvl) (mz_vs_c trivial (mz_vs_t (mz_vs_t hvs))) hP hS)
  case ixor =>
    obtain rfl := of_decide_eq_true hok
    obtain ⟨x, y, r, rfl, h⟩ := mz_p2_i h
    exact lv_ixor hx hb hd (h H locs ls (mz_has_kp kn hl) (mz_vl_kp kn hvl) (mz_vs_c trivial (mz_vs_t (mz_vs_t hvs))) hP hS)
  case ishl =>
    obtain rfl := of_decide_eq_true hok
    obtain ⟨x, y, r, rfl, h⟩ := mz_p2_i h
    exact lv_ishl hx hb hd (h H locs ls (mz_has_kp kn hl) (mz_vl_kp kn hvl) (mz_vs_c trivial (mz_vs_t (mz_vs_t hvs))) hP hS)
  case idiv =>
    obtain rfl := of_decide_eq_true hok
    obtain ⟨x, y, r, rfl, k1⟩ := mz_p2_i h
    exact lv_idiv hx hb hd k1.1 (k1.2 H locs ls (mz_has_kp kn hl) (mz_vl_kp kn hvl) (mz_vs_c trivial (mz_vs_t (mz_vs_t hvs))) hP hS)
  case irem =>
    obtain rfl := of_decide_eq_true hok
    obtain ⟨x, y, r, rfl, k1⟩ := mz_p2_i h
    exact lv_irem hx hb hd k1.1 (k1.2 H locs ls (mz_has_kp kn hl) (mz_vl_kp kn hvl) (mz_vs_c trivial (mz_vs_t (mz_vs_t hvs))) hP hS)
  case ladd =>
    obtain rfl := of_decide_eq_true hok
    obtain ⟨x, y, r, rfl, h⟩ := mz_g2_i h
    exact lv_ladd hx hb hd (h H locs ls (mz_has_kp kn hl) (mz_vl_kp kn hvl) (mz_vs_c trivial (mz_vs_t (mz_vs_t hvs))) hP hS)
  case lsub =>
    obtain rfl := of_decide_eq_true hok
    obtain ⟨x, y, r, rfl, h⟩ := mz_g2_i h
    exact lv_lsub hx hb hd (h H locs ls (mz_has_kp kn hl) (mz_vl_kp kn hvl) (mz_vs_c trivial (mz_vs_t (mz_vs_t hvs))) hP hS)
  case lmul =>
    obtain rfl := of_decide_eq_true hok
    obtain ⟨x, y, r, rfl, h⟩ := mz_g2_i h
    exact lv_lmul hx hb hd (h H locs ls (mz_has_kp kn hl) (mz_vl_kp kn hvl) (mz_vs_c trivial (mz_vs_t (mz_vs_t hvs))) hP hS)
  case land =>
    obtain rfl := of_decide_eq_true hok
    obtain ⟨x, y, r, rfl, h⟩ := mz_g2_i h
    exact lv_land hx hb hd (h H locs ls (mz_has_kp kn hl) (mz_vl_kp kn hvl) (mz_vs_c trivial (mz_vs_t (mz_vs_t hvs))) hP hS)
  case ldiv =>
    obtain rfl := of_decide_eq_true hok
    obtain ⟨x, y, r, rfl, k1⟩ := mz_g2_i h
    exact lv_ldiv hx hb hd k1.1 (k1.2 H locs ls (mz_has_kp kn hl) (mz_vl_kp kn hvl) (mz_vs_c trivial (mz_vs_t (mz_vs_t hvs))) hP hS)
  case lrem =>
    obtain rfl := of_decide_eq_true hok
    obtain ⟨x, y, r, rfl, k1⟩ := mz_g2_i h
    exact lv_lrem hx hb hd k1.1 (k1.2 H locs ls (mz_has_kp kn hl) (mz_vl_kp kn hvl) (mz_vs_c trivial (mz_vs_t (mz_vs_t hvs))) hP hS)
  case lcmp =>
    obtain rfl := of_decide_eq_true hok
    obtain ⟨x, y, r, rfl, h⟩ := mz_g2_i h
    exact W.lcmp hx hb hd (h H locs ls (mz_has_kp kn hl) (mz_vl_kp kn hvl) (mz_vs_c trivial (mz_vs_t (mz_vs_t hvs))) hP hS)
  case ineg =>
    obtain rfl := of_decide_eq_true hok
    obtain ⟨x, r, rfl, h⟩ := mz_p1_i h
    exact lv_ineg hx hb hd (h H locs ls (mz_has_kp kn hl) (mz_vl_kp kn hvl) (mz_vs_c trivial (mz_vs_t hvs)) hP hS)
  case lneg =>
    obtain rfl := of_decide_eq_true hok
    obtain ⟨x, r, rfl, h⟩ := mz_g1_i h
    exact lv_lneg hx hb hd (h H locs ls (mz_has_kp kn hl) (mz_vl_kp kn hvl) (mz_vs_c trivial (mz_vs_t hvs)) hP hS)
  case i2l =>
    obtain rfl := of_decide_eq_true hok
    obtain ⟨x, r, rfl, h⟩ := mz_p1_i h
    exact lv_i2l hx hb hd rfl (h H locs ls (mz_has_kp kn hl) (mz_vl_kp kn hvl) (mz_vs_c trivial (mz_vs_t hvs)) hP hS)
  case l2i =>
    obtain rfl := of_decide_eq_true hok
    obtain ⟨x, r, rfl, h⟩ := mz_g1_i h
    exact lv_l2i hx hb hd rfl (h H locs ls (mz_has_kp kn hl) (mz_vl_kp kn hvl) (mz_vs_c trivial (mz_vs_t hvs)) hP hS)
  case i2b =>
    obtain rfl := of_decide_eq_true hok
    obtain ⟨x, r, rfl, h⟩ := mz_p1_i h
    exact lv_i2b hx hb hd rfl (h H locs ls (mz_has_kp kn hl) (mz_vl_kp kn hvl) (mz_vs_c trivial (mz_vs_t hvs)) hP hS)
  case i2s =>
    obtain rfl := of_decide_eq_true hok
    obtain ⟨x, r, rfl, h⟩ := mz_p1_i h
    exact lv_i2s hx hb hd rfl (h H locs ls (mz_has_kp kn hl) (mz_vl_kp kn hvl) (mz_vs_c trivial (mz_vs_t hvs)) hP hS)
  case pop =>
    obtain rfl := of_decide_eq_true hok
    match st, h, hvs with
    | .inl x :: r, h, hvs => exact lv_pop hx hb hd rfl (h H locs ls (mz_has_kp kn hl) (mz_vl_kp kn hvl) (mz_vs_t hvs) hP hS)
  case dup =>
    obtain rfl := of_decide_eq_true hok
    match st, h, hvs with
    | .inl x :: r, h, hvs => exact lv_dup hx hb hd rfl (h H locs ls (mz_has_kp kn hl) (mz_vl_kp kn hvl) (mz_vs_c trivial hvs) hP hS)
    | .inr (.inr (t, pp)) :: r, h, hvs => exact lv_dup hx hb hd rfl (h H locs ls (mz_has_kp kn hl) (mz_vl_kp kn hvl) (mz_vs_c (mz_vs_h hvs) hvs) hP hS)
  case dup2 =>
    obtain rfl := of_decide_eq_true hok
    match st, h, hvs with
    | .inl x :: .inr (.inr (t, pp)) :: r, h, hvs => exact lv_dup2_11 hx hb hd rfl rfl (h H locs ls (mz_has_kp kn hl) (mz_vl_kp kn hvl) (mz_vs_c trivial (mz_vs_c (mz_vs_h (mz_vs_t hvs)) hvs)) hP hS)
  case ireturn =>
    simp only [Bool.and_eq_true, decide_eq_true_eq] at hok
    obtain ⟨rfl, hrt⟩ := hok
    have fin : ∀ x : Int32, some (mz_I x) = r0 ∧ μ = μ0 → ∀ t : State, t.heap = H → s.WarmedH t.vm → mz_QC SH LAY cA ad D cls r0 μ0 args s (.returned (some (.int x))) t := by
      intro x hq t ht _
      obtain ⟨rfl, rfl⟩ := hq
      exact ⟨rfl, fun v hv => by cases hv; trivial, by rw [ht]; exact hP, hS.F ht⟩
    match st, h with
    | [.inl x], h =>
      match ha : mz_a0 a, h, hrt with
      | 0, h, hrt =>
        dsimp only [mz_op] at h
        rw [ha] at h
        exact W.iret hx hb (hr.trans hrt) (fin x h) hS.2.2 hd hlocks
      | n + 1, h, hrt =>
        dsimp only [mz_op] at h
        rw [ha] at h
        obtain ⟨hb01, h⟩ := h
        refine W.zret (ty := .boolean) hx hb (hr.trans hrt) ?_ (fin x h) hS.2.2 hd hlocks
        rcases hb01 with rfl | rfl
        · decide +kernel
        · decide +kernel
  case lreturn =>
    simp only [Bool.and_eq_true, decide_eq_true_eq] at hok
    obtain ⟨rfl, hrt⟩ := hok
    match st, h with
    | [.inr (.inl x)], h =>
      obtain ⟨rfl, rfl⟩ := h
      exact W.lret hx hb (hr.trans hrt) (fun t ht _ => ⟨rfl, fun v hv => by cases hv; trivial, by rw [ht]; exact hP, hS.F ht⟩) hS.2.2 hd hlocks
  case areturn =>
    rw [Bool.and_eq_true] at hok
    obtain ⟨h3, hok⟩ := hok
    obtain rfl := of_decide_eq_true h3
    match st, h, hvs with
    | [.inr (.inr (t', pp))], h, hvs =>
      obtain ⟨rfl, rfl⟩ := h
      split at hok
      · next nm hrt =>
        exact W.aret hx hb (hr.trans hrt) (Or.inl ⟨_, rfl⟩) (Or.inr ⟨_, rfl⟩) (fun t ht _ => ⟨rfl, fun v hv => by cases hv; exact mz_vs_h hvs, by rw [ht]; exact hP, hS.F ht⟩) hS.2.2 hd hlocks
      · cases hok
  case return_ =>
    simp only [Bool.and_eq_true, decide_eq_true_eq] at hok
    obtain ⟨rfl, hrt⟩ := hok
    match st, h with
    | [], h =>
      obtain ⟨rfl, rfl⟩ := h
      exact W.vret hx hb (hr.trans hrt) (fun t ht _ => ⟨rfl, fun v hv => (by cases hv), by rw [ht]; exact hP, hS.F ht⟩) hS.2.2 hd hlocks
  all_goals exact h.elim
theorem mz_sl_len : ∀ b : List mz_V, (lg_sl (b.map (mz_cv ad))).length = mz_cs b
  | [] => rfl
  | v :: r => by
    have ih := mz_sl_len r
    unfold lg_sl at ih ⊢
    rw [List.map_cons, List.flatMap_cons, List.length_append, ih, mz_cat_cv]
    match v with
    | .inl _ => rfl
    | .inr (.inl _) => rfl
    | .inr (.inr _) => rfl
theorem mz_ent_args : ∀ (i : Nat) (a : List mz_V), mz_lc ad (mz_ent i a) = lv_args i (a.map (mz_cv ad))
  | _, [] => rfl
  | i, v :: r => by
    have ih := mz_ent_args (i + mz_cat v) r
    show (i, mz_cv ad v) :: mz_lc ad (mz_ent (i + mz_cat v) r) = (i, mz_cv ad v) :: lv_args (if (mz_cv ad v).category = 2 then i + 2 else i + 1) (r.map (mz_cv ad))
    rw [ih, mz_cat_cv]
    match v with
    | .inl _ => rfl
    | .inr (.inl _) => rfl
    | .inr (.inr _) => rfl
theorem mz_ent_mem {q : Nat × mz_V} : ∀ {i : Nat} {a : List mz_V}, q ∈ mz_ent i a → q.2 ∈ a
  | _, [], h => by cases h
  | i, v :: r, h => by
    rcases List.mem_cons.mp h with rfl | h
    · exact List.mem_cons_self
    · exact List.mem_cons_of_mem _ (mz_ent_mem h)
/-- Met.ofW, also of a class of which the machine runs other methods natively -/
theorem mz_ofW {y : MethodName} {ws ws' : List Jvm.Cond} {rm : Room} {Pc : Array Value → State → Prop} {Qc : Array Value → State → Outcome → State → Prop} {mc ms : Nat} {free : Addr → Prop} {cc : ByteArray} {maxL : Nat} {ret : Option FieldType}
    (hy : plainFor y = true) (hw : ws = Jvm.Cond.code y cc maxL ret :: ws')
    (body : ∀ p e s m args below meth c s₁, BodyLoose p l y (headSpec ws rm) cc maxL ret e s m args below meth c s₁ → c.maxLocals = maxL → Pc args s →
      W p l e (headSpec ws rm).room s m args below meth c s.heap [] 0 0 (MQ below Qc args s mc ms free) (entryFrame m args maxL)) : Met l y ws rm Pc Qc mc ms free := by
  refine MetFree.of_bodySF (code := cc) (maxLocals := maxL) (ret := ret) hy ?_ ?_
  · intro args s m h hn
    obtain ⟨meth, c, h1, h2, h3, h4, h5, h6, -, -⟩ := Cond.code_spec hn (atoms_spec (ws := ws) h _ (by rw [hw]; exact List.mem_cons_self))
    exact ⟨meth, c, h1, h2, h3, h4, h5, h6⟩
  · intro p e s m args below meth c s₁ B hml hP _
    have hh0 : s₁.heap = s.heap := by rw [B.state]; rfl
    obtain ⟨t, a1, o, b1, b2, b3⟩ := body p e s m args below meth c s₁ B hml hP s₁ hh0 (Stand.of_body B)
    exact ⟨t, o, a1, b1, b2, ⟨b3.1, b3.2⟩⟩
set_option maxHeartbeats 4000000 in
/-- a run of the second machine is a contract of the first -/
theorem mz_sound (TB : Nat → mz_T) (hT : ∀ (y : Nat) (me : mz_Me), mz_nth MS y = some me → TB y = me.2.2.2.2.2.2.2) (hW : mz_Wd SH LAY ad cls TBL ats) (hM : ∀ (y : Nat) (me : mz_Me), mz_nth MS y = some me → mz_okM TBL host cls MS me = true) : ∀ d : Nat, mz_Hc l SH LAY cA ad D cls TBL MS ats d (mz_Rel SH TB d)
  | 0 => fun y a μ r μ' me h => h.elim
  | d + 1 => by
    intro y a μ r μ' me h hy hva hcs
    have hC := mz_sound TB hT hW hM d
    obtain ⟨o1, o2, o3, o4, o5, o6, o7, o8, o9⟩ := mz_okM_i (hM y me hy)
    refine mz_ofW (cc := me.2.1) (maxL := me.2.2.1) (ret := me.2.2.2.1) o5 rfl ?_
    intro p e s m args below meth c s₁ B hml hv
    obtain ⟨rfl, hP, hK, hN⟩ := hv
    have hX : mz_Cx p s m (a.map (mz_cv ad)).toArray meth c cA D cls TBL ats me := ⟨B.exec, B.bytes, hml, findClass_of_methodNamed B.named, atoms_spec (ws := mz_ws TBL me) B.pre, B.returns, B.notSynchronized, hK, hN⟩
    have hstep := h (mz_PW p l e (mz_room (d + 1)) s m (a.map (mz_cv ad)).toArray below meth c SH LAY cA ad D cls me.2.2.1 (MQ below (mz_QC SH LAY cA ad D cls r μ') (a.map (mz_cv ad)).toArray s 0 0 (mz_A LAY ad))) (by
      intro z hz
      unfold mz_step at hz
      rw [hT y me hy] at hz
      match hk : mz_nth me.2.2.2.2.2.2.2 z.1, hz with
      | some (some ee), hz =>
        have hok := mz_okR_at o9 hk
        rw [Nat.zero_add] at hok
        exact mz_opW hW hM hC hX hok hz)
    have hlen : (lg_sl (a.map (mz_cv ad))).length ≤ me.2.2.1 := by
      rw [mz_sl_len]
      exact hcs
    have hl := lv_entry (a.map (mz_cv ad)) hlen
    rw [lg_entry_eq]
    refine hstep s.heap [] _ ?_ (fun q hq => hva _ (mz_ent_mem hq)) (fun v hv => by cases hv) hP va_S.rf
    show lv_has _ _ (mz_lc ad (mz_ent 0 a))
    rw [mz_ent_args]
    exact hl
end MZU
