section MZT
variable {p : Program} {l : Launch} {e : Env} {s : State} {m : MethodId} {args : Array Value} {below : List Frame} {meth : Method} {c : Code} {d : Nat}
variable {SH : List mz_Sh} {LAY : List Nat} {cA : Nat → ClassId} {ad : Nat → Nat} {D : va_G} {cls : List vw_C} {TBL : List Jvm.Cond} {host : String} {MS : List mz_Me} {ats : List FieldType}
/-- what is known of the methods that are called: their contracts -/
def mz_Hc (l : Launch) (SH : List mz_Sh) (LAY : List Nat) (cA : Nat → ClassId) (ad : Nat → Nat) (D : va_G) (cls : List vw_C) (TBL : List Jvm.Cond) (MS : List mz_Me) (ats : List FieldType) (d : Nat) (C : mz_Cl) : Prop :=
  ∀ (y : Nat) (a : List mz_V) (μ : mz_M) (r : Option mz_V) (μ' : mz_M) (me : mz_Me), C y a μ r μ' → mz_nth MS y = some me → (∀ v ∈ a, mz_vd LAY v) → mz_cs a ≤ me.2.2.1 → Met l me.1 (mz_ws TBL me) (mz_room d) (mz_Pc SH LAY cA ad D cls TBL ats a μ) (mz_QC SH LAY cA ad D cls r μ') 0 0 (mz_A LAY ad)
theorem mz_getW {R : Room} {H : Heap} {locs : List Loc} {pc : Nat} {ls : Array Slot} {rest : List Value} {μ : mz_M} {me : mz_Me} {Qf : State → Prop} {t pp ci f nest pl idx : Nat} {fs : List mz_F} {g : mz_F}
    (hW : mz_Wd SH LAY ad cls TBL ats) (hX : mz_Cx p s m args meth c cA D cls TBL ats me) (hd : decode me.2.1 pc = .ok (.getfield idx, 3)) (hP : va_P D cls (mz_w SH LAY cA ad μ) H) (hv : LAY[pp]? = some t) (hs : mz_nth SH t = some (.inl (ci, fs))) (hg : mz_nth fs f = some g) (ho : mz_okc TBL host cls me.1.cls idx ci f nest pl = true)
    (k : W p l e R s m args below meth c H locs 0 0 Qf (F0 m (pc + 3) ls (mz_fv ad μ pp f g :: rest))) : W p l e R s m args below meth c H locs 0 0 Qf (F0 m pc ls (.ref (ad pp) :: rest)) := by
  obtain ⟨hx, hb, hml, hown, hts, hr, hlocks, hK, hN⟩ := hX
  obtain ⟨-, -, -, -, -, -, -, hcl⟩ := hW
  unfold mz_okc at ho
  split at ho
  · next q hq =>
    rw [Bool.and_eq_true] at ho
    obtain ⟨h1, h2⟩ := ho
    obtain ⟨hin, ty0, hty, hnm⟩ := hcl ci q hq
    have hin' : ∀ w ∈ u_ws q.1 q.2.1 q.2.2, w ∈ mz_ws TBL me := fun w h => List.mem_cons_of_mem _ (hin w h)
    have he := mz_w_get (cA := cA) (ad := ad) (μ := μ) hv hs
    have hfl : f < fs.length := by
      rw [mz_nth_eq] at hg
      exact (List.getElem?_eq_some_iff.mp hg).1
    have hval : ((List.range fs.length).map (fun k => mz_fv ad μ pp k (fs.getD k none)))[f]? = some (mz_fv ad μ pp f g) := by
      rw [List.getElem?_map, List.getElem?_range hfl]
      show some (mz_fv ad μ pp f (fs.getD f none)) = _
      rw [mz_nth_eq] at hg
      rw [List.getD_eq_getElem?_getD, hg]; rfl
    cases nest with
    | zero => exact va_get hx hb hts hin' hown hK hP pp he hq f (of_decide_eq_true h1) (hts _ (List.mem_cons_of_mem _ (mz_lw_g h2 rfl))) (fun _ h => h) hval hd k
    | succ n => exact va_getN hx hb hts hin' hown hK hP pp he hq f (of_decide_eq_true h1) (va_Nw.use rfl (hN _ (mz_lw_m h2) rfl)) (fun _ h => h) hval hd k
  · cases ho
theorem mz_putW {R : Room} {H : Heap} {locs : List Loc} {pc : Nat} {ls : Array Slot} {rest : List Value} {μ : mz_M} {me : mz_Me} {Qf : State → Prop} {t pp ci f b nest pl idx : Nat} {fs : List mz_F} {x : Int32}
    (hW : mz_Wd SH LAY ad cls TBL ats) (hX : mz_Cx p s m args meth c cA D cls TBL ats me) (hd : decode me.2.1 pc = .ok (.putfield idx, 3)) (hP : va_P D cls (mz_w SH LAY cA ad μ) H) (hS : va_S (mz_A LAY ad) s.heap H locs) (hv : LAY[pp]? = some t) (hs : mz_nth SH t = some (.inl (ci, fs))) (hg : mz_nth fs f = some none) (ho : mz_okc TBL host cls me.1.cls idx ci f nest pl = true)
    (ho2 : ∀ q, cls[ci]? = some q → (q.2.1 f).2.2.2 = false ∧ parseFieldDescriptor (q.2.1 f).2.2.1 = some (match b with
          | 0 => .int
          | _ + 1 => .boolean)) (hbx : b ≠ 0 → x = 0 ∨ x = 1)
    (k : ∀ (H1 : Heap) (locs1 : List Loc), va_P D cls (mz_w SH LAY cA ad (mz_wI μ pp f x)) H1 → va_S (mz_A LAY ad) s.heap H1 locs1 → W p l e R s m args below meth c H1 locs1 0 0 Qf (F0 m (pc + 3) ls rest)) : W p l e R s m args below meth c H locs 0 0 Qf (F0 m pc ls (.int x :: .ref (ad pp) :: rest)) := by
  obtain ⟨hx, hb, hml, hown, hts, hr, hlocks, hK, hN⟩ := hX
  obtain ⟨had, -, -, -, -, -, -, hcl⟩ := hW
  unfold mz_okc at ho
  split at ho
  · next q hq =>
    rw [Bool.and_eq_true] at ho
    obtain ⟨h1, h2⟩ := ho
    obtain ⟨hin, ty0, hty, hnm⟩ := hcl ci q hq
    obtain ⟨hfin, hdesc⟩ := ho2 q hq
    have hin' : ∀ w ∈ u_ws q.1 q.2.1 q.2.2, w ∈ mz_ws TBL me := fun w h => List.mem_cons_of_mem _ (hin w h)
    have he := mz_w_get (cA := cA) (ad := ad) (μ := μ) hv hs
    have hfl : f < fs.length := by
      rw [mz_nth_eq] at hg
      exact (List.getElem?_eq_some_iff.mp hg).1
    have hgd : fs.getD f none = none := by
      rw [mz_nth_eq] at hg
      rw [List.getD_eq_getElem?_getD, hg]; rfl
    have hset : ((List.range fs.length).map (fun k => mz_fv ad μ pp k (fs.getD k none))).set f (.int x) = (List.range fs.length).map (fun k => mz_fv ad (mz_wI μ pp f x) pp k (fs.getD k none)) := by
      apply List.ext_getElem?
      intro j
      by_cases hj : j = f
      · subst hj
        rw [List.getElem?_set_self (by rw [List.length_map, List.length_range]; exact hfl), List.getElem?_map, List.getElem?_range hfl]
        show _ = some (mz_fv ad (mz_wI μ pp j x) pp j (fs.getD j none))
        rw [hgd]
        show some (Value.int x) = some (Value.int (mz_wr μ.1 pp (upd (μ.1 pp) j x) pp j))
        simp [mz_wr, upd]
      · rw [List.getElem?_set_ne (Ne.symm hj), List.getElem?_map, List.getElem?_map]
        cases hr : (List.range fs.length)[j]? with
        | none => rfl
        | some z =>
          have hz : z = j := by
            obtain ⟨h1, h2⟩ := List.getElem?_eq_some_iff.mp hr
            rw [List.getElem_range] at h2
            exact h2.symm
          subst hz
          show some (mz_fv ad μ pp z (fs.getD z none)) = some (mz_fv ad (mz_wI μ pp f x) pp z (fs.getD z none))
          cases fs.getD z none with
          | none =>
            show some (Value.int (μ.1 pp z)) = some (Value.int (mz_wr μ.1 pp (upd (μ.1 pp) f x) pp z))
            simp [mz_wr, upd, hj]
          | some q => rfl
    have hw : (mz_w SH LAY cA ad μ).set pp (ad pp, .inr (ci, ((List.range fs.length).map (fun k => mz_fv ad μ pp k (fs.getD k none))).set f (.int x))) = mz_w SH LAY cA ad (mz_wI μ pp f x) := by
      rw [hset]
      exact mz_w_set hv hs (fun q hq => ⟨by simp [mz_wI, mz_wr, hq], rfl⟩)
    have hD := mz_w_D (SH := SH) (cA := cA) (μ := μ) had
    have hn : ∀ ty : FieldType, parseFieldDescriptor (q.2.1 f).2.2.1 = some ty → narrow ty (.int x) = .int x ∧ fits ty (.int x) = true := by
      intro ty h
      rw [hdesc] at h
      cases h
      cases b with
      | zero => exact ⟨vp_nar_int x, rfl⟩
      | succ b =>
        rcases hbx (by omega) with rfl | rfl
        · exact ⟨show narrow .boolean (.int 0) = .int 0 by decide +kernel, show fits .boolean (.int 0) = true by decide +kernel⟩
        · exact ⟨show narrow .boolean (.int 1) = .int 1 by decide +kernel, show fits .boolean (.int 1) = true by decide +kernel⟩
    obtain ⟨hn1, hn2⟩ := hn _ hdesc
    cases nest with
    | zero => exact va_put hx hb hts hin' ty0 hty hnm hown hK hP hD hS pp he hq f (of_decide_eq_true h1) (hts _ (List.mem_cons_of_mem _ (mz_lw_g h2 rfl))) (fun _ h => h) hfin hdesc hn1 hn2 (by rw [List.length_map, List.length_range]; exact hfl) hd (fun H1 locs1 a1 a2 a3 => k H1 locs1 (by rw [hw] at a1; exact a1) a3)
    | succ n => exact va_putN hx hb hts hin' ty0 hty hnm hown hK hP hD hS pp he hq f (of_decide_eq_true h1) (va_Nw.use rfl (hN _ (mz_lw_m h2) rfl)) (fun _ h => h) hfin hdesc hn1 hn2 (by rw [List.length_map, List.length_range]; exact hfl) hd (fun H1 locs1 a1 a2 a3 => k H1 locs1 (by rw [hw] at a1; exact a1) a3)
  · cases ho
theorem mz_callW {R : Room} {H : Heap} {locs : List Loc} {pc : Nat} {ls : Array Slot} {μ μ' : mz_M} {me me' : mz_Me} {Qf : State → Prop} {C : mz_Cl} {y nest pl idx : Nat} {as rest : List mz_V} {r : Option mz_V} {stt : Bool}
    (hR : R = mz_room (d + 1)) (hM : ∀ (y : Nat) (me : mz_Me), mz_nth MS y = some me → mz_okM TBL host cls MS me = true) (hC : mz_Hc l SH LAY cA ad D cls TBL MS ats d C) (hX : mz_Cx p s m args meth c cA D cls TBL ats me) (hls : ls.size = me.2.2.1) (hP : va_P D cls (mz_w SH LAY cA ad μ) H) (hS : va_S (mz_A LAY ad) s.heap H locs) (hy : mz_nth MS y = some me') (hst : me'.2.2.2.2.2.1 = stt) (hlen : as.length = me'.2.2.2.2.1 + (bif stt then 0 else 1)) (hcr : mz_cs rest ≤ 8) (hca : mz_cs as ≤ me'.2.2.1)
    (hlk : (match nest with
      | 0 => mz_lw TBL pl (.methodLink me.1.cls idx me'.1)
      | _ + 1 => mz_lw TBL pl (.methodLinkNest me.1.cls idx me'.1 host)) = true)
    (hd : decode me.2.1 pc = .ok (bif stt then .invokestatic idx else .invokevirtual idx, 3))
    (hrv : stt = false → ∃ t pp as' ci fs q, as = mz_R t pp :: as' ∧ LAY[pp]? = some t ∧ mz_nth SH t = some (.inl (ci, fs)) ∧ cls[ci]? = some q ∧ q.1 = me'.1.cls)
    (hva : ∀ v ∈ as, mz_vd LAY v) (hq : C y as μ r μ')
    (kk : ∀ (H1 : Heap) (locs1 : List Loc), (∀ v, r = some v → mz_vd LAY v) → va_P D cls (mz_w SH LAY cA ad μ') H1 → va_S (mz_A LAY ad) s.heap H1 locs1 → W p l e R s m args below meth c H1 locs1 0 0 Qf (F0 m (pc + 3) ls ((r.map (mz_cv ad)).toList ++ rest.map (mz_cv ad)))) : W p l e R s m args below meth c H locs 0 0 Qf (F0 m pc ls ((as.reverse ++ rest).map (mz_cv ad))) := by
  have hX0 := hX
  obtain ⟨hx, hb, hml, hown, hts, hr, hlocks, hK, hN⟩ := hX
  obtain ⟨o1, o2, o3, o4, o5, o6, o7, o8, -⟩ := mz_okM_i (hM y me' hy)
  have hMet := hC y as μ r μ' me' hq hy hva hca
  have hG := mz_good (me := me) o1
  have hroom : (mz_room d).frames + 1 ≤ R.frames ∧ 8 + (me'.2.2.1 + 11) + (mz_room d).locals ≤ R.locals := by
    subst hR
    show d + 1 ≤ d + 1 ∧ 8 + (me'.2.2.1 + 11) + (60 * d + 100) ≤ 60 * (d + 1) + 100
    omega
  have gw : ∀ w, w ∈ TBL → goodWord w = true → w.before args s = true := fun w h1 h2 => hts w (List.mem_cons_of_mem _ (List.mem_filter.mpr ⟨h1, h2⟩))
  have hW8 : 2 * (F0 m pc ls ((as.reverse ++ rest).map (mz_cv ad))).monitorRoom + ((rest.map (mz_cv ad)).map fun v => v.category).sum ≤ 8 := lv_room (by rw [mz_cs_sum]; exact hcr)
  have hcells : 0 + 0 ≤ R.cells ∧ 0 + 0 ≤ R.slots := ⟨Nat.zero_le _, Nat.zero_le _⟩
  have hstk : (as.reverse ++ rest).map (mz_cv ad) = (as.map (mz_cv ad)).reverse ++ rest.map (mz_cv ad) := by rw [List.map_append, List.map_reverse]
  cases stt with
  | true =>
    have hlen' : (as.map (mz_cv ad)).length = me'.2.2.2.2.1 := by rw [List.length_map, hlen]; rfl
    cases nest with
    | zero =>
      refine mz_call (va_runS (As := as.map (mz_cv ad)) (rest := rest.map (mz_cv ad)) ⟨hx, hb, hml, hown, hts⟩ hMet ⟨callB_of me'.2.2.2.2.1 hts hG rfl rfl rfl (gw _ o2 rfl) (gw _ (mz_lw_m hlk) rfl) ⟨o6.1, o6.2, o7⟩ hroom, gw _ (o3 hst) rfl⟩ ⟨mz_blind, mz_pre hP hK hN⟩ rfl hlen' hls hstk hW8 hd hcells) hS kk
    | succ n =>
      refine mz_call (va_runSN (As := as.map (mz_cv ad)) (rest := rest.map (mz_cv ad)) ⟨hx, hb, hml, hown, hts⟩ hMet ⟨va_cnB me'.2.2.2.2.1 hts hG rfl rfl rfl (hN _ (mz_lw_m hlk) rfl) (gw _ o2 rfl) ⟨o6.1, o6.2, o7⟩ hroom, gw _ (o3 hst) rfl, trivial⟩ ⟨mz_blind, mz_pre hP hK hN⟩ rfl hlen' hls hstk hW8 hd hcells) hS kk
  | false =>
    obtain ⟨t, pp, as', ci, fs, q, rfl, hvp, hsh, hcq, hqn⟩ := hrv rfl
    have hlen' : (as'.map (mz_cv ad)).length = me'.2.2.2.2.1 := by
      rw [List.length_map]
      have : as'.length + 1 = me'.2.2.2.2.1 + 1 := hlen
      omega
    obtain ⟨s1, s2⟩ := o4 hst
    have hrec := va_recv hK hP hcq (mz_w_get (cA := cA) (ad := ad) (μ := μ) hvp hsh)
    rw [hqn] at hrec
    have hstk' : ((mz_R t pp :: as').reverse ++ rest).map (mz_cv ad) = (as'.map (mz_cv ad)).reverse ++ .ref (ad pp) :: rest.map (mz_cv ad) := by
      rw [hstk, List.map_cons, List.reverse_cons, List.append_assoc]
      rfl
    cases nest with
    | zero =>
      refine mz_call (va_runV (b := ad pp) (As := as'.map (mz_cv ad)) (rest := rest.map (mz_cv ad)) ⟨hx, hb, hml, hown, hts⟩ hMet ⟨callB_of me'.2.2.2.2.1 hts hG rfl rfl rfl (gw _ o2 rfl) (gw _ (mz_lw_m hlk) rfl) ⟨o6.1, o6.2, o7⟩ hroom, gw _ s1 rfl, gw _ s2 rfl⟩ ⟨mz_blind, hrec, mz_pre (a := mz_R t pp :: as') hP hK hN⟩ rfl hlen' hls hstk' hW8 hd hcells) hS kk
    | succ n =>
      refine mz_call (va_runVN (b := ad pp) (As := as'.map (mz_cv ad)) (rest := rest.map (mz_cv ad)) ⟨hx, hb, hml, hown, hts⟩ hMet ⟨va_cnB me'.2.2.2.2.1 hts hG rfl rfl rfl (hN _ (mz_lw_m hlk) rfl) (gw _ o2 rfl) ⟨o6.1, o6.2, o7⟩ hroom, gw _ s1 rfl, gw _ s2 rfl⟩ ⟨mz_blind, hrec, mz_pre (a := mz_R t pp :: as') hP hK hN⟩ rfl hlen' hls hstk' hW8 hd hcells) hS kk
end MZT
