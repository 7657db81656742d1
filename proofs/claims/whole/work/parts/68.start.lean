/-! The two layouts hold together; all methods are checked; how both begin. -/
def mb_ckf (LAY : List Nat) (p : Nat) (f : mz_F) : Bool := match f with
  | none => true
  | some (b, off, t') => decide (LAY[mz_pl b p off]? = some t')
def mb_ck (LAY : List Nat) (p : Nat) (sh : mz_Sh) : Bool := match sh with
  | .inl (_, fs) => fs.all (mb_ckf LAY p)
  | .inr (_, n, k, t', b, off, w) => decide (k = 2) == false || (List.range n).all (fun i => decide (LAY[mz_pl b p off + w * i]? = some t'))
def mb_ckl (LAY : List Nat) : Bool := (List.range LAY.length).all (fun p => mb_ck LAY p (mz_sh es_SH (LAY.getD p 0)))
theorem mb_ckC : mb_ckl es_LC = true := by decide +kernel
theorem mb_ckM : mb_ckl es_LM = true := by decide +kernel
def mb_cka (sh : mz_Sh) : Bool := match sh with
  | .inl _ => true
  | .inr (ti, _, k, _) => if k = 0 then decide (es_ats[ti]? = some .int) else if k = 1 then decide (es_ats[ti]? = some .long) else if k = 2 then (match es_ats[ti]? with
    | some (.object _) => true
    | _ => false) else false
theorem mb_ckA : es_SH.all mb_cka = true := by decide +kernel
theorem mb_sh_of {LAY : List Nat} {p t : Nat} {sh : mz_Sh} (h : LAY[p]? = some t) (hs : mz_nth es_SH t = some sh) : mz_sh es_SH (LAY.getD p 0) = sh ∧ p < LAY.length := by
  have hl := (List.getElem?_eq_some_iff.mp h).1
  refine ⟨?_, hl⟩
  rw [List.getD_eq_getElem?_getD, h]
  rw [mz_nth_eq] at hs
  show es_SH.getD t _ = sh
  rw [List.getD_eq_getElem?_getD, hs]; rfl
theorem mb_ck_at {LAY : List Nat} (h : mb_ckl LAY = true) {p t : Nat} {sh : mz_Sh} (h1 : LAY[p]? = some t) (hs : mz_nth es_SH t = some sh) : mb_ck LAY p sh = true := by
  obtain ⟨e, hl⟩ := mb_sh_of h1 hs
  have := List.all_eq_true.mp h p (List.mem_range.mpr hl)
  rw [e] at this
  exact this
theorem mb_Wd {LAY : List Nat} (h : mb_ckl LAY = true) (B : Nat) : mz_Wd es_SH LAY (fun p => B + p) vwCl lw_tbl es_ats := by
  have ca : ∀ t sh, mz_nth es_SH t = some sh → mb_cka sh = true := fun t sh hs => List.all_eq_true.mp mb_ckA sh (List.mem_of_getElem? (by rw [← mz_nth_eq]; exact hs))
  refine ⟨fun i j _ _ e => ?_, ?_, ?_, ?_, ?_, ?_, ?_, mb_cls⟩
  · have e : B + i = B + j := e
    omega
  · intro p t ci fs k b off t' h1 h2 h3
    have hc := mb_ck_at h h1 h2
    have hc : fs.all (mb_ckf LAY p) = true := hc
    have := List.all_eq_true.mp hc _ (List.mem_of_getElem? (by rw [← mz_nth_eq]; exact h3))
    exact of_decide_eq_true this
  · intro p t ti n t' b off w i h1 h2 hi
    have hc := mb_ck_at h h1 h2
    have hc : (decide ((2 : Nat) = 2) == false || (List.range n).all (fun i => decide (LAY[mz_pl b p off + w * i]? = some t'))) = true := hc
    have hc : (List.range n).all (fun i => decide (LAY[mz_pl b p off + w * i]? = some t')) = true := by simpa using hc
    have hc := List.all_eq_true.mp hc i (List.mem_range.mpr hi)
    exact of_decide_eq_true hc
  · intro t ti n q hs
    have hc := ca t _ hs
    unfold mb_cka at hc
    dsimp only at hc
    rw [if_pos rfl] at hc
    exact of_decide_eq_true hc
  · intro t ti n q hs
    have hc := ca t _ hs
    unfold mb_cka at hc
    dsimp only at hc
    rw [if_neg (by decide), if_pos rfl] at hc
    exact of_decide_eq_true hc
  · intro t ti n q hs
    have hc := ca t _ hs
    unfold mb_cka at hc
    dsimp only at hc
    rw [if_neg (by decide), if_neg (by decide), if_pos rfl] at hc
    split at hc
    · next C hC => exact ⟨C, hC⟩
    · cases hc
  · intro t ti n k q hs
    have hc := ca t _ hs
    unfold mb_cka at hc
    dsimp only at hc
    by_cases h0 : k = 0
    · omega
    · by_cases h1 : k = 1
      · omega
      · by_cases h2 : k = 2
        · omega
        · rw [if_neg h0, if_neg h1, if_neg h2] at hc
          cases hc
set_option maxRecDepth 100000 in
theorem mb_TS : es_TS = es_MS.map (fun me => me.2.2.2.2.2.2.2) := rfl
theorem mb_hT : ∀ (y : Nat) (me : mz_Me), mz_nth es_MS y = some me → es_TB y = me.2.2.2.2.2.2.2 := by
  intro y me h
  rw [mz_nth_eq] at h
  unfold es_TB
  rw [mz_nth_eq, mb_TS, List.getElem?_map, h]
  rfl
theorem mb_ok0 : ∀ me ∈ [me_Math_max, me_Math_min, me_Math_abs, me_Math_floorMod, me_Leaf_hold, me_Leaf_hasItems, me_Leaf_refuse, me_Leaf_refusePairs, me_Leaf_at, me_Leaf_put, me_Leaf_begins, me_Leaf_divisor, me_Leaf_exponent, me_Leaf_weight, me_Leaf_level, me_Leaf_isLevel, me_Leaf_bound, me_Leaf_indexOf, me_Mill_result, me_Mill_reset], mz_okM lw_tbl "EtaSeries" vwCl es_MS me = true := List.forall_mem_cons.mpr ⟨ok_Math_max, List.forall_mem_cons.mpr ⟨ok_Math_min, List.forall_mem_cons.mpr ⟨ok_Math_abs, List.forall_mem_cons.mpr ⟨ok_Math_floorMod, List.forall_mem_cons.mpr ⟨ok_Leaf_hold, List.forall_mem_cons.mpr ⟨ok_Leaf_hasItems, List.forall_mem_cons.mpr ⟨ok_Leaf_refuse, List.forall_mem_cons.mpr ⟨ok_Leaf_refusePairs, List.forall_mem_cons.mpr ⟨ok_Leaf_at, List.forall_mem_cons.mpr ⟨ok_Leaf_put, List.forall_mem_cons.mpr ⟨ok_Leaf_begins, List.forall_mem_cons.mpr ⟨ok_Leaf_divisor, List.forall_mem_cons.mpr ⟨ok_Leaf_exponent, List.forall_mem_cons.mpr ⟨ok_Leaf_weight, List.forall_mem_cons.mpr ⟨ok_Leaf_level, List.forall_mem_cons.mpr ⟨ok_Leaf_isLevel, List.forall_mem_cons.mpr ⟨ok_Leaf_bound, List.forall_mem_cons.mpr ⟨ok_Leaf_indexOf, List.forall_mem_cons.mpr ⟨ok_Mill_result, List.forall_mem_cons.mpr ⟨ok_Mill_reset, fun _ h => absurd h List.not_mem_nil⟩⟩⟩⟩⟩⟩⟩⟩⟩⟩⟩⟩⟩⟩⟩⟩⟩⟩⟩⟩
theorem mb_ok1 : ∀ me ∈ [me_Mill_workSum, me_Mill_workPart, me_Mill_workPower, me_Mill_workAtom, me_Mill_combine, me_Mill_finish, me_Mill_actOf, me_Mill_workQuotient, me_Past_remember, me_Past_bringBack, me_Past_takeAll, me_Row_begin, me_Row_at, me_Row_put, me_Row_take, me_Row_become, me_Row_becomeJoined, me_Row_sum, me_Row_product, me_Row_ratio], mz_okM lw_tbl "EtaSeries" vwCl es_MS me = true := List.forall_mem_cons.mpr ⟨ok_Mill_workSum, List.forall_mem_cons.mpr ⟨ok_Mill_workPart, List.forall_mem_cons.mpr ⟨ok_Mill_workPower, List.forall_mem_cons.mpr ⟨ok_Mill_workAtom, List.forall_mem_cons.mpr ⟨ok_Mill_combine, List.forall_mem_cons.mpr ⟨ok_Mill_finish, List.forall_mem_cons.mpr ⟨ok_Mill_actOf, List.forall_mem_cons.mpr ⟨ok_Mill_workQuotient, List.forall_mem_cons.mpr ⟨ok_Past_remember, List.forall_mem_cons.mpr ⟨ok_Past_bringBack, List.forall_mem_cons.mpr ⟨ok_Past_takeAll, List.forall_mem_cons.mpr ⟨ok_Row_begin, List.forall_mem_cons.mpr ⟨ok_Row_at, List.forall_mem_cons.mpr ⟨ok_Row_put, List.forall_mem_cons.mpr ⟨ok_Row_take, List.forall_mem_cons.mpr ⟨ok_Row_become, List.forall_mem_cons.mpr ⟨ok_Row_becomeJoined, List.forall_mem_cons.mpr ⟨ok_Row_sum, List.forall_mem_cons.mpr ⟨ok_Row_product, List.forall_mem_cons.mpr ⟨ok_Row_ratio, fun _ h => absurd h List.not_mem_nil⟩⟩⟩⟩⟩⟩⟩⟩⟩⟩⟩⟩⟩⟩⟩⟩⟩⟩⟩⟩
theorem mb_ok2 : ∀ me ∈ [me_Row_becomePower, me_Row_becomeChanged, me_Row_pick, me_Shelf_take, me_Shelf_isMissing, me_Shelf_present, me_Shelf_turnDraw, me_Tape_write, me_Tape_parse, me_Tape_here, me_Tape_skipBlanks, me_Tape_digitIsHere, me_Tape_readAtom, me_Tape_readOpen, me_Tape_readFamily, me_Tape_readBehindAtom, me_Tape_readFigure, me_Tape_readNumber, me_Tape_pass, me_Tape_note], mz_okM lw_tbl "EtaSeries" vwCl es_MS me = true := List.forall_mem_cons.mpr ⟨ok_Row_becomePower, List.forall_mem_cons.mpr ⟨ok_Row_becomeChanged, List.forall_mem_cons.mpr ⟨ok_Row_pick, List.forall_mem_cons.mpr ⟨ok_Shelf_take, List.forall_mem_cons.mpr ⟨ok_Shelf_isMissing, List.forall_mem_cons.mpr ⟨ok_Shelf_present, List.forall_mem_cons.mpr ⟨ok_Shelf_turnDraw, List.forall_mem_cons.mpr ⟨ok_Tape_write, List.forall_mem_cons.mpr ⟨ok_Tape_parse, List.forall_mem_cons.mpr ⟨ok_Tape_here, List.forall_mem_cons.mpr ⟨ok_Tape_skipBlanks, List.forall_mem_cons.mpr ⟨ok_Tape_digitIsHere, List.forall_mem_cons.mpr ⟨ok_Tape_readAtom, List.forall_mem_cons.mpr ⟨ok_Tape_readOpen, List.forall_mem_cons.mpr ⟨ok_Tape_readFamily, List.forall_mem_cons.mpr ⟨ok_Tape_readBehindAtom, List.forall_mem_cons.mpr ⟨ok_Tape_readFigure, List.forall_mem_cons.mpr ⟨ok_Tape_readNumber, List.forall_mem_cons.mpr ⟨ok_Tape_pass, List.forall_mem_cons.mpr ⟨ok_Tape_note, fun _ h => absurd h List.not_mem_nil⟩⟩⟩⟩⟩⟩⟩⟩⟩⟩⟩⟩⟩⟩⟩⟩⟩⟩⟩⟩
theorem mb_ok3 : ∀ me ∈ [me_Tape_signAt, me_Tape_valueAt, me_Tape_kindOf, me_ES_make, me_ES_join, me_ES_change, me_ES_out, me_ES_length, me_ES_type, me_ES_work, me_ES_drift, me_ES_undo, me_ES_seed, me_ES_term, me_ES_count, me_ES_first, me_ES_fits, me_ES_found, me_ES_guess, me_ES_image], mz_okM lw_tbl "EtaSeries" vwCl es_MS me = true := List.forall_mem_cons.mpr ⟨ok_Tape_signAt, List.forall_mem_cons.mpr ⟨ok_Tape_valueAt, List.forall_mem_cons.mpr ⟨ok_Tape_kindOf, List.forall_mem_cons.mpr ⟨ok_ES_make, List.forall_mem_cons.mpr ⟨ok_ES_join, List.forall_mem_cons.mpr ⟨ok_ES_change, List.forall_mem_cons.mpr ⟨ok_ES_out, List.forall_mem_cons.mpr ⟨ok_ES_length, List.forall_mem_cons.mpr ⟨ok_ES_type, List.forall_mem_cons.mpr ⟨ok_ES_work, List.forall_mem_cons.mpr ⟨ok_ES_drift, List.forall_mem_cons.mpr ⟨ok_ES_undo, List.forall_mem_cons.mpr ⟨ok_ES_seed, List.forall_mem_cons.mpr ⟨ok_ES_term, List.forall_mem_cons.mpr ⟨ok_ES_count, List.forall_mem_cons.mpr ⟨ok_ES_first, List.forall_mem_cons.mpr ⟨ok_ES_fits, List.forall_mem_cons.mpr ⟨ok_ES_found, List.forall_mem_cons.mpr ⟨ok_ES_guess, List.forall_mem_cons.mpr ⟨ok_ES_image, fun _ h => absurd h List.not_mem_nil⟩⟩⟩⟩⟩⟩⟩⟩⟩⟩⟩⟩⟩⟩⟩⟩⟩⟩⟩⟩
theorem mb_ok4 : ∀ me ∈ [me_ES_restore, me_ES_told, me_ES_quotient, me_ES_wrought, me_ES_film, me_ES_sheet, me_ES_drop, me_ES_item, me_ES_copy, me_ES_isOneOfFour, me_ES_isWithin, me_ES_isPairs, me_ES_isStep, me_ES_isKind, me_ES_isChange, me_ES_isWide, me_ES_settle, me_ES_firstUnlike, me_ES_firstMisfit, me_ES_leastFitting], mz_okM lw_tbl "EtaSeries" vwCl es_MS me = true := List.forall_mem_cons.mpr ⟨ok_ES_restore, List.forall_mem_cons.mpr ⟨ok_ES_told, List.forall_mem_cons.mpr ⟨ok_ES_quotient, List.forall_mem_cons.mpr ⟨ok_ES_wrought, List.forall_mem_cons.mpr ⟨ok_ES_film, List.forall_mem_cons.mpr ⟨ok_ES_sheet, List.forall_mem_cons.mpr ⟨ok_ES_drop, List.forall_mem_cons.mpr ⟨ok_ES_item, List.forall_mem_cons.mpr ⟨ok_ES_copy, List.forall_mem_cons.mpr ⟨ok_ES_isOneOfFour, List.forall_mem_cons.mpr ⟨ok_ES_isWithin, List.forall_mem_cons.mpr ⟨ok_ES_isPairs, List.forall_mem_cons.mpr ⟨ok_ES_isStep, List.forall_mem_cons.mpr ⟨ok_ES_isKind, List.forall_mem_cons.mpr ⟨ok_ES_isChange, List.forall_mem_cons.mpr ⟨ok_ES_isWide, List.forall_mem_cons.mpr ⟨ok_ES_settle, List.forall_mem_cons.mpr ⟨ok_ES_firstUnlike, List.forall_mem_cons.mpr ⟨ok_ES_firstMisfit, List.forall_mem_cons.mpr ⟨ok_ES_leastFitting, fun _ h => absurd h List.not_mem_nil⟩⟩⟩⟩⟩⟩⟩⟩⟩⟩⟩⟩⟩⟩⟩⟩⟩⟩⟩⟩
theorem mb_ok5 : ∀ me ∈ [me_ES_chanceOfEven, me_Mo_in, me_Mo_isSeries, me_Mo_many, me_Mo_termOf, me_Mo_takesOne, me_Mo_takesTwo, me_Mo_goesOn, me_Mo_copiesToTwo, me_Mo_keeps, me_Mo_wide, me_Mo_product, me_Mo_over, me_Mo_joins, me_Mo_makes, me_Mo_euler, me_Mo_powers, me_Mo_isKind, me_Mo_make, me_Mo_join], mz_okM lw_tbl "EtaSeries" vwCl es_MS me = true := List.forall_mem_cons.mpr ⟨ok_ES_chanceOfEven, List.forall_mem_cons.mpr ⟨ok_Mo_in, List.forall_mem_cons.mpr ⟨ok_Mo_isSeries, List.forall_mem_cons.mpr ⟨ok_Mo_many, List.forall_mem_cons.mpr ⟨ok_Mo_termOf, List.forall_mem_cons.mpr ⟨ok_Mo_takesOne, List.forall_mem_cons.mpr ⟨ok_Mo_takesTwo, List.forall_mem_cons.mpr ⟨ok_Mo_goesOn, List.forall_mem_cons.mpr ⟨ok_Mo_copiesToTwo, List.forall_mem_cons.mpr ⟨ok_Mo_keeps, List.forall_mem_cons.mpr ⟨ok_Mo_wide, List.forall_mem_cons.mpr ⟨ok_Mo_product, List.forall_mem_cons.mpr ⟨ok_Mo_over, List.forall_mem_cons.mpr ⟨ok_Mo_joins, List.forall_mem_cons.mpr ⟨ok_Mo_makes, List.forall_mem_cons.mpr ⟨ok_Mo_euler, List.forall_mem_cons.mpr ⟨ok_Mo_powers, List.forall_mem_cons.mpr ⟨ok_Mo_isKind, List.forall_mem_cons.mpr ⟨ok_Mo_make, List.forall_mem_cons.mpr ⟨ok_Mo_join, fun _ h => absurd h List.not_mem_nil⟩⟩⟩⟩⟩⟩⟩⟩⟩⟩⟩⟩⟩⟩⟩⟩⟩⟩⟩⟩
theorem mb_ok6 : ∀ me ∈ [me_Mo_isChange, me_Mo_changes, me_Mo_change, me_Mo_out, me_Mo_length, me_Mo_there, me_Mo_drift, me_Mo_notes, me_Mo_undo, me_Mo_seed, me_Mo_term, me_Mo_count, me_Mo_type, me_Mo_here, me_Mo_has, me_Mo_number, me_Mo_kindOf, me_Mo_readsAtom, me_Mo_isText, me_Mo_begins], mz_okM lw_tbl "EtaSeries" vwCl es_MS me = true := List.forall_mem_cons.mpr ⟨ok_Mo_isChange, List.forall_mem_cons.mpr ⟨ok_Mo_changes, List.forall_mem_cons.mpr ⟨ok_Mo_change, List.forall_mem_cons.mpr ⟨ok_Mo_out, List.forall_mem_cons.mpr ⟨ok_Mo_length, List.forall_mem_cons.mpr ⟨ok_Mo_there, List.forall_mem_cons.mpr ⟨ok_Mo_drift, List.forall_mem_cons.mpr ⟨ok_Mo_notes, List.forall_mem_cons.mpr ⟨ok_Mo_undo, List.forall_mem_cons.mpr ⟨ok_Mo_seed, List.forall_mem_cons.mpr ⟨ok_Mo_term, List.forall_mem_cons.mpr ⟨ok_Mo_count, List.forall_mem_cons.mpr ⟨ok_Mo_type, List.forall_mem_cons.mpr ⟨ok_Mo_here, List.forall_mem_cons.mpr ⟨ok_Mo_has, List.forall_mem_cons.mpr ⟨ok_Mo_number, List.forall_mem_cons.mpr ⟨ok_Mo_kindOf, List.forall_mem_cons.mpr ⟨ok_Mo_readsAtom, List.forall_mem_cons.mpr ⟨ok_Mo_isText, List.forall_mem_cons.mpr ⟨ok_Mo_begins, fun _ h => absurd h List.not_mem_nil⟩⟩⟩⟩⟩⟩⟩⟩⟩⟩⟩⟩⟩⟩⟩⟩⟩⟩⟩⟩
theorem mb_ok7 : ∀ me ∈ [me_Mo_broke, me_Mo_lays, me_Mo_takesFrom, me_Mo_joinsPart, me_Mo_joinsSum, me_Mo_joinsAtom, me_Mo_makesAtom, me_Mo_works, me_Mo_work, me_Mo_first, me_Mo_isStep, me_Mo_failsAt, me_Mo_fits, me_Mo_found, me_Mo_guess, me_Mo_image, me_Mo_restore, me_Mo_isSheet, me_Mo_cut, me_Mo_sheet], mz_okM lw_tbl "EtaSeries" vwCl es_MS me = true := List.forall_mem_cons.mpr ⟨ok_Mo_broke, List.forall_mem_cons.mpr ⟨ok_Mo_lays, List.forall_mem_cons.mpr ⟨ok_Mo_takesFrom, List.forall_mem_cons.mpr ⟨ok_Mo_joinsPart, List.forall_mem_cons.mpr ⟨ok_Mo_joinsSum, List.forall_mem_cons.mpr ⟨ok_Mo_joinsAtom, List.forall_mem_cons.mpr ⟨ok_Mo_makesAtom, List.forall_mem_cons.mpr ⟨ok_Mo_works, List.forall_mem_cons.mpr ⟨ok_Mo_work, List.forall_mem_cons.mpr ⟨ok_Mo_first, List.forall_mem_cons.mpr ⟨ok_Mo_isStep, List.forall_mem_cons.mpr ⟨ok_Mo_failsAt, List.forall_mem_cons.mpr ⟨ok_Mo_fits, List.forall_mem_cons.mpr ⟨ok_Mo_found, List.forall_mem_cons.mpr ⟨ok_Mo_guess, List.forall_mem_cons.mpr ⟨ok_Mo_image, List.forall_mem_cons.mpr ⟨ok_Mo_restore, List.forall_mem_cons.mpr ⟨ok_Mo_isSheet, List.forall_mem_cons.mpr ⟨ok_Mo_cut, List.forall_mem_cons.mpr ⟨ok_Mo_sheet, fun _ h => absurd h List.not_mem_nil⟩⟩⟩⟩⟩⟩⟩⟩⟩⟩⟩⟩⟩⟩⟩⟩⟩⟩⟩⟩
theorem mb_ok8 : ∀ me ∈ [me_Mo_drop, me_Mo_why, me_Mo_item, me_Mo_copy, me_Mo_whyPairs, me_Mo_levelOf, me_Mo_indexOf, me_Mo_told, me_Mo_quotient, me_Mo_wrought, me_Mo_film], mz_okM lw_tbl "EtaSeries" vwCl es_MS me = true := List.forall_mem_cons.mpr ⟨ok_Mo_drop, List.forall_mem_cons.mpr ⟨ok_Mo_why, List.forall_mem_cons.mpr ⟨ok_Mo_item, List.forall_mem_cons.mpr ⟨ok_Mo_copy, List.forall_mem_cons.mpr ⟨ok_Mo_whyPairs, List.forall_mem_cons.mpr ⟨ok_Mo_levelOf, List.forall_mem_cons.mpr ⟨ok_Mo_indexOf, List.forall_mem_cons.mpr ⟨ok_Mo_told, List.forall_mem_cons.mpr ⟨ok_Mo_quotient, List.forall_mem_cons.mpr ⟨ok_Mo_wrought, List.forall_mem_cons.mpr ⟨ok_Mo_film, fun _ h => absurd h List.not_mem_nil⟩⟩⟩⟩⟩⟩⟩⟩⟩⟩⟩
set_option maxRecDepth 100000 in
theorem mb_MS : es_MS = [me_Math_max, me_Math_min, me_Math_abs, me_Math_floorMod, me_Leaf_hold, me_Leaf_hasItems, me_Leaf_refuse, me_Leaf_refusePairs, me_Leaf_at, me_Leaf_put, me_Leaf_begins, me_Leaf_divisor, me_Leaf_exponent, me_Leaf_weight, me_Leaf_level, me_Leaf_isLevel, me_Leaf_bound, me_Leaf_indexOf, me_Mill_result, me_Mill_reset] ++ ([me_Mill_workSum, me_Mill_workPart, me_Mill_workPower, me_Mill_workAtom, me_Mill_combine, me_Mill_finish, me_Mill_actOf, me_Mill_workQuotient, me_Past_remember, me_Past_bringBack, me_Past_takeAll, me_Row_begin, me_Row_at, me_Row_put, me_Row_take, me_Row_become, me_Row_becomeJoined, me_Row_sum, me_Row_product, me_Row_ratio] ++ ([me_Row_becomePower, me_Row_becomeChanged, me_Row_pick, me_Shelf_take, me_Shelf_isMissing, me_Shelf_present, me_Shelf_turnDraw, me_Tape_write, me_Tape_parse, me_Tape_here, me_Tape_skipBlanks, me_Tape_digitIsHere, me_Tape_readAtom, me_Tape_readOpen, me_Tape_readFamily, me_Tape_readBehindAtom, me_Tape_readFigure, me_Tape_readNumber, me_Tape_pass, me_Tape_note] ++ ([me_Tape_signAt, me_Tape_valueAt, me_Tape_kindOf, me_ES_make, me_ES_join, me_ES_change, me_ES_out, me_ES_length, me_ES_type, me_ES_work, me_ES_drift, me_ES_undo, me_ES_seed, me_ES_term, me_ES_count, me_ES_first, me_ES_fits, me_ES_found, me_ES_guess, me_ES_image] ++ ([me_ES_restore, me_ES_told, me_ES_quotient, me_ES_wrought, me_ES_film, me_ES_sheet, me_ES_drop, me_ES_item, me_ES_copy, me_ES_isOneOfFour, me_ES_isWithin, me_ES_isPairs, me_ES_isStep, me_ES_isKind, me_ES_isChange, me_ES_isWide, me_ES_settle, me_ES_firstUnlike, me_ES_firstMisfit, me_ES_leastFitting] ++ ([me_ES_chanceOfEven, me_Mo_in, me_Mo_isSeries, me_Mo_many, me_Mo_termOf, me_Mo_takesOne, me_Mo_takesTwo, me_Mo_goesOn, me_Mo_copiesToTwo, me_Mo_keeps, me_Mo_wide, me_Mo_product, me_Mo_over, me_Mo_joins, me_Mo_makes, me_Mo_euler, me_Mo_powers, me_Mo_isKind, me_Mo_make, me_Mo_join] ++ ([me_Mo_isChange, me_Mo_changes, me_Mo_change, me_Mo_out, me_Mo_length, me_Mo_there, me_Mo_drift, me_Mo_notes, me_Mo_undo, me_Mo_seed, me_Mo_term, me_Mo_count, me_Mo_type, me_Mo_here, me_Mo_has, me_Mo_number, me_Mo_kindOf, me_Mo_readsAtom, me_Mo_isText, me_Mo_begins] ++ ([me_Mo_broke, me_Mo_lays, me_Mo_takesFrom, me_Mo_joinsPart, me_Mo_joinsSum, me_Mo_joinsAtom, me_Mo_makesAtom, me_Mo_works, me_Mo_work, me_Mo_first, me_Mo_isStep, me_Mo_failsAt, me_Mo_fits, me_Mo_found, me_Mo_guess, me_Mo_image, me_Mo_restore, me_Mo_isSheet, me_Mo_cut, me_Mo_sheet] ++ ([me_Mo_drop, me_Mo_why, me_Mo_item, me_Mo_copy, me_Mo_whyPairs, me_Mo_levelOf, me_Mo_indexOf, me_Mo_told, me_Mo_quotient, me_Mo_wrought, me_Mo_film])))))))) := rfl
set_option maxRecDepth 100000 in
theorem mb_hM : ∀ (y : Nat) (me : mz_Me), mz_nth es_MS y = some me → mz_okM lw_tbl "EtaSeries" vwCl es_MS me = true := by
  intro y me h
  have h1 : me ∈ es_MS := List.mem_of_getElem? (by rw [← mz_nth_eq]; exact h)
  have h2 : ∀ me ∈ [me_Math_max, me_Math_min, me_Math_abs, me_Math_floorMod, me_Leaf_hold, me_Leaf_hasItems, me_Leaf_refuse, me_Leaf_refusePairs, me_Leaf_at, me_Leaf_put, me_Leaf_begins, me_Leaf_divisor, me_Leaf_exponent, me_Leaf_weight, me_Leaf_level, me_Leaf_isLevel, me_Leaf_bound, me_Leaf_indexOf, me_Mill_result, me_Mill_reset] ++ ([me_Mill_workSum, me_Mill_workPart, me_Mill_workPower, me_Mill_workAtom, me_Mill_combine, me_Mill_finish, me_Mill_actOf, me_Mill_workQuotient, me_Past_remember, me_Past_bringBack, me_Past_takeAll, me_Row_begin, me_Row_at, me_Row_put, me_Row_take, me_Row_become, me_Row_becomeJoined, me_Row_sum, me_Row_product, me_Row_ratio] ++ ([me_Row_becomePower, me_Row_becomeChanged, me_Row_pick, me_Shelf_take, me_Shelf_isMissing, me_Shelf_present, me_Shelf_turnDraw, me_Tape_write, me_Tape_parse, me_Tape_here, me_Tape_skipBlanks, me_Tape_digitIsHere, me_Tape_readAtom, me_Tape_readOpen, me_Tape_readFamily, me_Tape_readBehindAtom, me_Tape_readFigure, me_Tape_readNumber, me_Tape_pass, me_Tape_note] ++ ([me_Tape_signAt, me_Tape_valueAt, me_Tape_kindOf, me_ES_make, me_ES_join, me_ES_change, me_ES_out, me_ES_length, me_ES_type, me_ES_work, me_ES_drift, me_ES_undo, me_ES_seed, me_ES_term, me_ES_count, me_ES_first, me_ES_fits, me_ES_found, me_ES_guess, me_ES_image] ++ ([me_ES_restore, me_ES_told, me_ES_quotient, me_ES_wrought, me_ES_film, me_ES_sheet, me_ES_drop, me_ES_item, me_ES_copy, me_ES_isOneOfFour, me_ES_isWithin, me_ES_isPairs, me_ES_isStep, me_ES_isKind, me_ES_isChange, me_ES_isWide, me_ES_settle, me_ES_firstUnlike, me_ES_firstMisfit, me_ES_leastFitting] ++ ([me_ES_chanceOfEven, me_Mo_in, me_Mo_isSeries, me_Mo_many, me_Mo_termOf, me_Mo_takesOne, me_Mo_takesTwo, me_Mo_goesOn, me_Mo_copiesToTwo, me_Mo_keeps, me_Mo_wide, me_Mo_product, me_Mo_over, me_Mo_joins, me_Mo_makes, me_Mo_euler, me_Mo_powers, me_Mo_isKind, me_Mo_make, me_Mo_join] ++ ([me_Mo_isChange, me_Mo_changes, me_Mo_change, me_Mo_out, me_Mo_length, me_Mo_there, me_Mo_drift, me_Mo_notes, me_Mo_undo, me_Mo_seed, me_Mo_term, me_Mo_count, me_Mo_type, me_Mo_here, me_Mo_has, me_Mo_number, me_Mo_kindOf, me_Mo_readsAtom, me_Mo_isText, me_Mo_begins] ++ ([me_Mo_broke, me_Mo_lays, me_Mo_takesFrom, me_Mo_joinsPart, me_Mo_joinsSum, me_Mo_joinsAtom, me_Mo_makesAtom, me_Mo_works, me_Mo_work, me_Mo_first, me_Mo_isStep, me_Mo_failsAt, me_Mo_fits, me_Mo_found, me_Mo_guess, me_Mo_image, me_Mo_restore, me_Mo_isSheet, me_Mo_cut, me_Mo_sheet] ++ ([me_Mo_drop, me_Mo_why, me_Mo_item, me_Mo_copy, me_Mo_whyPairs, me_Mo_levelOf, me_Mo_indexOf, me_Mo_told, me_Mo_quotient, me_Mo_wrought, me_Mo_film])))))))), mz_okM lw_tbl "EtaSeries" vwCl es_MS me = true := List.forall_mem_append.mpr ⟨mb_ok0, List.forall_mem_append.mpr ⟨mb_ok1, List.forall_mem_append.mpr ⟨mb_ok2, List.forall_mem_append.mpr ⟨mb_ok3, List.forall_mem_append.mpr ⟨mb_ok4, List.forall_mem_append.mpr ⟨mb_ok5, List.forall_mem_append.mpr ⟨mb_ok6, List.forall_mem_append.mpr ⟨mb_ok7, mb_ok8⟩⟩⟩⟩⟩⟩⟩⟩
  exact h2 me (by rw [← mb_MS]; exact h1)
/-- how both begin -/
def mb_A0 : es_A := ((fun _ => [], 24, 1), [], none, [], (-1000004, -1000004), fun _ => none)
theorem mb_okn : es_ok [] := ⟨Nat.zero_le _, fun k hk => absurd hk (Nat.not_lt_zero k)⟩
theorem mb_row0 {p : Nat} (h : mb_mu.1 p 1 = 0) : es_row mb_mu p [] := ⟨mb_okn, h, fun k hk => absurd hk (Nat.not_lt_zero k)⟩
theorem mb_z : ∀ q, q < 212 → (es_LC.getD q 0 = 3 → mb_mu.1 q 1 = 0) ∧ (es_LC.getD q 0 = 1 → mb_mu.1 q 1 = 24 ∧ mb_mu.1 q 2 = 1) := by
  intro q _
  refine ⟨fun h => by rw [mb_mu_at h]; rfl, fun h => by rw [mb_mu_at h]; exact ⟨rfl, rfl⟩⟩
theorem mb_sh0 {q : Nat} (hq : q < 200) (h : ∀ i, i < 10 → es_LC.getD (q + i) 0 = mb_ls.getD i 0) : es_sh mb_mu q (fun _ => [], 24, 1) := by
  have h0 := (mb_z q (by omega)).2 (h 0 (by decide))
  refine ⟨fun s hs => mb_row0 ((mb_z _ (by omega)).1 ?_), h0.1, h0.2, by decide, by decide, by decide +kernel⟩
  have := h (2 + 2 * s) (by omega)
  rw [show q + 1 + 1 + 2 * s = q + (2 + 2 * s) by omega, this]
  rcases (show s = 0 ∨ s = 1 ∨ s = 2 ∨ s = 3 by omega) with rfl | rfl | rfl | rfl <;> rfl
theorem mb_C0 : es_C mb_mu mb_A0 := by
  refine ⟨mb_sh0 (by decide) (by decide +kernel), ⟨0, fun _ => (fun _ => [], 24, 1), by decide, Nat.zero_le _, by decide +kernel, by decide +kernel, fun i hi => mb_sh0 (by omega) ?_, fun i hi => absurd hi (Nat.not_lt_zero i)⟩, by show mb_mu.1 0 4 = 0; decide +kernel, ⟨Nat.zero_le _, by decide +kernel, fun k hk => absurd hk (Nat.not_lt_zero k)⟩, ⟨by decide +kernel, by decide +kernel⟩, fun k hk => ?_⟩
  · rcases (show i = 0 ∨ i = 1 ∨ i = 2 ∨ i = 3 ∨ i = 4 ∨ i = 5 by omega) with rfl | rfl | rfl | rfl | rfl | rfl <;> decide +kernel
  · rcases (show k = 0 ∨ k = 1 ∨ k = 2 ∨ k = 3 by omega) with rfl | rfl | rfl | rfl
    · show mb_mu.1 204 1 = 0; decide +kernel
    · show mb_mu.1 206 1 = 0; decide +kernel
    · show mb_mu.1 208 1 = 0; decide +kernel
    · show mb_mu.1 210 1 = 0; decide +kernel
theorem mb_M0 : es_M mb_muM mb_A0 := by
  refine ⟨⟨by decide +kernel, by decide +kernel, ⟨by decide, by decide⟩, by decide +kernel, fun s hs => ⟨mb_okn, ?_, fun k hk => absurd hk (Nat.not_lt_zero k)⟩⟩, ⟨Nat.zero_le _, by decide +kernel, fun j S hj => ?_⟩, ?_, ⟨Nat.zero_le _, by decide +kernel, fun k hk => absurd hk (Nat.not_lt_zero k)⟩, ⟨by decide +kernel, by decide +kernel⟩, fun k hk => ?_⟩
  · rcases (show s = 0 ∨ s = 1 ∨ s = 2 ∨ s = 3 by omega) with rfl | rfl | rfl | rfl <;> decide +kernel
  · cases hj
  · show (mb_muM.1 0 23).toInt < 0
    decide +kernel
  · rcases (show k = 0 ∨ k = 1 ∨ k = 2 ∨ k = 3 by omega) with rfl | rfl | rfl | rfl
    · show (mb_muM.1 13 0).toInt < 0; decide +kernel
    · show (mb_muM.1 13 1).toInt < 0; decide +kernel
    · show (mb_muM.1 13 2).toInt < 0; decide +kernel
    · show (mb_muM.1 13 3).toInt < 0; decide +kernel
