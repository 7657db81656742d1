/-! The law's cases. -/
set_option maxHeartbeats 4000000 in
theorem lw_c18 {p : Program} {l : Launch} {e : Env} {s : State} {m : MethodId} {below : List Frame} {meth : Method} {c : Code} {H : Heap} {locs : List Loc} {Q : State → Prop} {D : va_G} {cA : Nat → ClassId} {ls : Array Slot} {b L i : Nat} {xs : Nat → Int32} {A : es_A} (C : mb_C p s m #[Value.ref b] c D cA code R_law) (hml : c.maxLocals = 4) (hX : va_X b L xs s s.heap) (hbl : b < s.heap.size) (hL : L ≤ 3584) (hi : i + 7 ≤ L) (hl : lv_has ls 4 [(3, .int (nI i)), (2, .ref (s.heap.size + 212)), (1, .ref s.heap.size), (0, .ref b)]) (S : lw_St D cA s H locs A)
    (kk : ∀ (H : Heap) (locs : List Loc) (A : es_A), lw_St D cA s H locs A → W p l e room_1 s m #[Value.ref b] below meth c H locs 229 7239 Q (F0 m 1182 ls [])) : W p l e room_1 s m #[Value.ref b] below meth c H locs 229 7239 Q (F0 m 716 ls []) := by
  obtain ⟨hx, hb, hown, gw, hK, hN, hO⟩ := id C
  obtain ⟨μ1, μ2, hc, hm, hP1, hP2, hS⟩ := S
  have h0 := lv_at hl 3 rfl
  have h3 := lv_at hl 0 rfl
  refine lv_aload_n hx hb dL_716 rfl (lv_at hl 2 rfl) ?_
  refine lw_ld (k := 1) hx hb hX hbl hS h0 h3 hi hL (by decide) (by decide) dL_717 dL_718 dL_719 (by decide +kernel) dL_720 dL_721 ?_
  refine lw_ld (k := 2) hx hb hX hbl hS h0 h3 hi hL (by decide) (by decide) dL_722 dL_723 dL_724 (by decide +kernel) dL_725 dL_726 ?_
  refine lw_ld (k := 3) hx hb hX hbl hS h0 h3 hi hL (by decide) (by decide) dL_727 dL_728 dL_729 (by decide +kernel) dL_730 dL_731 ?_
  refine lw_ld (k := 4) hx hb hX hbl hS h0 h3 hi hL (by decide) (by decide) dL_732 dL_733 dL_734 (by decide +kernel) dL_735 dL_736 ?_
  refine lw_ld (k := 5) hx hb hX hbl hS h0 h3 hi hL (by decide) (by decide) dL_737 dL_738 dL_739 (by decide +kernel) dL_740 dL_741 ?_
  obtain ⟨r1, μ3, hR1, hr1, hc1⟩ := c_told 0 hc ((xs (i + 1))) ((xs (i + 2))) ((xs (i + 3))) ((xs (i + 4))) ((xs (i + 5)))
  refine lw_call1 (d := 0 + 6) (y := n_ES_told) (me := me_ES_told) (as := [mz_I (xs (i + 1)), mz_I (xs (i + 2)), mz_I (xs (i + 3)), mz_I (xs (i + 4)), mz_I (xs (i + 5))]) (rest := []) C hml hl.1 hP1 hP2 hS hR1 rfl rfl rfl rfl rfl (Nat.le_of_ble_eq_true rfl) (show Cond.methodLink R_law 91 me_ES_told.1 ∈ lw_tbl by decide +kernel) (Nat.le_of_ble_eq_true rfl) (Nat.le_of_ble_eq_true rfl) dL_742 (fun H locs hP1 hP2 hS => ?_)
  refine lv_aload_n hx hb dL_745 rfl (lv_at hl 1 rfl) ?_
  refine lw_ld (k := 1) hx hb hX hbl hS h0 h3 hi hL (by decide) (by decide) dL_746 dL_747 dL_748 (by decide +kernel) dL_749 dL_750 ?_
  refine lw_ld (k := 2) hx hb hX hbl hS h0 h3 hi hL (by decide) (by decide) dL_751 dL_752 dL_753 (by decide +kernel) dL_754 dL_755 ?_
  refine lw_ld (k := 3) hx hb hX hbl hS h0 h3 hi hL (by decide) (by decide) dL_756 dL_757 dL_758 (by decide +kernel) dL_759 dL_760 ?_
  refine lw_ld (k := 4) hx hb hX hbl hS h0 h3 hi hL (by decide) (by decide) dL_761 dL_762 dL_763 (by decide +kernel) dL_764 dL_765 ?_
  refine lw_ld (k := 5) hx hb hX hbl hS h0 h3 hi hL (by decide) (by decide) dL_766 dL_767 dL_768 (by decide +kernel) dL_769 dL_770 ?_
  obtain ⟨r2, μ4, hR2, hr2, hm1⟩ := q_told 0 hm ((xs (i + 1))) ((xs (i + 2))) ((xs (i + 3))) ((xs (i + 4))) ((xs (i + 5)))
  refine lw_call2 (d := 0 + 3) (y := n_Mo_told) (me := me_Mo_told) (as := [mz_I (xs (i + 1)), mz_I (xs (i + 2)), mz_I (xs (i + 3)), mz_I (xs (i + 4)), mz_I (xs (i + 5))]) (rest := [.int r1]) C hml hl.1 hP1 hP2 hS hR2 rfl rfl rfl rfl rfl (Nat.le_of_ble_eq_true rfl) (show Cond.methodLink R_law 94 me_Mo_told.1 ∈ lw_tbl by decide +kernel) (Nat.le_of_ble_eq_true rfl) (Nat.le_of_ble_eq_true rfl) dL_771 (fun H locs hP1 hP2 hS => ?_)
  exact lv_icmp_eq (tgt := 1182) hx hb dL_774 (by decide) (fun _ => kk H locs _ ⟨μ3, μ4, hc1, hm1, hP1, hP2, hS⟩) (fun q => absurd (hr1.trans hr2.symm) q)
set_option maxHeartbeats 4000000 in
theorem lw_c19 {p : Program} {l : Launch} {e : Env} {s : State} {m : MethodId} {below : List Frame} {meth : Method} {c : Code} {H : Heap} {locs : List Loc} {Q : State → Prop} {D : va_G} {cA : Nat → ClassId} {ls : Array Slot} {b L i : Nat} {xs : Nat → Int32} {A : es_A} (C : mb_C p s m #[Value.ref b] c D cA code R_law) (hml : c.maxLocals = 4) (hX : va_X b L xs s s.heap) (hbl : b < s.heap.size) (hL : L ≤ 3584) (hi : i + 7 ≤ L) (hl : lv_has ls 4 [(3, .int (nI i)), (2, .ref (s.heap.size + 212)), (1, .ref s.heap.size), (0, .ref b)]) (S : lw_St D cA s H locs A)
    (kk : ∀ (H : Heap) (locs : List Loc) (A : es_A), lw_St D cA s H locs A → W p l e room_1 s m #[Value.ref b] below meth c H locs 229 7239 Q (F0 m 1182 ls [])) : W p l e room_1 s m #[Value.ref b] below meth c H locs 229 7239 Q (F0 m 779 ls []) := by
  obtain ⟨hx, hb, hown, gw, hK, hN, hO⟩ := id C
  obtain ⟨μ1, μ2, hc, hm, hP1, hP2, hS⟩ := S
  have h0 := lv_at hl 3 rfl
  have h3 := lv_at hl 0 rfl
  refine lv_aload_n hx hb dL_779 rfl (lv_at hl 2 rfl) ?_
  refine lw_ld (k := 1) hx hb hX hbl hS h0 h3 hi hL (by decide) (by decide) dL_780 dL_781 dL_782 (by decide +kernel) dL_783 dL_784 ?_
  refine lw_ld (k := 2) hx hb hX hbl hS h0 h3 hi hL (by decide) (by decide) dL_785 dL_786 dL_787 (by decide +kernel) dL_788 dL_789 ?_
  refine lw_ld (k := 3) hx hb hX hbl hS h0 h3 hi hL (by decide) (by decide) dL_790 dL_791 dL_792 (by decide +kernel) dL_793 dL_794 ?_
  refine lw_ld (k := 4) hx hb hX hbl hS h0 h3 hi hL (by decide) (by decide) dL_795 dL_796 dL_797 (by decide +kernel) dL_798 dL_799 ?_
  refine lw_ld (k := 5) hx hb hX hbl hS h0 h3 hi hL (by decide) (by decide) dL_800 dL_801 dL_802 (by decide +kernel) dL_803 dL_804 ?_
  obtain ⟨r1, μ3, hR1, hr1, hc1⟩ := c_quotient 0 hc ((xs (i + 1))) ((xs (i + 2))) ((xs (i + 3))) ((xs (i + 4))) ((xs (i + 5)))
  refine lw_call1 (d := 0 + 6) (y := n_ES_quotient) (me := me_ES_quotient) (as := [mz_I (xs (i + 1)), mz_I (xs (i + 2)), mz_I (xs (i + 3)), mz_I (xs (i + 4)), mz_I (xs (i + 5))]) (rest := []) C hml hl.1 hP1 hP2 hS hR1 rfl rfl rfl rfl rfl (Nat.le_of_ble_eq_true rfl) (show Cond.methodLink R_law 95 me_ES_quotient.1 ∈ lw_tbl by decide +kernel) (Nat.le_of_ble_eq_true rfl) (Nat.le_of_ble_eq_true rfl) dL_805 (fun H locs hP1 hP2 hS => ?_)
  refine lv_aload_n hx hb dL_808 rfl (lv_at hl 1 rfl) ?_
  refine lw_ld (k := 1) hx hb hX hbl hS h0 h3 hi hL (by decide) (by decide) dL_809 dL_810 dL_811 (by decide +kernel) dL_812 dL_813 ?_
  refine lw_ld (k := 2) hx hb hX hbl hS h0 h3 hi hL (by decide) (by decide) dL_814 dL_815 dL_816 (by decide +kernel) dL_817 dL_818 ?_
  refine lw_ld (k := 3) hx hb hX hbl hS h0 h3 hi hL (by decide) (by decide) dL_819 dL_820 dL_821 (by decide +kernel) dL_822 dL_823 ?_
  refine lw_ld (k := 4) hx hb hX hbl hS h0 h3 hi hL (by decide) (by decide) dL_824 dL_825 dL_826 (by decide +kernel) dL_827 dL_828 ?_
  refine lw_ld (k := 5) hx hb hX hbl hS h0 h3 hi hL (by decide) (by decide) dL_829 dL_830 dL_831 (by decide +kernel) dL_832 dL_833 ?_
  obtain ⟨r2, μ4, hR2, hr2, hm1⟩ := q_quotient 0 hm ((xs (i + 1))) ((xs (i + 2))) ((xs (i + 3))) ((xs (i + 4))) ((xs (i + 5)))
  refine lw_call2 (d := 0 + 4) (y := n_Mo_quotient) (me := me_Mo_quotient) (as := [mz_I (xs (i + 1)), mz_I (xs (i + 2)), mz_I (xs (i + 3)), mz_I (xs (i + 4)), mz_I (xs (i + 5))]) (rest := [.int r1]) C hml hl.1 hP1 hP2 hS hR2 rfl rfl rfl rfl rfl (Nat.le_of_ble_eq_true rfl) (show Cond.methodLink R_law 98 me_Mo_quotient.1 ∈ lw_tbl by decide +kernel) (Nat.le_of_ble_eq_true rfl) (Nat.le_of_ble_eq_true rfl) dL_834 (fun H locs hP1 hP2 hS => ?_)
  exact lv_icmp_eq (tgt := 1182) hx hb dL_837 (by decide) (fun _ => kk H locs _ ⟨μ3, μ4, hc1, hm1, hP1, hP2, hS⟩) (fun q => absurd (hr1.trans hr2.symm) q)
set_option maxHeartbeats 4000000 in
theorem lw_c20 {p : Program} {l : Launch} {e : Env} {s : State} {m : MethodId} {below : List Frame} {meth : Method} {c : Code} {H : Heap} {locs : List Loc} {Q : State → Prop} {D : va_G} {cA : Nat → ClassId} {ls : Array Slot} {b L i : Nat} {xs : Nat → Int32} {A : es_A} (C : mb_C p s m #[Value.ref b] c D cA code R_law) (hml : c.maxLocals = 4) (hX : va_X b L xs s s.heap) (hbl : b < s.heap.size) (hL : L ≤ 3584) (hi : i + 7 ≤ L) (hl : lv_has ls 4 [(3, .int (nI i)), (2, .ref (s.heap.size + 212)), (1, .ref s.heap.size), (0, .ref b)]) (S : lw_St D cA s H locs A)
    (kk : ∀ (H : Heap) (locs : List Loc) (A : es_A), lw_St D cA s H locs A → W p l e room_1 s m #[Value.ref b] below meth c H locs 229 7239 Q (F0 m 1182 ls [])) : W p l e room_1 s m #[Value.ref b] below meth c H locs 229 7239 Q (F0 m 842 ls []) := by
  obtain ⟨hx, hb, hown, gw, hK, hN, hO⟩ := id C
  obtain ⟨μ1, μ2, hc, hm, hP1, hP2, hS⟩ := S
  have h0 := lv_at hl 3 rfl
  have h3 := lv_at hl 0 rfl
  refine lv_aload_n hx hb dL_842 rfl (lv_at hl 2 rfl) ?_
  refine lw_ld (k := 1) hx hb hX hbl hS h0 h3 hi hL (by decide) (by decide) dL_843 dL_844 dL_845 (by decide +kernel) dL_846 dL_847 ?_
  refine lw_ld (k := 2) hx hb hX hbl hS h0 h3 hi hL (by decide) (by decide) dL_848 dL_849 dL_850 (by decide +kernel) dL_851 dL_852 ?_
  refine lw_ld (k := 3) hx hb hX hbl hS h0 h3 hi hL (by decide) (by decide) dL_853 dL_854 dL_855 (by decide +kernel) dL_856 dL_857 ?_
  refine lw_ld (k := 4) hx hb hX hbl hS h0 h3 hi hL (by decide) (by decide) dL_858 dL_859 dL_860 (by decide +kernel) dL_861 dL_862 ?_
  refine lw_ld (k := 5) hx hb hX hbl hS h0 h3 hi hL (by decide) (by decide) dL_863 dL_864 dL_865 (by decide +kernel) dL_866 dL_867 ?_
  refine lw_ldb (k := 6) hx hb hX hbl hS h0 h3 hi hL (by decide) (by decide) dL_868 dL_869 dL_870 (by decide +kernel) dL_872 dL_873 ?_
  obtain ⟨r1, μ3, hR1, hr1, hc1⟩ := c_wrought 0 hc ((xs (i + 1))) ((xs (i + 2))) ((xs (i + 3))) ((xs (i + 4))) ((xs (i + 5))) ((xs (i + 6)))
  refine lw_call1 (d := 0 + 5) (y := n_ES_wrought) (me := me_ES_wrought) (as := [mz_I (xs (i + 1)), mz_I (xs (i + 2)), mz_I (xs (i + 3)), mz_I (xs (i + 4)), mz_I (xs (i + 5)), mz_I (xs (i + 6))]) (rest := []) C hml hl.1 hP1 hP2 hS hR1 rfl rfl rfl rfl rfl (Nat.le_of_ble_eq_true rfl) (show Cond.methodLink R_law 99 me_ES_wrought.1 ∈ lw_tbl by decide +kernel) (Nat.le_of_ble_eq_true rfl) (Nat.le_of_ble_eq_true rfl) dL_874 (fun H locs hP1 hP2 hS => ?_)
  refine lv_aload_n hx hb dL_877 rfl (lv_at hl 1 rfl) ?_
  refine lw_ld (k := 1) hx hb hX hbl hS h0 h3 hi hL (by decide) (by decide) dL_878 dL_879 dL_880 (by decide +kernel) dL_881 dL_882 ?_
  refine lw_ld (k := 2) hx hb hX hbl hS h0 h3 hi hL (by decide) (by decide) dL_883 dL_884 dL_885 (by decide +kernel) dL_886 dL_887 ?_
  refine lw_ld (k := 3) hx hb hX hbl hS h0 h3 hi hL (by decide) (by decide) dL_888 dL_889 dL_890 (by decide +kernel) dL_891 dL_892 ?_
  refine lw_ld (k := 4) hx hb hX hbl hS h0 h3 hi hL (by decide) (by decide) dL_893 dL_894 dL_895 (by decide +kernel) dL_896 dL_897 ?_
  refine lw_ld (k := 5) hx hb hX hbl hS h0 h3 hi hL (by decide) (by decide) dL_898 dL_899 dL_900 (by decide +kernel) dL_901 dL_902 ?_
  refine lw_ldb (k := 6) hx hb hX hbl hS h0 h3 hi hL (by decide) (by decide) dL_903 dL_904 dL_905 (by decide +kernel) dL_907 dL_908 ?_
  obtain ⟨r2, μ4, hR2, hr2, hm1⟩ := q_wrought 0 hm ((xs (i + 1))) ((xs (i + 2))) ((xs (i + 3))) ((xs (i + 4))) ((xs (i + 5))) ((xs (i + 6)))
  refine lw_call2 (d := 0 + 4) (y := n_Mo_wrought) (me := me_Mo_wrought) (as := [mz_I (xs (i + 1)), mz_I (xs (i + 2)), mz_I (xs (i + 3)), mz_I (xs (i + 4)), mz_I (xs (i + 5)), mz_I (xs (i + 6))]) (rest := [.int r1]) C hml hl.1 hP1 hP2 hS hR2 rfl rfl rfl rfl rfl (Nat.le_of_ble_eq_true rfl) (show Cond.methodLink R_law 103 me_Mo_wrought.1 ∈ lw_tbl by decide +kernel) (Nat.le_of_ble_eq_true rfl) (Nat.le_of_ble_eq_true rfl) dL_909 (fun H locs hP1 hP2 hS => ?_)
  exact lv_icmp_eq (tgt := 1182) hx hb dL_912 (by decide) (fun _ => kk H locs _ ⟨μ3, μ4, hc1, hm1, hP1, hP2, hS⟩) (fun q => absurd (hr1.trans hr2.symm) q)
set_option maxHeartbeats 4000000 in
theorem lw_c21 {p : Program} {l : Launch} {e : Env} {s : State} {m : MethodId} {below : List Frame} {meth : Method} {c : Code} {H : Heap} {locs : List Loc} {Q : State → Prop} {D : va_G} {cA : Nat → ClassId} {ls : Array Slot} {b L i : Nat} {xs : Nat → Int32} {A : es_A} (C : mb_C p s m #[Value.ref b] c D cA code R_law) (hml : c.maxLocals = 4) (hX : va_X b L xs s s.heap) (hbl : b < s.heap.size) (hL : L ≤ 3584) (hi : i + 7 ≤ L) (hl : lv_has ls 4 [(3, .int (nI i)), (2, .ref (s.heap.size + 212)), (1, .ref s.heap.size), (0, .ref b)]) (S : lw_St D cA s H locs A)
    (kk : ∀ (H : Heap) (locs : List Loc) (A : es_A), lw_St D cA s H locs A → W p l e room_1 s m #[Value.ref b] below meth c H locs 229 7239 Q (F0 m 1182 ls [])) : W p l e room_1 s m #[Value.ref b] below meth c H locs 229 7239 Q (F0 m 917 ls []) := by
  obtain ⟨hx, hb, hown, gw, hK, hN, hO⟩ := id C
  obtain ⟨μ1, μ2, hc, hm, hP1, hP2, hS⟩ := S
  have h0 := lv_at hl 3 rfl
  have h3 := lv_at hl 0 rfl
  refine lv_aload_n hx hb dL_917 rfl (lv_at hl 2 rfl) ?_
  refine lw_ld (k := 1) hx hb hX hbl hS h0 h3 hi hL (by decide) (by decide) dL_918 dL_919 dL_920 (by decide +kernel) dL_921 dL_922 ?_
  refine lw_ld (k := 2) hx hb hX hbl hS h0 h3 hi hL (by decide) (by decide) dL_923 dL_924 dL_925 (by decide +kernel) dL_926 dL_927 ?_
  refine lw_ld (k := 3) hx hb hX hbl hS h0 h3 hi hL (by decide) (by decide) dL_928 dL_929 dL_930 (by decide +kernel) dL_931 dL_932 ?_
  refine lw_ld (k := 4) hx hb hX hbl hS h0 h3 hi hL (by decide) (by decide) dL_933 dL_934 dL_935 (by decide +kernel) dL_936 dL_937 ?_
  obtain ⟨r1, μ3, hR1, hr1, hc1⟩ := c_film 0 hc ((xs (i + 1))) ((xs (i + 2))) ((xs (i + 3))) ((xs (i + 4)))
  refine lw_call1 (d := 0 + 3) (y := n_ES_film) (me := me_ES_film) (as := [mz_I (xs (i + 1)), mz_I (xs (i + 2)), mz_I (xs (i + 3)), mz_I (xs (i + 4))]) (rest := []) C hml hl.1 hP1 hP2 hS hR1 rfl rfl rfl rfl rfl (Nat.le_of_ble_eq_true rfl) (show Cond.methodLink R_law 104 me_ES_film.1 ∈ lw_tbl by decide +kernel) (Nat.le_of_ble_eq_true rfl) (Nat.le_of_ble_eq_true rfl) dL_938 (fun H locs hP1 hP2 hS => ?_)
  refine lv_aload_n hx hb dL_941 rfl (lv_at hl 1 rfl) ?_
  refine lw_ld (k := 1) hx hb hX hbl hS h0 h3 hi hL (by decide) (by decide) dL_942 dL_943 dL_944 (by decide +kernel) dL_945 dL_946 ?_
  refine lw_ld (k := 2) hx hb hX hbl hS h0 h3 hi hL (by decide) (by decide) dL_947 dL_948 dL_949 (by decide +kernel) dL_950 dL_951 ?_
  refine lw_ld (k := 3) hx hb hX hbl hS h0 h3 hi hL (by decide) (by decide) dL_952 dL_953 dL_954 (by decide +kernel) dL_955 dL_956 ?_
  refine lw_ld (k := 4) hx hb hX hbl hS h0 h3 hi hL (by decide) (by decide) dL_957 dL_958 dL_959 (by decide +kernel) dL_960 dL_961 ?_
  obtain ⟨r2, μ4, hR2, hr2, hm1⟩ := q_film 0 hm ((xs (i + 1))) ((xs (i + 2))) ((xs (i + 3))) ((xs (i + 4)))
  refine lw_call2 (d := 0 + 3) (y := n_Mo_film) (me := me_Mo_film) (as := [mz_I (xs (i + 1)), mz_I (xs (i + 2)), mz_I (xs (i + 3)), mz_I (xs (i + 4))]) (rest := [.int r1]) C hml hl.1 hP1 hP2 hS hR2 rfl rfl rfl rfl rfl (Nat.le_of_ble_eq_true rfl) (show Cond.methodLink R_law 107 me_Mo_film.1 ∈ lw_tbl by decide +kernel) (Nat.le_of_ble_eq_true rfl) (Nat.le_of_ble_eq_true rfl) dL_962 (fun H locs hP1 hP2 hS => ?_)
  exact lv_icmp_eq (tgt := 1182) hx hb dL_965 (by decide) (fun _ => kk H locs _ ⟨μ3, μ4, hc1, hm1, hP1, hP2, hS⟩) (fun q => absurd (hr1.trans hr2.symm) q)
set_option maxHeartbeats 4000000 in
theorem lw_c22 {p : Program} {l : Launch} {e : Env} {s : State} {m : MethodId} {below : List Frame} {meth : Method} {c : Code} {H : Heap} {locs : List Loc} {Q : State → Prop} {D : va_G} {cA : Nat → ClassId} {ls : Array Slot} {b L i : Nat} {xs : Nat → Int32} {A : es_A} (C : mb_C p s m #[Value.ref b] c D cA code R_law) (hml : c.maxLocals = 4) (hX : va_X b L xs s s.heap) (hbl : b < s.heap.size) (hL : L ≤ 3584) (hi : i + 7 ≤ L) (hl : lv_has ls 4 [(3, .int (nI i)), (2, .ref (s.heap.size + 212)), (1, .ref s.heap.size), (0, .ref b)]) (S : lw_St D cA s H locs A)
    (kk : ∀ (H : Heap) (locs : List Loc) (A : es_A), lw_St D cA s H locs A → W p l e room_1 s m #[Value.ref b] below meth c H locs 229 7239 Q (F0 m 1182 ls [])) : W p l e room_1 s m #[Value.ref b] below meth c H locs 229 7239 Q (F0 m 970 ls []) := by
  obtain ⟨hx, hb, hown, gw, hK, hN, hO⟩ := id C
  obtain ⟨μ1, μ2, hc, hm, hP1, hP2, hS⟩ := S
  have h0 := lv_at hl 3 rfl
  have h3 := lv_at hl 0 rfl
  refine lv_aload_n hx hb dL_970 rfl (lv_at hl 2 rfl) ?_
  refine lw_ld (k := 1) hx hb hX hbl hS h0 h3 hi hL (by decide) (by decide) dL_971 dL_972 dL_973 (by decide +kernel) dL_974 dL_975 ?_
  refine lw_ld (k := 2) hx hb hX hbl hS h0 h3 hi hL (by decide) (by decide) dL_976 dL_977 dL_978 (by decide +kernel) dL_979 dL_980 ?_
  refine lw_ld (k := 3) hx hb hX hbl hS h0 h3 hi hL (by decide) (by decide) dL_981 dL_982 dL_983 (by decide +kernel) dL_984 dL_985 ?_
  obtain ⟨r1, μ3, hR1, hr1, hc1⟩ := c_sheet 0 hc ((xs (i + 1))) ((xs (i + 2))) ((xs (i + 3)))
  refine lw_call1 (d := 0 + 3) (y := n_ES_sheet) (me := me_ES_sheet) (as := [mz_I (xs (i + 1)), mz_I (xs (i + 2)), mz_I (xs (i + 3))]) (rest := []) C hml hl.1 hP1 hP2 hS hR1 rfl rfl rfl rfl rfl (Nat.le_of_ble_eq_true rfl) (show Cond.methodLink R_law 108 me_ES_sheet.1 ∈ lw_tbl by decide +kernel) (Nat.le_of_ble_eq_true rfl) (Nat.le_of_ble_eq_true rfl) dL_986 (fun H locs hP1 hP2 hS => ?_)
  refine lv_aload_n hx hb dL_989 rfl (lv_at hl 1 rfl) ?_
  refine lw_ld (k := 1) hx hb hX hbl hS h0 h3 hi hL (by decide) (by decide) dL_990 dL_991 dL_992 (by decide +kernel) dL_993 dL_994 ?_
  refine lw_ld (k := 2) hx hb hX hbl hS h0 h3 hi hL (by decide) (by decide) dL_995 dL_996 dL_997 (by decide +kernel) dL_998 dL_999 ?_
  refine lw_ld (k := 3) hx hb hX hbl hS h0 h3 hi hL (by decide) (by decide) dL_1000 dL_1001 dL_1002 (by decide +kernel) dL_1003 dL_1004 ?_
  obtain ⟨r2, μ4, hR2, hr2, hm1⟩ := q_sheet 0 hm ((xs (i + 1))) ((xs (i + 2))) ((xs (i + 3)))
  refine lw_call2 (d := 0 + 3) (y := n_Mo_sheet) (me := me_Mo_sheet) (as := [mz_I (xs (i + 1)), mz_I (xs (i + 2)), mz_I (xs (i + 3))]) (rest := [.int r1]) C hml hl.1 hP1 hP2 hS hR2 rfl rfl rfl rfl rfl (Nat.le_of_ble_eq_true rfl) (show Cond.methodLink R_law 111 me_Mo_sheet.1 ∈ lw_tbl by decide +kernel) (Nat.le_of_ble_eq_true rfl) (Nat.le_of_ble_eq_true rfl) dL_1005 (fun H locs hP1 hP2 hS => ?_)
  exact lv_icmp_eq (tgt := 1182) hx hb dL_1008 (by decide) (fun _ => kk H locs _ ⟨μ3, μ4, hc1, hm1, hP1, hP2, hS⟩) (fun q => absurd (hr1.trans hr2.symm) q)
set_option maxHeartbeats 4000000 in
theorem lw_c23 {p : Program} {l : Launch} {e : Env} {s : State} {m : MethodId} {below : List Frame} {meth : Method} {c : Code} {H : Heap} {locs : List Loc} {Q : State → Prop} {D : va_G} {cA : Nat → ClassId} {ls : Array Slot} {b L i : Nat} {xs : Nat → Int32} {A : es_A} (C : mb_C p s m #[Value.ref b] c D cA code R_law) (hml : c.maxLocals = 4) (hX : va_X b L xs s s.heap) (hbl : b < s.heap.size) (hL : L ≤ 3584) (hi : i + 7 ≤ L) (hl : lv_has ls 4 [(3, .int (nI i)), (2, .ref (s.heap.size + 212)), (1, .ref s.heap.size), (0, .ref b)]) (S : lw_St D cA s H locs A)
    (kk : ∀ (H : Heap) (locs : List Loc) (A : es_A), lw_St D cA s H locs A → W p l e room_1 s m #[Value.ref b] below meth c H locs 229 7239 Q (F0 m 1182 ls [])) : W p l e room_1 s m #[Value.ref b] below meth c H locs 229 7239 Q (F0 m 1013 ls []) := by
  obtain ⟨hx, hb, hown, gw, hK, hN, hO⟩ := id C
  obtain ⟨μ1, μ2, hc, hm, hP1, hP2, hS⟩ := S
  have h0 := lv_at hl 3 rfl
  have h3 := lv_at hl 0 rfl
  refine lv_aload_n hx hb dL_1013 rfl (lv_at hl 2 rfl) ?_
  refine lw_ld (k := 1) hx hb hX hbl hS h0 h3 hi hL (by decide) (by decide) dL_1014 dL_1015 dL_1016 (by decide +kernel) dL_1017 dL_1018 ?_
  obtain ⟨r1, μ3, hR1, hr1, hc1⟩ := c_drop 0 hc ((xs (i + 1)))
  refine lw_call1 (d := 0 + 2) (y := n_ES_drop) (me := me_ES_drop) (as := [mz_I (xs (i + 1))]) (rest := []) C hml hl.1 hP1 hP2 hS hR1 rfl rfl rfl rfl rfl (Nat.le_of_ble_eq_true rfl) (show Cond.methodLink R_law 112 me_ES_drop.1 ∈ lw_tbl by decide +kernel) (Nat.le_of_ble_eq_true rfl) (Nat.le_of_ble_eq_true rfl) dL_1019 (fun H locs hP1 hP2 hS => ?_)
  refine lv_aload_n hx hb dL_1022 rfl (lv_at hl 1 rfl) ?_
  refine lw_ld (k := 1) hx hb hX hbl hS h0 h3 hi hL (by decide) (by decide) dL_1023 dL_1024 dL_1025 (by decide +kernel) dL_1026 dL_1027 ?_
  obtain ⟨r2, μ4, hR2, hr2, hm1⟩ := q_drop 0 hm ((xs (i + 1)))
  refine lw_call2 (d := 0 + 3) (y := n_Mo_drop) (me := me_Mo_drop) (as := [mz_I (xs (i + 1))]) (rest := [.int r1]) C hml hl.1 hP1 hP2 hS hR2 rfl rfl rfl rfl rfl (Nat.le_of_ble_eq_true rfl) (show Cond.methodLink R_law 115 me_Mo_drop.1 ∈ lw_tbl by decide +kernel) (Nat.le_of_ble_eq_true rfl) (Nat.le_of_ble_eq_true rfl) dL_1028 (fun H locs hP1 hP2 hS => ?_)
  exact lv_icmp_eq (tgt := 1182) hx hb dL_1031 (by decide) (fun _ => kk H locs _ ⟨μ3, μ4, hc1, hm1, hP1, hP2, hS⟩) (fun q => absurd (hr1.trans hr2.symm) q)
set_option maxHeartbeats 4000000 in
theorem lw_c24 {p : Program} {l : Launch} {e : Env} {s : State} {m : MethodId} {below : List Frame} {meth : Method} {c : Code} {H : Heap} {locs : List Loc} {Q : State → Prop} {D : va_G} {cA : Nat → ClassId} {ls : Array Slot} {b L i : Nat} {xs : Nat → Int32} {A : es_A} (C : mb_C p s m #[Value.ref b] c D cA code R_law) (hml : c.maxLocals = 4) (hX : va_X b L xs s s.heap) (hbl : b < s.heap.size) (hL : L ≤ 3584) (hi : i + 7 ≤ L) (hl : lv_has ls 4 [(3, .int (nI i)), (2, .ref (s.heap.size + 212)), (1, .ref s.heap.size), (0, .ref b)]) (S : lw_St D cA s H locs A)
    (kk : ∀ (H : Heap) (locs : List Loc) (A : es_A), lw_St D cA s H locs A → W p l e room_1 s m #[Value.ref b] below meth c H locs 229 7239 Q (F0 m 1182 ls [])) : W p l e room_1 s m #[Value.ref b] below meth c H locs 229 7239 Q (F0 m 1036 ls []) := by
  obtain ⟨hx, hb, hown, gw, hK, hN, hO⟩ := id C
  obtain ⟨μ1, μ2, hc, hm, hP1, hP2, hS⟩ := S
  have h0 := lv_at hl 3 rfl
  have h3 := lv_at hl 0 rfl
  refine lv_aload_n hx hb dL_1036 rfl (lv_at hl 2 rfl) ?_
  refine lw_ld (k := 1) hx hb hX hbl hS h0 h3 hi hL (by decide) (by decide) dL_1037 dL_1038 dL_1039 (by decide +kernel) dL_1040 dL_1041 ?_
  refine lw_ld (k := 2) hx hb hX hbl hS h0 h3 hi hL (by decide) (by decide) dL_1042 dL_1043 dL_1044 (by decide +kernel) dL_1045 dL_1046 ?_
  refine lw_ld (k := 3) hx hb hX hbl hS h0 h3 hi hL (by decide) (by decide) dL_1047 dL_1048 dL_1049 (by decide +kernel) dL_1050 dL_1051 ?_
  refine lw_ld (k := 4) hx hb hX hbl hS h0 h3 hi hL (by decide) (by decide) dL_1052 dL_1053 dL_1054 (by decide +kernel) dL_1055 dL_1056 ?_
  refine lv_i2l (v := (xs (i + 4)).toInt64) hx hb dL_1057 rfl ?_
  refine lv_bipush (v := 32) hx hb dL_1058 (by decide +kernel) ?_
  refine lv_lshl (v := (xs (i + 4)).toInt64 <<< ((32 : Int32).toInt64 &&& 63)) hx hb dL_1060 rfl ?_
  refine lw_ld (k := 5) hx hb hX hbl hS h0 h3 hi hL (by decide) (by decide) dL_1061 dL_1062 dL_1063 (by decide +kernel) dL_1064 dL_1065 ?_
  refine lv_i2l (v := (xs (i + 5)).toInt64) hx hb dL_1066 rfl ?_
  refine lv_ldc2 (v := 4294967295) hx hb hown (gw _ (show Cond.constantLong R_law 116 4294967295 ∈ lw_tbl by decide +kernel) rfl) dL_1067 ?_
  refine lv_land hx hb dL_1070 ?_
  refine lv_lor hx hb dL_1071 ?_
  obtain ⟨r1, μ3, hR1, hr1, hc1⟩ := c_item 0 hc ((xs (i + 1))) ((xs (i + 2))) ((xs (i + 3))) ((((xs (i + 4)).toInt64 <<< ((32 : Int32).toInt64 &&& 63)) ||| ((xs (i + 5)).toInt64 &&& 4294967295)))
  refine lw_call1 (d := 0 + 3) (y := n_ES_item) (me := me_ES_item) (as := [mz_I (xs (i + 1)), mz_I (xs (i + 2)), mz_I (xs (i + 3)), mz_L (((xs (i + 4)).toInt64 <<< ((32 : Int32).toInt64 &&& 63)) ||| ((xs (i + 5)).toInt64 &&& 4294967295))]) (rest := []) C hml hl.1 hP1 hP2 hS hR1 rfl rfl rfl rfl rfl (Nat.le_of_ble_eq_true rfl) (show Cond.methodLink R_law 118 me_ES_item.1 ∈ lw_tbl by decide +kernel) (Nat.le_of_ble_eq_true rfl) (Nat.le_of_ble_eq_true rfl) dL_1072 (fun H locs hP1 hP2 hS => ?_)
  refine lv_aload_n hx hb dL_1075 rfl (lv_at hl 1 rfl) ?_
  refine lw_ld (k := 1) hx hb hX hbl hS h0 h3 hi hL (by decide) (by decide) dL_1076 dL_1077 dL_1078 (by decide +kernel) dL_1079 dL_1080 ?_
  refine lw_ld (k := 2) hx hb hX hbl hS h0 h3 hi hL (by decide) (by decide) dL_1081 dL_1082 dL_1083 (by decide +kernel) dL_1084 dL_1085 ?_
  refine lw_ld (k := 3) hx hb hX hbl hS h0 h3 hi hL (by decide) (by decide) dL_1086 dL_1087 dL_1088 (by decide +kernel) dL_1089 dL_1090 ?_
  refine lw_ld (k := 4) hx hb hX hbl hS h0 h3 hi hL (by decide) (by decide) dL_1091 dL_1092 dL_1093 (by decide +kernel) dL_1094 dL_1095 ?_
  refine lv_i2l (v := (xs (i + 4)).toInt64) hx hb dL_1096 rfl ?_
  refine lv_bipush (v := 32) hx hb dL_1097 (by decide +kernel) ?_
  refine lv_lshl (v := (xs (i + 4)).toInt64 <<< ((32 : Int32).toInt64 &&& 63)) hx hb dL_1099 rfl ?_
  refine lw_ld (k := 5) hx hb hX hbl hS h0 h3 hi hL (by decide) (by decide) dL_1100 dL_1101 dL_1102 (by decide +kernel) dL_1103 dL_1104 ?_
  refine lv_i2l (v := (xs (i + 5)).toInt64) hx hb dL_1105 rfl ?_
  refine lv_ldc2 (v := 4294967295) hx hb hown (gw _ (show Cond.constantLong R_law 116 4294967295 ∈ lw_tbl by decide +kernel) rfl) dL_1106 ?_
  refine lv_land hx hb dL_1109 ?_
  refine lv_lor hx hb dL_1110 ?_
  obtain ⟨r2, μ4, hR2, hr2, hm1⟩ := q_item 0 hm ((xs (i + 1))) ((xs (i + 2))) ((xs (i + 3))) ((((xs (i + 4)).toInt64 <<< ((32 : Int32).toInt64 &&& 63)) ||| ((xs (i + 5)).toInt64 &&& 4294967295)))
  refine lw_call2 (d := 0 + 3) (y := n_Mo_item) (me := me_Mo_item) (as := [mz_I (xs (i + 1)), mz_I (xs (i + 2)), mz_I (xs (i + 3)), mz_L (((xs (i + 4)).toInt64 <<< ((32 : Int32).toInt64 &&& 63)) ||| ((xs (i + 5)).toInt64 &&& 4294967295))]) (rest := [.int r1]) C hml hl.1 hP1 hP2 hS hR2 rfl rfl rfl rfl rfl (Nat.le_of_ble_eq_true rfl) (show Cond.methodLink R_law 122 me_Mo_item.1 ∈ lw_tbl by decide +kernel) (Nat.le_of_ble_eq_true rfl) (Nat.le_of_ble_eq_true rfl) dL_1111 (fun H locs hP1 hP2 hS => ?_)
  exact lv_icmp_eq (tgt := 1182) hx hb dL_1114 (by decide) (fun _ => kk H locs _ ⟨μ3, μ4, hc1, hm1, hP1, hP2, hS⟩) (fun q => absurd (hr1.trans hr2.symm) q)
set_option maxHeartbeats 4000000 in
theorem lw_c25 {p : Program} {l : Launch} {e : Env} {s : State} {m : MethodId} {below : List Frame} {meth : Method} {c : Code} {H : Heap} {locs : List Loc} {Q : State → Prop} {D : va_G} {cA : Nat → ClassId} {ls : Array Slot} {b L i : Nat} {xs : Nat → Int32} {A : es_A} (C : mb_C p s m #[Value.ref b] c D cA code R_law) (hml : c.maxLocals = 4) (hX : va_X b L xs s s.heap) (hbl : b < s.heap.size) (hL : L ≤ 3584) (hi : i + 7 ≤ L) (hl : lv_has ls 4 [(3, .int (nI i)), (2, .ref (s.heap.size + 212)), (1, .ref s.heap.size), (0, .ref b)]) (S : lw_St D cA s H locs A)
    (kk : ∀ (H : Heap) (locs : List Loc) (A : es_A), lw_St D cA s H locs A → W p l e room_1 s m #[Value.ref b] below meth c H locs 229 7239 Q (F0 m 1182 ls [])) : W p l e room_1 s m #[Value.ref b] below meth c H locs 229 7239 Q (F0 m 1119 ls []) := by
  obtain ⟨hx, hb, hown, gw, hK, hN, hO⟩ := id C
  obtain ⟨μ1, μ2, hc, hm, hP1, hP2, hS⟩ := S
  have h0 := lv_at hl 3 rfl
  have h3 := lv_at hl 0 rfl
  refine lv_aload_n hx hb dL_1119 rfl (lv_at hl 2 rfl) ?_
  refine lw_ld (k := 1) hx hb hX hbl hS h0 h3 hi hL (by decide) (by decide) dL_1120 dL_1121 dL_1122 (by decide +kernel) dL_1123 dL_1124 ?_
  refine lw_ld (k := 2) hx hb hX hbl hS h0 h3 hi hL (by decide) (by decide) dL_1125 dL_1126 dL_1127 (by decide +kernel) dL_1128 dL_1129 ?_
  refine lw_ld (k := 3) hx hb hX hbl hS h0 h3 hi hL (by decide) (by decide) dL_1130 dL_1131 dL_1132 (by decide +kernel) dL_1133 dL_1134 ?_
  refine lw_ld (k := 4) hx hb hX hbl hS h0 h3 hi hL (by decide) (by decide) dL_1135 dL_1136 dL_1137 (by decide +kernel) dL_1138 dL_1139 ?_
  refine lw_ld (k := 5) hx hb hX hbl hS h0 h3 hi hL (by decide) (by decide) dL_1140 dL_1141 dL_1142 (by decide +kernel) dL_1143 dL_1144 ?_
  obtain ⟨r1, μ3, hR1, hr1, hc1⟩ := c_copy 0 hc ((xs (i + 1))) ((xs (i + 2))) ((xs (i + 3))) ((xs (i + 4))) ((xs (i + 5)))
  refine lw_call1 (d := 0 + 2) (y := n_ES_copy) (me := me_ES_copy) (as := [mz_I (xs (i + 1)), mz_I (xs (i + 2)), mz_I (xs (i + 3)), mz_I (xs (i + 4)), mz_I (xs (i + 5))]) (rest := []) C hml hl.1 hP1 hP2 hS hR1 rfl rfl rfl rfl rfl (Nat.le_of_ble_eq_true rfl) (show Cond.methodLink R_law 123 me_ES_copy.1 ∈ lw_tbl by decide +kernel) (Nat.le_of_ble_eq_true rfl) (Nat.le_of_ble_eq_true rfl) dL_1145 (fun H locs hP1 hP2 hS => ?_)
  refine lv_aload_n hx hb dL_1148 rfl (lv_at hl 1 rfl) ?_
  refine lw_ld (k := 1) hx hb hX hbl hS h0 h3 hi hL (by decide) (by decide) dL_1149 dL_1150 dL_1151 (by decide +kernel) dL_1152 dL_1153 ?_
  refine lw_ld (k := 2) hx hb hX hbl hS h0 h3 hi hL (by decide) (by decide) dL_1154 dL_1155 dL_1156 (by decide +kernel) dL_1157 dL_1158 ?_
  refine lw_ld (k := 3) hx hb hX hbl hS h0 h3 hi hL (by decide) (by decide) dL_1159 dL_1160 dL_1161 (by decide +kernel) dL_1162 dL_1163 ?_
  refine lw_ld (k := 4) hx hb hX hbl hS h0 h3 hi hL (by decide) (by decide) dL_1164 dL_1165 dL_1166 (by decide +kernel) dL_1167 dL_1168 ?_
  refine lw_ld (k := 5) hx hb hX hbl hS h0 h3 hi hL (by decide) (by decide) dL_1169 dL_1170 dL_1171 (by decide +kernel) dL_1172 dL_1173 ?_
  obtain ⟨r2, μ4, hR2, hr2, hm1⟩ := q_copy 0 hm ((xs (i + 1))) ((xs (i + 2))) ((xs (i + 3))) ((xs (i + 4))) ((xs (i + 5)))
  refine lw_call2 (d := 0 + 3) (y := n_Mo_copy) (me := me_Mo_copy) (as := [mz_I (xs (i + 1)), mz_I (xs (i + 2)), mz_I (xs (i + 3)), mz_I (xs (i + 4)), mz_I (xs (i + 5))]) (rest := [.int r1]) C hml hl.1 hP1 hP2 hS hR2 rfl rfl rfl rfl rfl (Nat.le_of_ble_eq_true rfl) (show Cond.methodLink R_law 126 me_Mo_copy.1 ∈ lw_tbl by decide +kernel) (Nat.le_of_ble_eq_true rfl) (Nat.le_of_ble_eq_true rfl) dL_1174 (fun H locs hP1 hP2 hS => ?_)
  exact lv_icmp_eq (tgt := 1182) hx hb dL_1177 (by decide) (fun _ => kk H locs _ ⟨μ3, μ4, hc1, hm1, hP1, hP2, hS⟩) (fun q => absurd (hr1.trans hr2.symm) q)
