section
-- ===== PART A: goes FIRST, ahead of the names: the tables' words, and 'selects' of the private methods out of them =====
/-- a private method of a class that the tables say can be made, by its rows of tables_1 -/
def lw_okq (q : MethodName × Nat) : Prop := (q.1.cls ≠ "java/lang/invoke/MethodHandle" ∧ q.1.cls ≠ "java/lang/invoke/VarHandle") ∧ Cond.instantiable q.1.cls q.2 ∈ tables_1 ∧ Cond.privateMethod q.1 ∈ tables_1 ∧ Cond.instanceMethod q.1 ∈ tables_1
theorem lw_p0 : lw_okq (⟨"EtaSeries$Row", "become", "(III)V"⟩, 2) := ⟨⟨by decide +kernel, by decide +kernel⟩, List.mem_of_getElem? (i := 27) (by decide +kernel), List.mem_of_getElem? (i := 217) (by decide +kernel), List.mem_of_getElem? (i := 218) (by decide +kernel)⟩
theorem lw_p1 : lw_okq (⟨"EtaSeries$Row", "begin", "(I)V"⟩, 2) := ⟨⟨by decide +kernel, by decide +kernel⟩, List.mem_of_getElem? (i := 27) (by decide +kernel), List.mem_of_getElem? (i := 221) (by decide +kernel), List.mem_of_getElem? (i := 222) (by decide +kernel)⟩
theorem lw_p2 : lw_okq (⟨"EtaSeries$Row", "put", "(IJ)V"⟩, 2) := ⟨⟨by decide +kernel, by decide +kernel⟩, List.mem_of_getElem? (i := 27) (by decide +kernel), List.mem_of_getElem? (i := 231) (by decide +kernel), List.mem_of_getElem? (i := 232) (by decide +kernel)⟩
theorem lw_p3 : lw_okq (⟨"EtaSeries", "settle", "(ILEtaSeries$Row;)I"⟩, 10) := ⟨⟨by decide +kernel, by decide +kernel⟩, List.mem_of_getElem? (i := 12) (by decide +kernel), List.mem_of_getElem? (i := 236) (by decide +kernel), List.mem_of_getElem? (i := 237) (by decide +kernel)⟩
theorem lw_p4 : lw_okq (⟨"EtaSeries$Past", "remember", "(LEtaSeries$Shelf;)V"⟩, 3) := ⟨⟨by decide +kernel, by decide +kernel⟩, List.mem_of_getElem? (i := 57) (by decide +kernel), List.mem_of_getElem? (i := 240) (by decide +kernel), List.mem_of_getElem? (i := 241) (by decide +kernel)⟩
theorem lw_p5 : lw_okq (⟨"EtaSeries$Shelf", "take", "(LEtaSeries$Shelf;)V"⟩, 3) := ⟨⟨by decide +kernel, by decide +kernel⟩, List.mem_of_getElem? (i := 20) (by decide +kernel), List.mem_of_getElem? (i := 247) (by decide +kernel), List.mem_of_getElem? (i := 248) (by decide +kernel)⟩
theorem lw_p6 : lw_okq (⟨"EtaSeries$Row", "take", "(LEtaSeries$Row;)V"⟩, 2) := ⟨⟨by decide +kernel, by decide +kernel⟩, List.mem_of_getElem? (i := 27) (by decide +kernel), List.mem_of_getElem? (i := 251) (by decide +kernel), List.mem_of_getElem? (i := 252) (by decide +kernel)⟩
theorem lw_p7 : lw_okq (⟨"EtaSeries$Shelf", "isMissing", "(I)Z"⟩, 3) := ⟨⟨by decide +kernel, by decide +kernel⟩, List.mem_of_getElem? (i := 20) (by decide +kernel), List.mem_of_getElem? (i := 264) (by decide +kernel), List.mem_of_getElem? (i := 265) (by decide +kernel)⟩
theorem lw_p8 : lw_okq (⟨"EtaSeries$Row", "becomeJoined", "(ILEtaSeries$Row;LEtaSeries$Row;)I"⟩, 2) := ⟨⟨by decide +kernel, by decide +kernel⟩, List.mem_of_getElem? (i := 27) (by decide +kernel), List.mem_of_getElem? (i := 270) (by decide +kernel), List.mem_of_getElem? (i := 271) (by decide +kernel)⟩
theorem lw_p9 : lw_okq (⟨"EtaSeries$Row", "sum", "(LEtaSeries$Row;LEtaSeries$Row;I)I"⟩, 2) := ⟨⟨by decide +kernel, by decide +kernel⟩, List.mem_of_getElem? (i := 27) (by decide +kernel), List.mem_of_getElem? (i := 274) (by decide +kernel), List.mem_of_getElem? (i := 275) (by decide +kernel)⟩
theorem lw_p10 : lw_okq (⟨"EtaSeries$Row", "at", "(I)I"⟩, 2) := ⟨⟨by decide +kernel, by decide +kernel⟩, List.mem_of_getElem? (i := 27) (by decide +kernel), List.mem_of_getElem? (i := 278) (by decide +kernel), List.mem_of_getElem? (i := 279) (by decide +kernel)⟩
theorem lw_p11 : lw_okq (⟨"EtaSeries$Row", "product", "(LEtaSeries$Row;LEtaSeries$Row;)I"⟩, 2) := ⟨⟨by decide +kernel, by decide +kernel⟩, List.mem_of_getElem? (i := 27) (by decide +kernel), List.mem_of_getElem? (i := 288) (by decide +kernel), List.mem_of_getElem? (i := 289) (by decide +kernel)⟩
theorem lw_p12 : lw_okq (⟨"EtaSeries$Row", "ratio", "(LEtaSeries$Row;LEtaSeries$Row;)I"⟩, 2) := ⟨⟨by decide +kernel, by decide +kernel⟩, List.mem_of_getElem? (i := 27) (by decide +kernel), List.mem_of_getElem? (i := 292) (by decide +kernel), List.mem_of_getElem? (i := 293) (by decide +kernel)⟩
theorem lw_p13 : lw_okq (⟨"EtaSeries$Row", "becomePower", "(LEtaSeries$Row;ILEtaSeries$Row;)I"⟩, 2) := ⟨⟨by decide +kernel, by decide +kernel⟩, List.mem_of_getElem? (i := 27) (by decide +kernel), List.mem_of_getElem? (i := 310) (by decide +kernel), List.mem_of_getElem? (i := 311) (by decide +kernel)⟩
theorem lw_p14 : lw_okq (⟨"EtaSeries$Row", "becomeChanged", "(IILEtaSeries$Row;)I"⟩, 2) := ⟨⟨by decide +kernel, by decide +kernel⟩, List.mem_of_getElem? (i := 27) (by decide +kernel), List.mem_of_getElem? (i := 315) (by decide +kernel), List.mem_of_getElem? (i := 316) (by decide +kernel)⟩
theorem lw_p15 : lw_okq (⟨"EtaSeries$Row", "pick", "(IILEtaSeries$Row;)I"⟩, 2) := ⟨⟨by decide +kernel, by decide +kernel⟩, List.mem_of_getElem? (i := 27) (by decide +kernel), List.mem_of_getElem? (i := 319) (by decide +kernel), List.mem_of_getElem? (i := 320) (by decide +kernel)⟩
def lw_privs_1 : List (MethodName × Nat) := [(⟨"EtaSeries$Row", "become", "(III)V"⟩, 2), (⟨"EtaSeries$Row", "begin", "(I)V"⟩, 2), (⟨"EtaSeries$Row", "put", "(IJ)V"⟩, 2), (⟨"EtaSeries", "settle", "(ILEtaSeries$Row;)I"⟩, 10), (⟨"EtaSeries$Past", "remember", "(LEtaSeries$Shelf;)V"⟩, 3), (⟨"EtaSeries$Shelf", "take", "(LEtaSeries$Shelf;)V"⟩, 3), (⟨"EtaSeries$Row", "take", "(LEtaSeries$Row;)V"⟩, 2), (⟨"EtaSeries$Shelf", "isMissing", "(I)Z"⟩, 3), (⟨"EtaSeries$Row", "becomeJoined", "(ILEtaSeries$Row;LEtaSeries$Row;)I"⟩, 2), (⟨"EtaSeries$Row", "sum", "(LEtaSeries$Row;LEtaSeries$Row;I)I"⟩, 2), (⟨"EtaSeries$Row", "at", "(I)I"⟩, 2), (⟨"EtaSeries$Row", "product", "(LEtaSeries$Row;LEtaSeries$Row;)I"⟩, 2), (⟨"EtaSeries$Row", "ratio", "(LEtaSeries$Row;LEtaSeries$Row;)I"⟩, 2), (⟨"EtaSeries$Row", "becomePower", "(LEtaSeries$Row;ILEtaSeries$Row;)I"⟩, 2), (⟨"EtaSeries$Row", "becomeChanged", "(IILEtaSeries$Row;)I"⟩, 2), (⟨"EtaSeries$Row", "pick", "(IILEtaSeries$Row;)I"⟩, 2)]
theorem lw_r1 : ∀ q ∈ lw_privs_1, lw_okq q := List.forall_mem_cons.mpr ⟨lw_p0, List.forall_mem_cons.mpr ⟨lw_p1, List.forall_mem_cons.mpr ⟨lw_p2, List.forall_mem_cons.mpr ⟨lw_p3, List.forall_mem_cons.mpr ⟨lw_p4, List.forall_mem_cons.mpr ⟨lw_p5, List.forall_mem_cons.mpr ⟨lw_p6, List.forall_mem_cons.mpr ⟨lw_p7, List.forall_mem_cons.mpr ⟨lw_p8, List.forall_mem_cons.mpr ⟨lw_p9, List.forall_mem_cons.mpr ⟨lw_p10, List.forall_mem_cons.mpr ⟨lw_p11, List.forall_mem_cons.mpr ⟨lw_p12, List.forall_mem_cons.mpr ⟨lw_p13, List.forall_mem_cons.mpr ⟨lw_p14, List.forall_mem_cons.mpr ⟨lw_p15, fun _ h => absurd h List.not_mem_nil⟩⟩⟩⟩⟩⟩⟩⟩⟩⟩⟩⟩⟩⟩⟩⟩
theorem lw_p16 : lw_okq (⟨"EtaSeries$Tape", "write", "(I)Z"⟩, 7) := ⟨⟨by decide +kernel, by decide +kernel⟩, List.mem_of_getElem? (i := 77) (by decide +kernel), List.mem_of_getElem? (i := 338) (by decide +kernel), List.mem_of_getElem? (i := 339) (by decide +kernel)⟩
theorem lw_p17 : lw_okq (⟨"EtaSeries$Tape", "parse", "()I"⟩, 7) := ⟨⟨by decide +kernel, by decide +kernel⟩, List.mem_of_getElem? (i := 77) (by decide +kernel), List.mem_of_getElem? (i := 347) (by decide +kernel), List.mem_of_getElem? (i := 348) (by decide +kernel)⟩
theorem lw_p18 : lw_okq (⟨"EtaSeries$Tape", "skipBlanks", "()V"⟩, 7) := ⟨⟨by decide +kernel, by decide +kernel⟩, List.mem_of_getElem? (i := 77) (by decide +kernel), List.mem_of_getElem? (i := 351) (by decide +kernel), List.mem_of_getElem? (i := 352) (by decide +kernel)⟩
theorem lw_p19 : lw_okq (⟨"EtaSeries$Tape", "here", "()I"⟩, 7) := ⟨⟨by decide +kernel, by decide +kernel⟩, List.mem_of_getElem? (i := 77) (by decide +kernel), List.mem_of_getElem? (i := 355) (by decide +kernel), List.mem_of_getElem? (i := 356) (by decide +kernel)⟩
theorem lw_p20 : lw_okq (⟨"EtaSeries$Tape", "readAtom", "()I"⟩, 7) := ⟨⟨by decide +kernel, by decide +kernel⟩, List.mem_of_getElem? (i := 77) (by decide +kernel), List.mem_of_getElem? (i := 359) (by decide +kernel), List.mem_of_getElem? (i := 360) (by decide +kernel)⟩
theorem lw_p21 : lw_okq (⟨"EtaSeries$Tape", "readOpen", "()I"⟩, 7) := ⟨⟨by decide +kernel, by decide +kernel⟩, List.mem_of_getElem? (i := 77) (by decide +kernel), List.mem_of_getElem? (i := 363) (by decide +kernel), List.mem_of_getElem? (i := 364) (by decide +kernel)⟩
theorem lw_p22 : lw_okq (⟨"EtaSeries$Tape", "pass", "(II)I"⟩, 7) := ⟨⟨by decide +kernel, by decide +kernel⟩, List.mem_of_getElem? (i := 77) (by decide +kernel), List.mem_of_getElem? (i := 367) (by decide +kernel), List.mem_of_getElem? (i := 368) (by decide +kernel)⟩
theorem lw_p23 : lw_okq (⟨"EtaSeries$Tape", "note", "(II)V"⟩, 7) := ⟨⟨by decide +kernel, by decide +kernel⟩, List.mem_of_getElem? (i := 77) (by decide +kernel), List.mem_of_getElem? (i := 371) (by decide +kernel), List.mem_of_getElem? (i := 372) (by decide +kernel)⟩
theorem lw_p24 : lw_okq (⟨"EtaSeries$Tape", "readFamily", "(I)I"⟩, 7) := ⟨⟨by decide +kernel, by decide +kernel⟩, List.mem_of_getElem? (i := 77) (by decide +kernel), List.mem_of_getElem? (i := 375) (by decide +kernel), List.mem_of_getElem? (i := 376) (by decide +kernel)⟩
theorem lw_p25 : lw_okq (⟨"EtaSeries$Tape", "digitIsHere", "()Z"⟩, 7) := ⟨⟨by decide +kernel, by decide +kernel⟩, List.mem_of_getElem? (i := 77) (by decide +kernel), List.mem_of_getElem? (i := 379) (by decide +kernel), List.mem_of_getElem? (i := 380) (by decide +kernel)⟩
theorem lw_p26 : lw_okq (⟨"EtaSeries$Tape", "readNumber", "()I"⟩, 7) := ⟨⟨by decide +kernel, by decide +kernel⟩, List.mem_of_getElem? (i := 77) (by decide +kernel), List.mem_of_getElem? (i := 383) (by decide +kernel), List.mem_of_getElem? (i := 384) (by decide +kernel)⟩
theorem lw_p27 : lw_okq (⟨"EtaSeries$Tape", "readBehindAtom", "(I)I"⟩, 7) := ⟨⟨by decide +kernel, by decide +kernel⟩, List.mem_of_getElem? (i := 77) (by decide +kernel), List.mem_of_getElem? (i := 391) (by decide +kernel), List.mem_of_getElem? (i := 392) (by decide +kernel)⟩
theorem lw_p28 : lw_okq (⟨"EtaSeries$Tape", "readFigure", "()I"⟩, 7) := ⟨⟨by decide +kernel, by decide +kernel⟩, List.mem_of_getElem? (i := 77) (by decide +kernel), List.mem_of_getElem? (i := 395) (by decide +kernel), List.mem_of_getElem? (i := 396) (by decide +kernel)⟩
theorem lw_p29 : lw_okq (⟨"EtaSeries$Mill", "reset", "(I)V"⟩, 10) := ⟨⟨by decide +kernel, by decide +kernel⟩, List.mem_of_getElem? (i := 106) (by decide +kernel), List.mem_of_getElem? (i := 400) (by decide +kernel), List.mem_of_getElem? (i := 401) (by decide +kernel)⟩
theorem lw_p30 : lw_okq (⟨"EtaSeries$Mill", "workSum", "(I)I"⟩, 10) := ⟨⟨by decide +kernel, by decide +kernel⟩, List.mem_of_getElem? (i := 106) (by decide +kernel), List.mem_of_getElem? (i := 404) (by decide +kernel), List.mem_of_getElem? (i := 405) (by decide +kernel)⟩
theorem lw_p31 : lw_okq (⟨"EtaSeries$Mill", "workPart", "(I)I"⟩, 10) := ⟨⟨by decide +kernel, by decide +kernel⟩, List.mem_of_getElem? (i := 106) (by decide +kernel), List.mem_of_getElem? (i := 409) (by decide +kernel), List.mem_of_getElem? (i := 410) (by decide +kernel)⟩
def lw_privs_2 : List (MethodName × Nat) := [(⟨"EtaSeries$Tape", "write", "(I)Z"⟩, 7), (⟨"EtaSeries$Tape", "parse", "()I"⟩, 7), (⟨"EtaSeries$Tape", "skipBlanks", "()V"⟩, 7), (⟨"EtaSeries$Tape", "here", "()I"⟩, 7), (⟨"EtaSeries$Tape", "readAtom", "()I"⟩, 7), (⟨"EtaSeries$Tape", "readOpen", "()I"⟩, 7), (⟨"EtaSeries$Tape", "pass", "(II)I"⟩, 7), (⟨"EtaSeries$Tape", "note", "(II)V"⟩, 7), (⟨"EtaSeries$Tape", "readFamily", "(I)I"⟩, 7), (⟨"EtaSeries$Tape", "digitIsHere", "()Z"⟩, 7), (⟨"EtaSeries$Tape", "readNumber", "()I"⟩, 7), (⟨"EtaSeries$Tape", "readBehindAtom", "(I)I"⟩, 7), (⟨"EtaSeries$Tape", "readFigure", "()I"⟩, 7), (⟨"EtaSeries$Mill", "reset", "(I)V"⟩, 10), (⟨"EtaSeries$Mill", "workSum", "(I)I"⟩, 10), (⟨"EtaSeries$Mill", "workPart", "(I)I"⟩, 10)]
theorem lw_r2 : ∀ q ∈ lw_privs_2, lw_okq q := List.forall_mem_cons.mpr ⟨lw_p16, List.forall_mem_cons.mpr ⟨lw_p17, List.forall_mem_cons.mpr ⟨lw_p18, List.forall_mem_cons.mpr ⟨lw_p19, List.forall_mem_cons.mpr ⟨lw_p20, List.forall_mem_cons.mpr ⟨lw_p21, List.forall_mem_cons.mpr ⟨lw_p22, List.forall_mem_cons.mpr ⟨lw_p23, List.forall_mem_cons.mpr ⟨lw_p24, List.forall_mem_cons.mpr ⟨lw_p25, List.forall_mem_cons.mpr ⟨lw_p26, List.forall_mem_cons.mpr ⟨lw_p27, List.forall_mem_cons.mpr ⟨lw_p28, List.forall_mem_cons.mpr ⟨lw_p29, List.forall_mem_cons.mpr ⟨lw_p30, List.forall_mem_cons.mpr ⟨lw_p31, fun _ h => absurd h List.not_mem_nil⟩⟩⟩⟩⟩⟩⟩⟩⟩⟩⟩⟩⟩⟩⟩⟩
theorem lw_p32 : lw_okq (⟨"EtaSeries$Mill", "workPower", "(I)I"⟩, 10) := ⟨⟨by decide +kernel, by decide +kernel⟩, List.mem_of_getElem? (i := 106) (by decide +kernel), List.mem_of_getElem? (i := 413) (by decide +kernel), List.mem_of_getElem? (i := 414) (by decide +kernel)⟩
theorem lw_p33 : lw_okq (⟨"EtaSeries$Mill", "workAtom", "(I)I"⟩, 10) := ⟨⟨by decide +kernel, by decide +kernel⟩, List.mem_of_getElem? (i := 106) (by decide +kernel), List.mem_of_getElem? (i := 417) (by decide +kernel), List.mem_of_getElem? (i := 418) (by decide +kernel)⟩
theorem lw_p34 : lw_okq (⟨"EtaSeries$Tape", "signAt", "(I)I"⟩, 7) := ⟨⟨by decide +kernel, by decide +kernel⟩, List.mem_of_getElem? (i := 77) (by decide +kernel), List.mem_of_getElem? (i := 421) (by decide +kernel), List.mem_of_getElem? (i := 422) (by decide +kernel)⟩
theorem lw_p35 : lw_okq (⟨"EtaSeries$Tape", "valueAt", "(I)I"⟩, 7) := ⟨⟨by decide +kernel, by decide +kernel⟩, List.mem_of_getElem? (i := 77) (by decide +kernel), List.mem_of_getElem? (i := 425) (by decide +kernel), List.mem_of_getElem? (i := 426) (by decide +kernel)⟩
theorem lw_p36 : lw_okq (⟨"EtaSeries$Mill", "finish", "(ILEtaSeries$Row;II)I"⟩, 10) := ⟨⟨by decide +kernel, by decide +kernel⟩, List.mem_of_getElem? (i := 106) (by decide +kernel), List.mem_of_getElem? (i := 436) (by decide +kernel), List.mem_of_getElem? (i := 437) (by decide +kernel)⟩
theorem lw_p37 : lw_okq (⟨"EtaSeries$Mill", "combine", "(LEtaSeries$Row;ILEtaSeries$Row;I)I"⟩, 10) := ⟨⟨by decide +kernel, by decide +kernel⟩, List.mem_of_getElem? (i := 106) (by decide +kernel), List.mem_of_getElem? (i := 440) (by decide +kernel), List.mem_of_getElem? (i := 441) (by decide +kernel)⟩
theorem lw_p38 : lw_okq (⟨"EtaSeries$Mill", "result", "()LEtaSeries$Row;"⟩, 10) := ⟨⟨by decide +kernel, by decide +kernel⟩, List.mem_of_getElem? (i := 106) (by decide +kernel), List.mem_of_getElem? (i := 448) (by decide +kernel), List.mem_of_getElem? (i := 449) (by decide +kernel)⟩
theorem lw_p39 : lw_okq (⟨"EtaSeries$Shelf", "turnDraw", "()V"⟩, 3) := ⟨⟨by decide +kernel, by decide +kernel⟩, List.mem_of_getElem? (i := 20) (by decide +kernel), List.mem_of_getElem? (i := 456) (by decide +kernel), List.mem_of_getElem? (i := 457) (by decide +kernel)⟩
theorem lw_p40 : lw_okq (⟨"EtaSeries$Shelf", "present", "()I"⟩, 3) := ⟨⟨by decide +kernel, by decide +kernel⟩, List.mem_of_getElem? (i := 20) (by decide +kernel), List.mem_of_getElem? (i := 466) (by decide +kernel), List.mem_of_getElem? (i := 467) (by decide +kernel)⟩
theorem lw_p41 : lw_okq (⟨"EtaSeries$Past", "bringBack", "(LEtaSeries$Shelf;)Z"⟩, 3) := ⟨⟨by decide +kernel, by decide +kernel⟩, List.mem_of_getElem? (i := 57) (by decide +kernel), List.mem_of_getElem? (i := 474) (by decide +kernel), List.mem_of_getElem? (i := 475) (by decide +kernel)⟩
theorem lw_p42 : lw_okq (⟨"EtaSeries$Past", "takeAll", "(LEtaSeries$Past;)V"⟩, 3) := ⟨⟨by decide +kernel, by decide +kernel⟩, List.mem_of_getElem? (i := 57) (by decide +kernel), List.mem_of_getElem? (i := 526) (by decide +kernel), List.mem_of_getElem? (i := 527) (by decide +kernel)⟩
theorem lw_p43 : lw_okq (⟨"EtaSeries$Leaf", "refusePairs", "(III)I"⟩, 4) := ⟨⟨by decide +kernel, by decide +kernel⟩, List.mem_of_getElem? (i := 151) (by decide +kernel), List.mem_of_getElem? (i := 541) (by decide +kernel), List.mem_of_getElem? (i := 542) (by decide +kernel)⟩
theorem lw_p44 : lw_okq (⟨"EtaSeries$Leaf", "refuse", "(III)I"⟩, 4) := ⟨⟨by decide +kernel, by decide +kernel⟩, List.mem_of_getElem? (i := 151) (by decide +kernel), List.mem_of_getElem? (i := 545) (by decide +kernel), List.mem_of_getElem? (i := 546) (by decide +kernel)⟩
theorem lw_p45 : lw_okq (⟨"EtaSeries$Leaf", "hasItems", "(II)Z"⟩, 4) := ⟨⟨by decide +kernel, by decide +kernel⟩, List.mem_of_getElem? (i := 151) (by decide +kernel), List.mem_of_getElem? (i := 551) (by decide +kernel), List.mem_of_getElem? (i := 552) (by decide +kernel)⟩
theorem lw_p46 : lw_okq (⟨"EtaSeries$Leaf", "at", "(I)J"⟩, 4) := ⟨⟨by decide +kernel, by decide +kernel⟩, List.mem_of_getElem? (i := 151) (by decide +kernel), List.mem_of_getElem? (i := 556) (by decide +kernel), List.mem_of_getElem? (i := 557) (by decide +kernel)⟩
theorem lw_p47 : lw_okq (⟨"EtaSeries$Leaf", "weight", "(II)I"⟩, 4) := ⟨⟨by decide +kernel, by decide +kernel⟩, List.mem_of_getElem? (i := 151) (by decide +kernel), List.mem_of_getElem? (i := 564) (by decide +kernel), List.mem_of_getElem? (i := 565) (by decide +kernel)⟩
def lw_privs_3 : List (MethodName × Nat) := [(⟨"EtaSeries$Mill", "workPower", "(I)I"⟩, 10), (⟨"EtaSeries$Mill", "workAtom", "(I)I"⟩, 10), (⟨"EtaSeries$Tape", "signAt", "(I)I"⟩, 7), (⟨"EtaSeries$Tape", "valueAt", "(I)I"⟩, 7), (⟨"EtaSeries$Mill", "finish", "(ILEtaSeries$Row;II)I"⟩, 10), (⟨"EtaSeries$Mill", "combine", "(LEtaSeries$Row;ILEtaSeries$Row;I)I"⟩, 10), (⟨"EtaSeries$Mill", "result", "()LEtaSeries$Row;"⟩, 10), (⟨"EtaSeries$Shelf", "turnDraw", "()V"⟩, 3), (⟨"EtaSeries$Shelf", "present", "()I"⟩, 3), (⟨"EtaSeries$Past", "bringBack", "(LEtaSeries$Shelf;)Z"⟩, 3), (⟨"EtaSeries$Past", "takeAll", "(LEtaSeries$Past;)V"⟩, 3), (⟨"EtaSeries$Leaf", "refusePairs", "(III)I"⟩, 4), (⟨"EtaSeries$Leaf", "refuse", "(III)I"⟩, 4), (⟨"EtaSeries$Leaf", "hasItems", "(II)Z"⟩, 4), (⟨"EtaSeries$Leaf", "at", "(I)J"⟩, 4), (⟨"EtaSeries$Leaf", "weight", "(II)I"⟩, 4)]
theorem lw_r3 : ∀ q ∈ lw_privs_3, lw_okq q := List.forall_mem_cons.mpr ⟨lw_p32, List.forall_mem_cons.mpr ⟨lw_p33, List.forall_mem_cons.mpr ⟨lw_p34, List.forall_mem_cons.mpr ⟨lw_p35, List.forall_mem_cons.mpr ⟨lw_p36, List.forall_mem_cons.mpr ⟨lw_p37, List.forall_mem_cons.mpr ⟨lw_p38, List.forall_mem_cons.mpr ⟨lw_p39, List.forall_mem_cons.mpr ⟨lw_p40, List.forall_mem_cons.mpr ⟨lw_p41, List.forall_mem_cons.mpr ⟨lw_p42, List.forall_mem_cons.mpr ⟨lw_p43, List.forall_mem_cons.mpr ⟨lw_p44, List.forall_mem_cons.mpr ⟨lw_p45, List.forall_mem_cons.mpr ⟨lw_p46, List.forall_mem_cons.mpr ⟨lw_p47, fun _ h => absurd h List.not_mem_nil⟩⟩⟩⟩⟩⟩⟩⟩⟩⟩⟩⟩⟩⟩⟩⟩
theorem lw_p48 : lw_okq (⟨"EtaSeries$Leaf", "exponent", "(II)I"⟩, 4) := ⟨⟨by decide +kernel, by decide +kernel⟩, List.mem_of_getElem? (i := 151) (by decide +kernel), List.mem_of_getElem? (i := 568) (by decide +kernel), List.mem_of_getElem? (i := 569) (by decide +kernel)⟩
theorem lw_p49 : lw_okq (⟨"EtaSeries$Leaf", "level", "(II)I"⟩, 4) := ⟨⟨by decide +kernel, by decide +kernel⟩, List.mem_of_getElem? (i := 151) (by decide +kernel), List.mem_of_getElem? (i := 572) (by decide +kernel), List.mem_of_getElem? (i := 573) (by decide +kernel)⟩
theorem lw_p50 : lw_okq (⟨"EtaSeries$Leaf", "isLevel", "(III)Z"⟩, 4) := ⟨⟨by decide +kernel, by decide +kernel⟩, List.mem_of_getElem? (i := 151) (by decide +kernel), List.mem_of_getElem? (i := 576) (by decide +kernel), List.mem_of_getElem? (i := 577) (by decide +kernel)⟩
theorem lw_p51 : lw_okq (⟨"EtaSeries$Leaf", "divisor", "(II)I"⟩, 4) := ⟨⟨by decide +kernel, by decide +kernel⟩, List.mem_of_getElem? (i := 151) (by decide +kernel), List.mem_of_getElem? (i := 580) (by decide +kernel), List.mem_of_getElem? (i := 581) (by decide +kernel)⟩
theorem lw_p52 : lw_okq (⟨"EtaSeries$Leaf", "bound", "(II)I"⟩, 4) := ⟨⟨by decide +kernel, by decide +kernel⟩, List.mem_of_getElem? (i := 151) (by decide +kernel), List.mem_of_getElem? (i := 585) (by decide +kernel), List.mem_of_getElem? (i := 586) (by decide +kernel)⟩
theorem lw_p53 : lw_okq (⟨"EtaSeries$Mill", "workQuotient", "(LEtaSeries$Leaf;III)I"⟩, 10) := ⟨⟨by decide +kernel, by decide +kernel⟩, List.mem_of_getElem? (i := 106) (by decide +kernel), List.mem_of_getElem? (i := 598) (by decide +kernel), List.mem_of_getElem? (i := 599) (by decide +kernel)⟩
theorem lw_p54 : lw_okq (⟨"EtaSeries$Leaf", "begins", "(IILEtaSeries$Row;)Z"⟩, 4) := ⟨⟨by decide +kernel, by decide +kernel⟩, List.mem_of_getElem? (i := 151) (by decide +kernel), List.mem_of_getElem? (i := 612) (by decide +kernel), List.mem_of_getElem? (i := 613) (by decide +kernel)⟩
theorem lw_p55 : lw_okq (⟨"EtaSeries$Leaf", "put", "(IJ)V"⟩, 4) := ⟨⟨by decide +kernel, by decide +kernel⟩, List.mem_of_getElem? (i := 151) (by decide +kernel), List.mem_of_getElem? (i := 621) (by decide +kernel), List.mem_of_getElem? (i := 622) (by decide +kernel)⟩
theorem lw_p56 : lw_okq (⟨"EtaSeries$Leaf", "hold", "(II)V"⟩, 4) := ⟨⟨by decide +kernel, by decide +kernel⟩, List.mem_of_getElem? (i := 151) (by decide +kernel), List.mem_of_getElem? (i := 630) (by decide +kernel), List.mem_of_getElem? (i := 631) (by decide +kernel)⟩
theorem lw_p57 : lw_okq (⟨"EtaSeriesModel", "makes", "(III)V"⟩, 28) := ⟨⟨by decide +kernel, by decide +kernel⟩, List.mem_of_getElem? (i := 652) (by decide +kernel), List.mem_of_getElem? (i := 761) (by decide +kernel), List.mem_of_getElem? (i := 762) (by decide +kernel)⟩
theorem lw_p58 : lw_okq (⟨"EtaSeriesModel", "euler", "(II)V"⟩, 28) := ⟨⟨by decide +kernel, by decide +kernel⟩, List.mem_of_getElem? (i := 652) (by decide +kernel), List.mem_of_getElem? (i := 765) (by decide +kernel), List.mem_of_getElem? (i := 766) (by decide +kernel)⟩
theorem lw_p59 : lw_okq (⟨"EtaSeriesModel", "keeps", "(I)I"⟩, 28) := ⟨⟨by decide +kernel, by decide +kernel⟩, List.mem_of_getElem? (i := 652) (by decide +kernel), List.mem_of_getElem? (i := 770) (by decide +kernel), List.mem_of_getElem? (i := 771) (by decide +kernel)⟩
theorem lw_p60 : lw_okq (⟨"EtaSeriesModel", "notes", "()V"⟩, 28) := ⟨⟨by decide +kernel, by decide +kernel⟩, List.mem_of_getElem? (i := 652) (by decide +kernel), List.mem_of_getElem? (i := 774) (by decide +kernel), List.mem_of_getElem? (i := 775) (by decide +kernel)⟩
theorem lw_p61 : lw_okq (⟨"EtaSeriesModel", "many", "(I)I"⟩, 28) := ⟨⟨by decide +kernel, by decide +kernel⟩, List.mem_of_getElem? (i := 652) (by decide +kernel), List.mem_of_getElem? (i := 782) (by decide +kernel), List.mem_of_getElem? (i := 783) (by decide +kernel)⟩
theorem lw_p62 : lw_okq (⟨"EtaSeriesModel", "takesOne", "(I)V"⟩, 28) := ⟨⟨by decide +kernel, by decide +kernel⟩, List.mem_of_getElem? (i := 652) (by decide +kernel), List.mem_of_getElem? (i := 787) (by decide +kernel), List.mem_of_getElem? (i := 788) (by decide +kernel)⟩
theorem lw_p63 : lw_okq (⟨"EtaSeriesModel", "termOf", "(II)I"⟩, 28) := ⟨⟨by decide +kernel, by decide +kernel⟩, List.mem_of_getElem? (i := 652) (by decide +kernel), List.mem_of_getElem? (i := 791) (by decide +kernel), List.mem_of_getElem? (i := 792) (by decide +kernel)⟩
def lw_privs_4 : List (MethodName × Nat) := [(⟨"EtaSeries$Leaf", "exponent", "(II)I"⟩, 4), (⟨"EtaSeries$Leaf", "level", "(II)I"⟩, 4), (⟨"EtaSeries$Leaf", "isLevel", "(III)Z"⟩, 4), (⟨"EtaSeries$Leaf", "divisor", "(II)I"⟩, 4), (⟨"EtaSeries$Leaf", "bound", "(II)I"⟩, 4), (⟨"EtaSeries$Mill", "workQuotient", "(LEtaSeries$Leaf;III)I"⟩, 10), (⟨"EtaSeries$Leaf", "begins", "(IILEtaSeries$Row;)Z"⟩, 4), (⟨"EtaSeries$Leaf", "put", "(IJ)V"⟩, 4), (⟨"EtaSeries$Leaf", "hold", "(II)V"⟩, 4), (⟨"EtaSeriesModel", "makes", "(III)V"⟩, 28), (⟨"EtaSeriesModel", "euler", "(II)V"⟩, 28), (⟨"EtaSeriesModel", "keeps", "(I)I"⟩, 28), (⟨"EtaSeriesModel", "notes", "()V"⟩, 28), (⟨"EtaSeriesModel", "many", "(I)I"⟩, 28), (⟨"EtaSeriesModel", "takesOne", "(I)V"⟩, 28), (⟨"EtaSeriesModel", "termOf", "(II)I"⟩, 28)]
theorem lw_r4 : ∀ q ∈ lw_privs_4, lw_okq q := List.forall_mem_cons.mpr ⟨lw_p48, List.forall_mem_cons.mpr ⟨lw_p49, List.forall_mem_cons.mpr ⟨lw_p50, List.forall_mem_cons.mpr ⟨lw_p51, List.forall_mem_cons.mpr ⟨lw_p52, List.forall_mem_cons.mpr ⟨lw_p53, List.forall_mem_cons.mpr ⟨lw_p54, List.forall_mem_cons.mpr ⟨lw_p55, List.forall_mem_cons.mpr ⟨lw_p56, List.forall_mem_cons.mpr ⟨lw_p57, List.forall_mem_cons.mpr ⟨lw_p58, List.forall_mem_cons.mpr ⟨lw_p59, List.forall_mem_cons.mpr ⟨lw_p60, List.forall_mem_cons.mpr ⟨lw_p61, List.forall_mem_cons.mpr ⟨lw_p62, List.forall_mem_cons.mpr ⟨lw_p63, fun _ h => absurd h List.not_mem_nil⟩⟩⟩⟩⟩⟩⟩⟩⟩⟩⟩⟩⟩⟩⟩⟩
theorem lw_p64 : lw_okq (⟨"EtaSeriesModel", "takesTwo", "(I)V"⟩, 28) := ⟨⟨by decide +kernel, by decide +kernel⟩, List.mem_of_getElem? (i := 652) (by decide +kernel), List.mem_of_getElem? (i := 795) (by decide +kernel), List.mem_of_getElem? (i := 796) (by decide +kernel)⟩
theorem lw_p65 : lw_okq (⟨"EtaSeriesModel", "joins", "(I)I"⟩, 28) := ⟨⟨by decide +kernel, by decide +kernel⟩, List.mem_of_getElem? (i := 652) (by decide +kernel), List.mem_of_getElem? (i := 799) (by decide +kernel), List.mem_of_getElem? (i := 800) (by decide +kernel)⟩
theorem lw_p66 : lw_okq (⟨"EtaSeriesModel", "over", "()I"⟩, 28) := ⟨⟨by decide +kernel, by decide +kernel⟩, List.mem_of_getElem? (i := 652) (by decide +kernel), List.mem_of_getElem? (i := 803) (by decide +kernel), List.mem_of_getElem? (i := 804) (by decide +kernel)⟩
theorem lw_p67 : lw_okq (⟨"EtaSeriesModel", "product", "(I)J"⟩, 28) := ⟨⟨by decide +kernel, by decide +kernel⟩, List.mem_of_getElem? (i := 652) (by decide +kernel), List.mem_of_getElem? (i := 812) (by decide +kernel), List.mem_of_getElem? (i := 813) (by decide +kernel)⟩
theorem lw_p68 : lw_okq (⟨"EtaSeriesModel", "wide", "()I"⟩, 28) := ⟨⟨by decide +kernel, by decide +kernel⟩, List.mem_of_getElem? (i := 652) (by decide +kernel), List.mem_of_getElem? (i := 816) (by decide +kernel), List.mem_of_getElem? (i := 817) (by decide +kernel)⟩
theorem lw_p69 : lw_okq (⟨"EtaSeriesModel", "changes", "(II)I"⟩, 28) := ⟨⟨by decide +kernel, by decide +kernel⟩, List.mem_of_getElem? (i := 652) (by decide +kernel), List.mem_of_getElem? (i := 830) (by decide +kernel), List.mem_of_getElem? (i := 831) (by decide +kernel)⟩
theorem lw_p70 : lw_okq (⟨"EtaSeriesModel", "powers", "(I)I"⟩, 28) := ⟨⟨by decide +kernel, by decide +kernel⟩, List.mem_of_getElem? (i := 652) (by decide +kernel), List.mem_of_getElem? (i := 835) (by decide +kernel), List.mem_of_getElem? (i := 836) (by decide +kernel)⟩
theorem lw_p71 : lw_okq (⟨"EtaSeriesModel", "copiesToTwo", "()V"⟩, 28) := ⟨⟨by decide +kernel, by decide +kernel⟩, List.mem_of_getElem? (i := 652) (by decide +kernel), List.mem_of_getElem? (i := 839) (by decide +kernel), List.mem_of_getElem? (i := 840) (by decide +kernel)⟩
theorem lw_p72 : lw_okq (⟨"EtaSeriesModel", "goesOn", "()V"⟩, 28) := ⟨⟨by decide +kernel, by decide +kernel⟩, List.mem_of_getElem? (i := 652) (by decide +kernel), List.mem_of_getElem? (i := 843) (by decide +kernel), List.mem_of_getElem? (i := 844) (by decide +kernel)⟩
theorem lw_p73 : lw_okq (⟨"EtaSeriesModel", "there", "()I"⟩, 28) := ⟨⟨by decide +kernel, by decide +kernel⟩, List.mem_of_getElem? (i := 652) (by decide +kernel), List.mem_of_getElem? (i := 865) (by decide +kernel), List.mem_of_getElem? (i := 866) (by decide +kernel)⟩
theorem lw_p74 : lw_okq (⟨"EtaSeriesModel", "isText", "()Z"⟩, 28) := ⟨⟨by decide +kernel, by decide +kernel⟩, List.mem_of_getElem? (i := 652) (by decide +kernel), List.mem_of_getElem? (i := 896) (by decide +kernel), List.mem_of_getElem? (i := 897) (by decide +kernel)⟩
theorem lw_p75 : lw_okq (⟨"EtaSeriesModel", "here", "()I"⟩, 28) := ⟨⟨by decide +kernel, by decide +kernel⟩, List.mem_of_getElem? (i := 652) (by decide +kernel), List.mem_of_getElem? (i := 900) (by decide +kernel), List.mem_of_getElem? (i := 901) (by decide +kernel)⟩
theorem lw_p76 : lw_okq (⟨"EtaSeriesModel", "readsAtom", "()Z"⟩, 28) := ⟨⟨by decide +kernel, by decide +kernel⟩, List.mem_of_getElem? (i := 652) (by decide +kernel), List.mem_of_getElem? (i := 904) (by decide +kernel), List.mem_of_getElem? (i := 905) (by decide +kernel)⟩
theorem lw_p77 : lw_okq (⟨"EtaSeriesModel", "number", "()I"⟩, 28) := ⟨⟨by decide +kernel, by decide +kernel⟩, List.mem_of_getElem? (i := 652) (by decide +kernel), List.mem_of_getElem? (i := 911) (by decide +kernel), List.mem_of_getElem? (i := 912) (by decide +kernel)⟩
theorem lw_p78 : lw_okq (⟨"EtaSeriesModel", "has", "(I)Z"⟩, 28) := ⟨⟨by decide +kernel, by decide +kernel⟩, List.mem_of_getElem? (i := 652) (by decide +kernel), List.mem_of_getElem? (i := 917) (by decide +kernel), List.mem_of_getElem? (i := 918) (by decide +kernel)⟩
theorem lw_p79 : lw_okq (⟨"EtaSeriesModel", "works", "()I"⟩, 28) := ⟨⟨by decide +kernel, by decide +kernel⟩, List.mem_of_getElem? (i := 652) (by decide +kernel), List.mem_of_getElem? (i := 923) (by decide +kernel), List.mem_of_getElem? (i := 924) (by decide +kernel)⟩
def lw_privs_5 : List (MethodName × Nat) := [(⟨"EtaSeriesModel", "takesTwo", "(I)V"⟩, 28), (⟨"EtaSeriesModel", "joins", "(I)I"⟩, 28), (⟨"EtaSeriesModel", "over", "()I"⟩, 28), (⟨"EtaSeriesModel", "product", "(I)J"⟩, 28), (⟨"EtaSeriesModel", "wide", "()I"⟩, 28), (⟨"EtaSeriesModel", "changes", "(II)I"⟩, 28), (⟨"EtaSeriesModel", "powers", "(I)I"⟩, 28), (⟨"EtaSeriesModel", "copiesToTwo", "()V"⟩, 28), (⟨"EtaSeriesModel", "goesOn", "()V"⟩, 28), (⟨"EtaSeriesModel", "there", "()I"⟩, 28), (⟨"EtaSeriesModel", "isText", "()Z"⟩, 28), (⟨"EtaSeriesModel", "here", "()I"⟩, 28), (⟨"EtaSeriesModel", "readsAtom", "()Z"⟩, 28), (⟨"EtaSeriesModel", "number", "()I"⟩, 28), (⟨"EtaSeriesModel", "has", "(I)Z"⟩, 28), (⟨"EtaSeriesModel", "works", "()I"⟩, 28)]
theorem lw_r5 : ∀ q ∈ lw_privs_5, lw_okq q := List.forall_mem_cons.mpr ⟨lw_p64, List.forall_mem_cons.mpr ⟨lw_p65, List.forall_mem_cons.mpr ⟨lw_p66, List.forall_mem_cons.mpr ⟨lw_p67, List.forall_mem_cons.mpr ⟨lw_p68, List.forall_mem_cons.mpr ⟨lw_p69, List.forall_mem_cons.mpr ⟨lw_p70, List.forall_mem_cons.mpr ⟨lw_p71, List.forall_mem_cons.mpr ⟨lw_p72, List.forall_mem_cons.mpr ⟨lw_p73, List.forall_mem_cons.mpr ⟨lw_p74, List.forall_mem_cons.mpr ⟨lw_p75, List.forall_mem_cons.mpr ⟨lw_p76, List.forall_mem_cons.mpr ⟨lw_p77, List.forall_mem_cons.mpr ⟨lw_p78, List.forall_mem_cons.mpr ⟨lw_p79, fun _ h => absurd h List.not_mem_nil⟩⟩⟩⟩⟩⟩⟩⟩⟩⟩⟩⟩⟩⟩⟩⟩
theorem lw_p80 : lw_okq (⟨"EtaSeriesModel", "begins", "()V"⟩, 28) := ⟨⟨by decide +kernel, by decide +kernel⟩, List.mem_of_getElem? (i := 652) (by decide +kernel), List.mem_of_getElem? (i := 927) (by decide +kernel), List.mem_of_getElem? (i := 928) (by decide +kernel)⟩
theorem lw_p81 : lw_okq (⟨"EtaSeriesModel", "makesAtom", "()I"⟩, 28) := ⟨⟨by decide +kernel, by decide +kernel⟩, List.mem_of_getElem? (i := 652) (by decide +kernel), List.mem_of_getElem? (i := 931) (by decide +kernel), List.mem_of_getElem? (i := 932) (by decide +kernel)⟩
theorem lw_p82 : lw_okq (⟨"EtaSeriesModel", "joinsAtom", "()I"⟩, 28) := ⟨⟨by decide +kernel, by decide +kernel⟩, List.mem_of_getElem? (i := 652) (by decide +kernel), List.mem_of_getElem? (i := 935) (by decide +kernel), List.mem_of_getElem? (i := 936) (by decide +kernel)⟩
theorem lw_p83 : lw_okq (⟨"EtaSeriesModel", "broke", "(II)I"⟩, 28) := ⟨⟨by decide +kernel, by decide +kernel⟩, List.mem_of_getElem? (i := 652) (by decide +kernel), List.mem_of_getElem? (i := 939) (by decide +kernel), List.mem_of_getElem? (i := 940) (by decide +kernel)⟩
theorem lw_p84 : lw_okq (⟨"EtaSeriesModel", "joinsPart", "()I"⟩, 28) := ⟨⟨by decide +kernel, by decide +kernel⟩, List.mem_of_getElem? (i := 652) (by decide +kernel), List.mem_of_getElem? (i := 943) (by decide +kernel), List.mem_of_getElem? (i := 944) (by decide +kernel)⟩
theorem lw_p85 : lw_okq (⟨"EtaSeriesModel", "takesFrom", "([J)V"⟩, 28) := ⟨⟨by decide +kernel, by decide +kernel⟩, List.mem_of_getElem? (i := 652) (by decide +kernel), List.mem_of_getElem? (i := 947) (by decide +kernel), List.mem_of_getElem? (i := 948) (by decide +kernel)⟩
theorem lw_p86 : lw_okq (⟨"EtaSeriesModel", "lays", "([J)V"⟩, 28) := ⟨⟨by decide +kernel, by decide +kernel⟩, List.mem_of_getElem? (i := 652) (by decide +kernel), List.mem_of_getElem? (i := 951) (by decide +kernel), List.mem_of_getElem? (i := 952) (by decide +kernel)⟩
theorem lw_p87 : lw_okq (⟨"EtaSeriesModel", "joinsSum", "()I"⟩, 28) := ⟨⟨by decide +kernel, by decide +kernel⟩, List.mem_of_getElem? (i := 652) (by decide +kernel), List.mem_of_getElem? (i := 955) (by decide +kernel), List.mem_of_getElem? (i := 956) (by decide +kernel)⟩
theorem lw_p88 : lw_okq (⟨"EtaSeriesModel", "failsAt", "(IIII)I"⟩, 28) := ⟨⟨by decide +kernel, by decide +kernel⟩, List.mem_of_getElem? (i := 652) (by decide +kernel), List.mem_of_getElem? (i := 970) (by decide +kernel), List.mem_of_getElem? (i := 971) (by decide +kernel)⟩
theorem lw_p89 : lw_okq (⟨"EtaSeriesModel", "why", "(IIII)I"⟩, 28) := ⟨⟨by decide +kernel, by decide +kernel⟩, List.mem_of_getElem? (i := 652) (by decide +kernel), List.mem_of_getElem? (i := 1008) (by decide +kernel), List.mem_of_getElem? (i := 1009) (by decide +kernel)⟩
theorem lw_p90 : lw_okq (⟨"EtaSeriesModel", "whyPairs", "(IIII)I"⟩, 28) := ⟨⟨by decide +kernel, by decide +kernel⟩, List.mem_of_getElem? (i := 652) (by decide +kernel), List.mem_of_getElem? (i := 1025) (by decide +kernel), List.mem_of_getElem? (i := 1026) (by decide +kernel)⟩
theorem lw_p91 : lw_okq (⟨"EtaSeriesModel", "levelOf", "(II)I"⟩, 28) := ⟨⟨by decide +kernel, by decide +kernel⟩, List.mem_of_getElem? (i := 652) (by decide +kernel), List.mem_of_getElem? (i := 1031) (by decide +kernel), List.mem_of_getElem? (i := 1032) (by decide +kernel)⟩
def lw_privs_6 : List (MethodName × Nat) := [(⟨"EtaSeriesModel", "begins", "()V"⟩, 28), (⟨"EtaSeriesModel", "makesAtom", "()I"⟩, 28), (⟨"EtaSeriesModel", "joinsAtom", "()I"⟩, 28), (⟨"EtaSeriesModel", "broke", "(II)I"⟩, 28), (⟨"EtaSeriesModel", "joinsPart", "()I"⟩, 28), (⟨"EtaSeriesModel", "takesFrom", "([J)V"⟩, 28), (⟨"EtaSeriesModel", "lays", "([J)V"⟩, 28), (⟨"EtaSeriesModel", "joinsSum", "()I"⟩, 28), (⟨"EtaSeriesModel", "failsAt", "(IIII)I"⟩, 28), (⟨"EtaSeriesModel", "why", "(IIII)I"⟩, 28), (⟨"EtaSeriesModel", "whyPairs", "(IIII)I"⟩, 28), (⟨"EtaSeriesModel", "levelOf", "(II)I"⟩, 28)]
theorem lw_r6 : ∀ q ∈ lw_privs_6, lw_okq q := List.forall_mem_cons.mpr ⟨lw_p80, List.forall_mem_cons.mpr ⟨lw_p81, List.forall_mem_cons.mpr ⟨lw_p82, List.forall_mem_cons.mpr ⟨lw_p83, List.forall_mem_cons.mpr ⟨lw_p84, List.forall_mem_cons.mpr ⟨lw_p85, List.forall_mem_cons.mpr ⟨lw_p86, List.forall_mem_cons.mpr ⟨lw_p87, List.forall_mem_cons.mpr ⟨lw_p88, List.forall_mem_cons.mpr ⟨lw_p89, List.forall_mem_cons.mpr ⟨lw_p90, List.forall_mem_cons.mpr ⟨lw_p91, fun _ h => absurd h List.not_mem_nil⟩⟩⟩⟩⟩⟩⟩⟩⟩⟩⟩⟩
def lw_privs : List (MethodName × Nat) := lw_privs_1 ++ (lw_privs_2 ++ (lw_privs_3 ++ (lw_privs_4 ++ (lw_privs_5 ++ (lw_privs_6)))))
def lw_tbl : List Cond := k2_sels lw_privs ++ tables_1
theorem lw_privs_ok : ∀ q ∈ lw_privs, lw_okq q := by
  show ∀ q ∈ lw_privs_1 ++ (lw_privs_2 ++ (lw_privs_3 ++ (lw_privs_4 ++ (lw_privs_5 ++ (lw_privs_6))))), lw_okq q
  exact List.forall_mem_append.mpr ⟨lw_r1, List.forall_mem_append.mpr ⟨lw_r2, List.forall_mem_append.mpr ⟨lw_r3, List.forall_mem_append.mpr ⟨lw_r4, List.forall_mem_append.mpr ⟨lw_r5, lw_r6⟩⟩⟩⟩⟩
-- ===== end of PART A; then your names; then what follows =====
end
section
/-! A second machine, over numbers alone: objects are places of a fixed layout, a state is what their whole-number fields and rows hold. mz_Ev: from a state a method comes to a return with Q. -/
abbrev mz_V : Type := Int32 ⊕ (Int64 ⊕ (Nat × Nat))
abbrev mz_I (x : Int32) : mz_V := .inl x
abbrev mz_L (x : Int64) : mz_V := .inr (.inl x)
abbrev mz_R (t p : Nat) : mz_V := .inr (.inr (t, p))
abbrev mz_M : Type := (Nat → Nat → Int32) × (Nat → Nat → Int64)
abbrev mz_Lo : Type := List (Nat × mz_V)
abbrev mz_S : Type := Nat × mz_Lo × List mz_V × mz_M
/-- instruction, length, int constant, long constant, numbers, a switch's pairs, locals kept at the target, locals kept at the next instruction -/
abbrev mz_E : Type := Instr × Nat × Int32 × Int64 × List Nat × List (Nat × Nat) × Option (List Nat) × Option (List Nat)
abbrev mz_T : Type := List (Option mz_E)
abbrev mz_q (i : Instr) (n : Nat) : Option mz_E := some (i, n, 0, 0, [], [], none, none)
abbrev mz_qc (i : Instr) (n : Nat) (c : Int32) : Option mz_E := some (i, n, c, 0, [], [], none, none)
abbrev mz_ql (i : Instr) (n : Nat) (c : Int64) (a : List Nat) : Option mz_E := some (i, n, 0, c, a, [], none, none)
abbrev mz_qa (i : Instr) (n : Nat) (a : List Nat) : Option mz_E := some (i, n, 0, 0, a, [], none, none)
abbrev mz_qk (i : Instr) (n : Nat) (c : Int32) (a : List Nat) (ps : List (Nat × Nat)) (kt kn : Option (List Nat)) : Option mz_E := some (i, n, c, 0, a, ps, kt, kn)
def mz_cat (v : mz_V) : Nat := match v with
  | .inl _ => 1
  | .inr (.inl _) => 2
  | .inr (.inr _) => 1
def mz_nth {α : Type} : List α → Nat → Option α
  | [], _ => none
  | a :: _, 0 => some a
  | _ :: r, n + 1 => mz_nth r n
def mz_lk : mz_Lo → Nat → Option mz_V
  | [], _ => none
  | q :: r, i => bif Nat.beq q.1 i then some q.2 else mz_lk r i
def mz_ins (i : Nat) (v : mz_V) : mz_Lo → mz_Lo
  | [] => [(i, v)]
  | q :: r => bif Nat.ble q.1 i then q :: mz_ins i v r else (i, v) :: q :: r
/-- what stays when a value is stored at i (and, where w, at i + 1) -/
def mz_rm (i : Nat) (w : Bool) : mz_Lo → mz_Lo
  | [] => []
  | q :: r => bif Nat.beq q.1 i || (w && Nat.beq q.1 (i + 1)) || (Nat.beq (q.1 + 1) i && Nat.beq (mz_cat q.2) 2) then mz_rm i w r else q :: mz_rm i w r
def mz_st1 (L : mz_Lo) (i : Nat) (v : mz_V) : mz_Lo := mz_ins i v (mz_rm i false L)
def mz_st2 (L : mz_Lo) (i : Nat) (v : mz_V) : mz_Lo := mz_ins i v (mz_rm i true L)
def mz_el (i : Nat) : List Nat → Bool
  | [] => false
  | k :: r => Nat.beq k i || mz_el i r
def mz_kl (ks : List Nat) : mz_Lo → mz_Lo
  | [] => []
  | q :: r => bif mz_el q.1 ks then q :: mz_kl ks r else mz_kl ks r
def mz_kp (o : Option (List Nat)) (L : mz_Lo) : mz_Lo := match o with
  | none => L
  | some ks => mz_kl ks L
/-- a field: a number, or a fixed place (from its own on, or from the start), of a kind -/
abbrev mz_F : Type := Option (Bool × Nat × Nat)
/-- an object: its class's number, its fields; a row: number of its type, length, 0 ints 1 longs 2 references, then of these their kind and places -/
abbrev mz_Sh : Type := (Nat × List mz_F) ⊕ (Nat × Nat × Nat × Nat × Bool × Nat × Nat)
def mz_pl (b : Bool) (p off : Nat) : Nat := bif b then p + off else off
def mz_wr {α : Type} (g : Nat → α) (p : Nat) (f : α) : Nat → α := fun q => if q = p then f else g q
def mz_wI (μ : mz_M) (p k : Nat) (x : Int32) : mz_M := (mz_wr μ.1 p (upd (μ.1 p) k x), μ.2)
def mz_wL (μ : mz_M) (p k : Nat) (x : Int64) : mz_M := (μ.1, mz_wr μ.2 p (vp_updL (μ.2 p) k x))
def mz_cI (μ : mz_M) (p0 p1 a b n : Nat) : mz_M := (mz_wr μ.1 p1 (va_cpy (μ.1 p0) (μ.1 p1) a b n), μ.2)
def mz_cL (μ : mz_M) (p0 p1 a b n : Nat) : mz_M := (μ.1, mz_wr μ.2 p1 (va_cpy (μ.2 p0) (μ.2 p1) a b n))
def mz_cs : List mz_V → Nat
  | [] => 0
  | v :: r => mz_cat v + mz_cs r
def mz_tk : Nat → List mz_V → List mz_V → Option (List mz_V × List mz_V)
  | 0, acc, st => some (acc, st)
  | _ + 1, _, [] => none
  | n + 1, acc, v :: st => mz_tk n (v :: acc) st
def mz_ent : Nat → List mz_V → mz_Lo
  | _, [] => []
  | i, v :: r => (i, v) :: mz_ent (i + mz_cat v) r
abbrev mz_Cl : Type := Nat → List mz_V → mz_M → Option mz_V → mz_M → Prop
/-- one and two numbers from the stack -/
def mz_p1 (st : List mz_V) (f : Int32 → List mz_V → Prop) : Prop := match st with
  | .inl x :: r => f x r
  | _ => False
def mz_p2 (st : List mz_V) (f : Int32 → Int32 → List mz_V → Prop) : Prop := match st with
  | .inl y :: .inl x :: r => f x y r
  | _ => False
def mz_g1 (st : List mz_V) (f : Int64 → List mz_V → Prop) : Prop := match st with
  | .inr (.inl x) :: r => f x r
  | _ => False
def mz_g2 (st : List mz_V) (f : Int64 → Int64 → List mz_V → Prop) : Prop := match st with
  | .inr (.inl y) :: .inr (.inl x) :: r => f x y r
  | _ => False
def mz_h1 (st : List mz_V) (f : Nat → Nat → List mz_V → Prop) : Prop := match st with
  | .inr (.inr (t, p)) :: r => f t p r
  | _ => False
def mz_li (L : mz_Lo) (i : Nat) (f : Int32 → Prop) : Prop := match mz_lk L i with
  | some (.inl x) => f x
  | _ => False
def mz_ll (L : mz_Lo) (i : Nat) (f : Int64 → Prop) : Prop := match mz_lk L i with
  | some (.inr (.inl x)) => f x
  | _ => False
def mz_lr (L : mz_Lo) (i : Nat) (f : Nat → Nat → Prop) : Prop := match mz_lk L i with
  | some (.inr (.inr (t, p))) => f t p
  | _ => False
def mz_a0 (a : List Nat) : Nat := match a with
  | [] => 0
  | k :: _ => k
def mz_ic (op : ClassFile.Cond) (x y : Int32) (A B : Prop) : Prop := match op with
  | .eq => if x = y then A else B
  | .ne => if x = y then B else A
  | .lt => if x < y then A else B
  | .ge => if y ≤ x then A else B
  | .gt => if y < x then A else B
  | .le => if x ≤ y then A else B
def mz_if (op : ClassFile.Cond) (x : Int32) (A B : Prop) : Prop := match op with
  | .eq => if x = 0 then A else B
  | .ne => if x = 0 then B else A
  | .lt => if x < 0 then A else B
  | .ge => if 0 ≤ x then A else B
  | .gt => if 0 < x then A else B
  | .le => if x ≤ 0 then A else B
def mz_sw (x : Int32) (K : Nat → Prop) (d : Nat) : List (Nat × Nat) → Prop
  | [] => K d
  | q :: r => if x = nI q.1 then K q.2 else mz_sw x K d r
def mz_bool (b : Nat) (x : Int32) (A : Prop) : Prop := match b with
  | 0 => A
  | _ + 1 => (x = 0 ∨ x = 1) ∧ A
/-- a call's answer, by its kind: 0 none, 1 int, 2 long, 3 a reference of a kind -/
def mz_an (k t : Nat) (R : Option mz_V → mz_M → Prop) (f : List mz_V → mz_M → Prop) : Prop := match k with
  | 0 => ∃ μ, R none μ ∧ f [] μ
  | 1 => ∃ x μ, R (some (mz_I x)) μ ∧ f [mz_I x] μ
  | 2 => ∃ x μ, R (some (mz_L x)) μ ∧ f [mz_L x] μ
  | _ => ∃ p μ, R (some (mz_R t p)) μ ∧ f [mz_R t p] μ
/-- a call: method, arguments with the object, kind of answer, its own kind; mz_rv: the object is of a class -/
def mz_rv (SH : List mz_Sh) (cj : Nat) (as : List mz_V) : Bool := match as with
  | .inr (.inr (t, _)) :: _ => (match mz_nth SH t with
    | some (.inl (ci, _)) => Nat.beq ci cj
    | _ => false)
  | _ => false
def mz_cl (C : mz_Cl) (g : List mz_V → Bool) (a : List Nat) (st : List mz_V) (μ : mz_M) (f : List mz_V → mz_M → Prop) : Prop := match a with
  | y :: n :: k :: t :: ml :: _ => (match mz_tk n [] st with
    | some (as, rest) => bif Nat.ble (mz_cs rest) 8 && Nat.ble (mz_cs as) ml && g as then mz_an k t (fun r μ' => C y as μ r μ') (fun v μ' => f (v ++ rest) μ') else False
    | none => False)
  | _ => False
/-- System.arraycopy of ints, of longs -/
def mz_ac (SH : List mz_Sh) (st : List mz_V) (fI fL : Nat → Nat → Int32 → Int32 → Int32 → List mz_V → Prop) : Prop := match st with
  | .inl n :: .inl d :: .inr (.inr (t1, p1)) :: .inl s :: .inr (.inr (t0, p0)) :: r => (match mz_nth SH t0, mz_nth SH t1 with
    | some (.inr (_, n0, 0, _)), some (.inr (_, n1, 0, _)) => (¬ s < 0 ∧ ¬ d < 0 ∧ ¬ n < 0 ∧ s.toNatClampNeg + n.toNatClampNeg ≤ n0 ∧ d.toNatClampNeg + n.toNatClampNeg ≤ n1) ∧ (bif Nat.ble (mz_cs r) 8 then fI p0 p1 s d n r else False)
    | some (.inr (_, n0, 1, _)), some (.inr (_, n1, 1, _)) => (¬ s < 0 ∧ ¬ d < 0 ∧ ¬ n < 0 ∧ s.toNatClampNeg + n.toNatClampNeg ≤ n0 ∧ d.toNatClampNeg + n.toNatClampNeg ≤ n1) ∧ (bif Nat.ble (mz_cs r) 8 then fL p0 p1 s d n r else False)
    | _, _ => False)
  | _ => False
end
section
set_option maxHeartbeats 1000000 in
def mz_op (SH : List mz_Sh) (C : mz_Cl) (Q : Option mz_V → mz_M → Prop) (K : mz_S → Prop) (e : mz_E) (pc : Nat) (L : mz_Lo) (st : List mz_V) (μ : mz_M) : Prop :=
  match e with
  | (i, len, c, cl, a, ps, kt, kn) => match i with
    | .iconst _ => K (pc + len, mz_kp kn L, mz_I c :: st, μ)
    | .bipush _ => K (pc + len, mz_kp kn L, mz_I c :: st, μ)
    | .sipush _ => K (pc + len, mz_kp kn L, mz_I c :: st, μ)
    | .ldc _ => K (pc + len, mz_kp kn L, mz_I c :: st, μ)
    | .ldc_w _ => K (pc + len, mz_kp kn L, mz_I c :: st, μ)
    | .lconst _ => K (pc + len, mz_kp kn L, mz_L cl :: st, μ)
    | .ldc2_w _ => K (pc + len, mz_kp kn L, mz_L cl :: st, μ)
    | .iload_n _ => mz_li L (mz_a0 a) fun x => K (pc + len, mz_kp kn L, mz_I x :: st, μ)
    | .iload _ => mz_li L (mz_a0 a) fun x => K (pc + len, mz_kp kn L, mz_I x :: st, μ)
    | .lload_n _ => mz_ll L (mz_a0 a) fun x => K (pc + len, mz_kp kn L, mz_L x :: st, μ)
    | .lload _ => mz_ll L (mz_a0 a) fun x => K (pc + len, mz_kp kn L, mz_L x :: st, μ)
    | .aload_n _ => mz_lr L (mz_a0 a) fun t p => K (pc + len, mz_kp kn L, mz_R t p :: st, μ)
    | .aload _ => mz_lr L (mz_a0 a) fun t p => K (pc + len, mz_kp kn L, mz_R t p :: st, μ)
    | .istore_n _ => mz_p1 st fun x r => K (pc + len, mz_kp kn (mz_st1 L (mz_a0 a) (mz_I x)), r, μ)
    | .istore _ => mz_p1 st fun x r => K (pc + len, mz_kp kn (mz_st1 L (mz_a0 a) (mz_I x)), r, μ)
    | .lstore_n _ => mz_g1 st fun x r => K (pc + len, mz_kp kn (mz_st2 L (mz_a0 a) (mz_L x)), r, μ)
    | .lstore _ => mz_g1 st fun x r => K (pc + len, mz_kp kn (mz_st2 L (mz_a0 a) (mz_L x)), r, μ)
    | .astore_n _ => mz_h1 st fun t p r => K (pc + len, mz_kp kn (mz_st1 L (mz_a0 a) (mz_R t p)), r, μ)
    | .astore _ => mz_h1 st fun t p r => K (pc + len, mz_kp kn (mz_st1 L (mz_a0 a) (mz_R t p)), r, μ)
    | .iinc _ _ => mz_li L (mz_a0 a) fun x => K (pc + len, mz_kp kn (mz_st1 L (mz_a0 a) (mz_I (x + c))), st, μ)
    | .iadd => mz_p2 st fun x y r => K (pc + len, mz_kp kn L, mz_I (x + y) :: r, μ)
    | .isub => mz_p2 st fun x y r => K (pc + len, mz_kp kn L, mz_I (x - y) :: r, μ)
    | .imul => mz_p2 st fun x y r => K (pc + len, mz_kp kn L, mz_I (x * y) :: r, μ)
    | .iand => mz_p2 st fun x y r => K (pc + len, mz_kp kn L, mz_I (x &&& y) :: r, μ)
    | .ior => mz_p2 st fun x y r => K (pc + len, mz_kp kn L, mz_I (x ||| y) :: r, μ)
    | .ixor => mz_p2 st fun x y r => K (pc + len, mz_kp kn L, mz_I (x ^^^ y) :: r, μ)
    | .ishl => mz_p2 st fun x y r => K (pc + len, mz_kp kn L, mz_I (x <<< (y &&& 31)) :: r, μ)
    | .idiv => mz_p2 st fun x y r => ¬ y = 0 ∧ K (pc + len, mz_kp kn L, mz_I (x / y) :: r, μ)
    | .irem => mz_p2 st fun x y r => ¬ y = 0 ∧ K (pc + len, mz_kp kn L, mz_I (x - x / y * y) :: r, μ)
    | .ineg => mz_p1 st fun x r => K (pc + len, mz_kp kn L, mz_I (-x) :: r, μ)
    | .ladd => mz_g2 st fun x y r => K (pc + len, mz_kp kn L, mz_L (x + y) :: r, μ)
    | .lsub => mz_g2 st fun x y r => K (pc + len, mz_kp kn L, mz_L (x - y) :: r, μ)
    | .lmul => mz_g2 st fun x y r => K (pc + len, mz_kp kn L, mz_L (x * y) :: r, μ)
    | .land => mz_g2 st fun x y r => K (pc + len, mz_kp kn L, mz_L (x &&& y) :: r, μ)
    | .ldiv => mz_g2 st fun x y r => ¬ y = 0 ∧ K (pc + len, mz_kp kn L, mz_L (x / y) :: r, μ)
    | .lrem => mz_g2 st fun x y r => ¬ y = 0 ∧ K (pc + len, mz_kp kn L, mz_L (x - x / y * y) :: r, μ)
    | .lneg => mz_g1 st fun x r => K (pc + len, mz_kp kn L, mz_L (-x) :: r, μ)
    | .lcmp => mz_g2 st fun x y r => K (pc + len, mz_kp kn L, mz_I (lg_cmp x y) :: r, μ)
    | .i2l => mz_p1 st fun x r => K (pc + len, mz_kp kn L, mz_L x.toInt64 :: r, μ)
    | .l2i => mz_g1 st fun x r => K (pc + len, mz_kp kn L, mz_I x.toInt32 :: r, μ)
    | .i2b => mz_p1 st fun x r => K (pc + len, mz_kp kn L, mz_I x.toInt8.toInt32 :: r, μ)
    | .i2s => mz_p1 st fun x r => K (pc + len, mz_kp kn L, mz_I x.toInt16.toInt32 :: r, μ)
    | .pop => (match st with
      | .inl _ :: r => K (pc + len, mz_kp kn L, r, μ)
      | _ => False)
    | .dup => (match st with
      | .inl x :: r => K (pc + len, mz_kp kn L, mz_I x :: mz_I x :: r, μ)
      | .inr (.inr (t, p)) :: r => K (pc + len, mz_kp kn L, mz_R t p :: mz_R t p :: r, μ)
      | _ => False)
    | .dup2 => (match st with
      | .inl x :: .inr (.inr (t, p)) :: r => K (pc + len, mz_kp kn L, mz_I x :: mz_R t p :: mz_I x :: mz_R t p :: r, μ)
      | _ => False)
    | .goto _ => K (mz_a0 a, mz_kp kt L, st, μ)
    | .if_icmp op _ => mz_p2 st fun x y r => mz_ic op x y (K (mz_a0 a, mz_kp kt L, r, μ)) (K (pc + len, mz_kp kn L, r, μ))
    | .ifCond op _ => mz_p1 st fun x r => mz_if op x (K (mz_a0 a, mz_kp kt L, r, μ)) (K (pc + len, mz_kp kn L, r, μ))
    | .tableswitch _ _ _ _ => mz_p1 st fun x r => mz_sw x (fun t => K (t, L, r, μ)) (mz_a0 a) ps
    | .lookupswitch _ _ => mz_p1 st fun x r => mz_sw x (fun t => K (t, L, r, μ)) (mz_a0 a) ps
    | .getfield _ => mz_h1 st fun t p r => (match mz_nth SH t, a with
      | some (.inl (ci, fs)), cj :: k :: _ => bif Nat.beq ci cj then (match mz_nth fs k with
        | some none => K (pc + len, mz_kp kn L, mz_I (μ.1 p k) :: r, μ)
        | some (some (b, off, t')) => K (pc + len, mz_kp kn L, mz_R t' (mz_pl b p off) :: r, μ)
        | none => False) else False
      | _, _ => False)
    | .putfield _ => mz_p1 st fun x r0 => mz_h1 r0 fun t p r => (match mz_nth SH t, a with
      | some (.inl (ci, fs)), cj :: k :: b :: _ => bif Nat.beq ci cj then (match mz_nth fs k with
        | some none => mz_bool b x (K (pc + len, mz_kp kn L, r, mz_wI μ p k x))
        | _ => False) else False
      | _, _ => False)
    | .iaload => mz_p1 st fun x r0 => mz_h1 r0 fun t p r => (match mz_nth SH t with
      | some (.inr (_, n, 0, _)) => vp_in x n ∧ K (pc + len, mz_kp kn L, mz_I (μ.1 p x.toNatClampNeg) :: r, μ)
      | _ => False)
    | .laload => mz_p1 st fun x r0 => mz_h1 r0 fun t p r => (match mz_nth SH t with
      | some (.inr (_, n, 1, _)) => vp_in x n ∧ K (pc + len, mz_kp kn L, mz_L (μ.2 p x.toNatClampNeg) :: r, μ)
      | _ => False)
    | .aaload => mz_p1 st fun x r0 => mz_h1 r0 fun t p r => (match mz_nth SH t with
      | some (.inr (_, n, 2, t', b, off, w)) => vp_in x n ∧ K (pc + len, mz_kp kn L, mz_R t' (mz_pl b p off + w * x.toNatClampNeg) :: r, μ)
      | _ => False)
    | .iastore => mz_p1 st fun v r1 => mz_p1 r1 fun x r0 => mz_h1 r0 fun t p r => (match mz_nth SH t with
      | some (.inr (_, n, 0, _)) => vp_in x n ∧ K (pc + len, mz_kp kn L, r, mz_wI μ p x.toNatClampNeg v)
      | _ => False)
    | .lastore => mz_g1 st fun v r1 => mz_p1 r1 fun x r0 => mz_h1 r0 fun t p r => (match mz_nth SH t with
      | some (.inr (_, n, 1, _)) => vp_in x n ∧ K (pc + len, mz_kp kn L, r, mz_wL μ p x.toNatClampNeg v)
      | _ => False)
    | .arraylength => mz_h1 st fun t p r => (match mz_nth SH t with
      | some (.inr (_, n, _)) => K (pc + len, mz_kp kn L, mz_I (nI n) :: r, μ)
      | _ => False)
    | .invokevirtual _ => (match a with
      | cj :: a' => mz_cl C (mz_rv SH cj) a' st μ fun v μ' => K (pc + len, mz_kp kn L, v, μ')
      | [] => False)
    | .invokestatic _ => (match a with
      | 0 :: _ => mz_ac SH st (fun p0 p1 s d n r => K (pc + len, mz_kp kn L, r, mz_cI μ p0 p1 s.toNatClampNeg d.toNatClampNeg n.toNatClampNeg)) (fun p0 p1 s d n r => K (pc + len, mz_kp kn L, r, mz_cL μ p0 p1 s.toNatClampNeg d.toNatClampNeg n.toNatClampNeg))
      | _ :: a' => mz_cl C (fun _ => true) a' st μ fun v μ' => K (pc + len, mz_kp kn L, v, μ')
      | [] => False)
    | .ireturn => (match st with
      | [.inl x] => mz_bool (mz_a0 a) x (Q (some (mz_I x)) μ)
      | _ => False)
    | .lreturn => (match st with
      | [.inr (.inl x)] => Q (some (mz_L x)) μ
      | _ => False)
    | .areturn => (match st with
      | [.inr (.inr (t, p))] => Q (some (mz_R t p)) μ
      | _ => False)
    | .return_ => (match st with
      | [] => Q none μ
      | _ => False)
    | _ => False
def mz_step (SH : List mz_Sh) (tab : mz_T) (C : mz_Cl) (Q : Option mz_V → mz_M → Prop) (K : mz_S → Prop) (s : mz_S) : Prop := match mz_nth tab s.1 with
  | some (some e) => mz_op SH C Q K e s.1 s.2.1 s.2.2.1 s.2.2.2
  | _ => False
def mz_Ev (SH : List mz_Sh) (tab : mz_T) (C : mz_Cl) (Q : Option mz_V → mz_M → Prop) (s : mz_S) : Prop := ∀ P : mz_S → Prop, (∀ s, mz_step SH tab C Q P s → P s) → P s
def mz_Rel (SH : List mz_Sh) (TB : Nat → mz_T) : Nat → mz_Cl
  | 0 => fun _ _ _ _ _ => False
  | d + 1 => fun y a μ r μ' => mz_Ev SH (TB y) (mz_Rel SH TB d) (fun r2 μ2 => r2 = r ∧ μ2 = μ') (0, mz_ent 0 a, [], μ)
end
section
theorem mz_p1_m {st : List mz_V} {f g : Int32 → List mz_V → Prop} (h : ∀ x r, f x r → g x r) : mz_p1 st f → mz_p1 st g := by
  match st with
  | [] => exact id
  | .inl x :: r => exact h x r
  | .inr _ :: _ => exact id
theorem mz_p2_m {st : List mz_V} {f g : Int32 → Int32 → List mz_V → Prop} (h : ∀ x y r, f x y r → g x y r) : mz_p2 st f → mz_p2 st g := by
  match st with
  | [] => exact id
  | [.inl _] => exact id
  | .inl y :: .inl x :: r => exact h x y r
  | .inl _ :: .inr _ :: _ => exact id
  | .inr _ :: _ => exact id
theorem mz_g1_m {st : List mz_V} {f g : Int64 → List mz_V → Prop} (h : ∀ x r, f x r → g x r) : mz_g1 st f → mz_g1 st g := by
  match st with
  | [] => exact id
  | .inl _ :: _ => exact id
  | .inr (.inl x) :: r => exact h x r
  | .inr (.inr _) :: _ => exact id
theorem mz_g2_m {st : List mz_V} {f g : Int64 → Int64 → List mz_V → Prop} (h : ∀ x y r, f x y r → g x y r) : mz_g2 st f → mz_g2 st g := by
  match st with
  | [] => exact id
  | .inl _ :: _ => exact id
  | .inr (.inr _) :: _ => exact id
  | [.inr (.inl _)] => exact id
  | .inr (.inl _) :: .inl _ :: _ => exact id
  | .inr (.inl _) :: .inr (.inr _) :: _ => exact id
  | .inr (.inl y) :: .inr (.inl x) :: r => exact h x y r
theorem mz_h1_m {st : List mz_V} {f g : Nat → Nat → List mz_V → Prop} (h : ∀ t p r, f t p r → g t p r) : mz_h1 st f → mz_h1 st g := by
  match st with
  | [] => exact id
  | .inl _ :: _ => exact id
  | .inr (.inl _) :: _ => exact id
  | .inr (.inr (t, p)) :: r => exact h t p r
theorem mz_li_m {L : mz_Lo} {i : Nat} {f g : Int32 → Prop} (h : ∀ x, f x → g x) : mz_li L i f → mz_li L i g := by
  unfold mz_li
  match mz_lk L i with
  | none => exact id
  | some (.inl x) => exact h x
  | some (.inr _) => exact id
theorem mz_ll_m {L : mz_Lo} {i : Nat} {f g : Int64 → Prop} (h : ∀ x, f x → g x) : mz_ll L i f → mz_ll L i g := by
  unfold mz_ll
  match mz_lk L i with
  | none => exact id
  | some (.inl _) => exact id
  | some (.inr (.inl x)) => exact h x
  | some (.inr (.inr _)) => exact id
theorem mz_lr_m {L : mz_Lo} {i : Nat} {f g : Nat → Nat → Prop} (h : ∀ t p, f t p → g t p) : mz_lr L i f → mz_lr L i g := by
  unfold mz_lr
  match mz_lk L i with
  | none => exact id
  | some (.inl _) => exact id
  | some (.inr (.inl _)) => exact id
  | some (.inr (.inr (t, p))) => exact h t p
theorem mz_ite_m {c : Prop} [Decidable c] {A B A' B' : Prop} (ha : A → A') (hb : B → B') : (if c then A else B) → (if c then A' else B') := by
  by_cases h : c
  · rw [if_pos h, if_pos h]; exact ha
  · rw [if_neg h, if_neg h]; exact hb
theorem mz_ic_m {op : ClassFile.Cond} {x y : Int32} {A B A' B' : Prop} (ha : A → A') (hb : B → B') : mz_ic op x y A B → mz_ic op x y A' B' := by
  cases op <;> first | exact mz_ite_m ha hb | exact mz_ite_m hb ha
theorem mz_if_m {op : ClassFile.Cond} {x : Int32} {A B A' B' : Prop} (ha : A → A') (hb : B → B') : mz_if op x A B → mz_if op x A' B' := by
  cases op <;> first | exact mz_ite_m ha hb | exact mz_ite_m hb ha
theorem mz_sw_m {x : Int32} {K K' : Nat → Prop} {d : Nat} (h : ∀ t, K t → K' t) : ∀ {ps : List (Nat × Nat)}, mz_sw x K d ps → mz_sw x K' d ps
  | [] => h d
  | q :: r => by
    unfold mz_sw
    exact mz_ite_m (h q.2) (mz_sw_m h)
theorem mz_bool_m {b : Nat} {x : Int32} {A A' : Prop} (h : A → A') : mz_bool b x A → mz_bool b x A' := by
  match b with
  | 0 => exact h
  | _ + 1 => exact fun q => ⟨q.1, h q.2⟩
theorem mz_bif_m {b : Bool} {A A' : Prop} (h : A → A') : (bif b then A else False) → (bif b then A' else False) := by
  cases b
  · exact id
  · exact h
theorem mz_an_m {k t : Nat} {R : Option mz_V → mz_M → Prop} {f g : List mz_V → mz_M → Prop} (h : ∀ v μ, f v μ → g v μ) : mz_an k t R f → mz_an k t R g := by
  match k with
  | 0 => exact fun ⟨μ, a, b⟩ => ⟨μ, a, h _ _ b⟩
  | 1 => exact fun ⟨x, μ, a, b⟩ => ⟨x, μ, a, h _ _ b⟩
  | 2 => exact fun ⟨x, μ, a, b⟩ => ⟨x, μ, a, h _ _ b⟩
  | _ + 3 => exact fun ⟨x, μ, a, b⟩ => ⟨x, μ, a, h _ _ b⟩
theorem mz_cl_m {C : mz_Cl} {ga : List mz_V → Bool} {a : List Nat} {st : List mz_V} {μ : mz_M} {f g : List mz_V → mz_M → Prop} (h : ∀ v μ, f v μ → g v μ) : mz_cl C ga a st μ f → mz_cl C ga a st μ g := by
  match a with
  | [] => exact id
  | [_] => exact id
  | [_, _] => exact id
  | [_, _, _] => exact id
  | [_, _, _, _] => exact id
  | y :: n :: k :: t :: ml :: _ =>
    show (match mz_tk n [] st with
    | some (as, rest) => bif Nat.ble (mz_cs rest) 8 && Nat.ble (mz_cs as) ml && ga as then mz_an k t (fun r μ' => C y as μ r μ') (fun v μ' => f (v ++ rest) μ') else False
    | none => False) → (match mz_tk n [] st with
    | some (as, rest) => bif Nat.ble (mz_cs rest) 8 && Nat.ble (mz_cs as) ml && ga as then mz_an k t (fun r μ' => C y as μ r μ') (fun v μ' => g (v ++ rest) μ') else False
    | none => False)
    cases mz_tk n [] st with
    | none => exact id
    | some q => exact mz_bif_m (mz_an_m (fun v μ => h _ _))
theorem mz_ac_m {SH : List mz_Sh} {st : List mz_V} {fI fL gI gL : Nat → Nat → Int32 → Int32 → Int32 → List mz_V → Prop} (h1 : ∀ a b c d e f, fI a b c d e f → gI a b c d e f) (h2 : ∀ a b c d e f, fL a b c d e f → gL a b c d e f) : mz_ac SH st fI fL → mz_ac SH st gI gL := by
  unfold mz_ac
  split
  · split
    · exact fun q => ⟨q.1, mz_bif_m (h1 _ _ _ _ _ _) q.2⟩
    · exact fun q => ⟨q.1, mz_bif_m (h2 _ _ _ _ _ _) q.2⟩
    · exact id
  · exact id
set_option maxHeartbeats 4000000 in
theorem mz_op_m {SH : List mz_Sh} {C : mz_Cl} {Q : Option mz_V → mz_M → Prop} {K K' : mz_S → Prop} (hK : ∀ s, K s → K' s) {e : mz_E} {pc : Nat} {L : mz_Lo} {st : List mz_V} {μ : mz_M} : mz_op SH C Q K e pc L st μ → mz_op SH C Q K' e pc L st μ := by
  obtain ⟨i, len, c, cl, a, ps, kt, kn⟩ := e
  cases i
  case dup =>
    match st with
    | [] => exact id
    | .inl x :: r => exact hK _
    | .inr (.inl _) :: _ => exact id
    | .inr (.inr (t, p)) :: r => exact hK _
  case pop =>
    match st with
    | [] => exact id
    | .inl x :: r => exact hK _
    | .inr _ :: _ => exact id
  case dup2 =>
    match st with
    | [] => exact id
    | .inr _ :: _ => exact id
    | [.inl _] => exact id
    | .inl _ :: .inl _ :: _ => exact id
    | .inl _ :: .inr (.inl _) :: _ => exact id
    | .inl x :: .inr (.inr (t, p)) :: r => exact hK _
  case if_icmp op off => exact mz_p2_m fun x y r => mz_ic_m (hK _) (hK _)
  case ifCond op off => exact mz_p1_m fun x r => mz_if_m (hK _) (hK _)
  case tableswitch => exact mz_p1_m fun x r => mz_sw_m (fun t => hK _)
  case lookupswitch => exact mz_p1_m fun x r => mz_sw_m (fun t => hK _)
  case invokevirtual =>
    dsimp only [mz_op]
    split
    · exact mz_cl_m (f := fun v μ' => K (pc + len, mz_kp kn L, v, μ')) (g := fun v μ' => K' (pc + len, mz_kp kn L, v, μ')) (fun v μ => hK _)
    · exact id
  case getfield =>
    refine mz_h1_m fun t p r => ?_
    split
    · refine mz_bif_m ?_
      split
      · exact hK _
      · exact hK _
      · exact id
    · exact id
  case putfield =>
    refine mz_p1_m fun x r0 => mz_h1_m fun t p r => ?_
    split
    · refine mz_bif_m ?_
      split
      · exact mz_bool_m (hK _)
      · exact id
    · exact id
  case iaload =>
    refine mz_p1_m fun x r0 => mz_h1_m fun t p r => ?_
    split
    · exact fun q => ⟨q.1, hK _ q.2⟩
    · exact id
  case laload =>
    refine mz_p1_m fun x r0 => mz_h1_m fun t p r => ?_
    split
    · exact fun q => ⟨q.1, hK _ q.2⟩
    · exact id
  case aaload =>
    refine mz_p1_m fun x r0 => mz_h1_m fun t p r => ?_
    split
    · exact fun q => ⟨q.1, hK _ q.2⟩
    · exact id
  case iastore =>
    refine mz_p1_m fun v r1 => mz_p1_m fun x r0 => mz_h1_m fun t p r => ?_
    split
    · exact fun q => ⟨q.1, hK _ q.2⟩
    · exact id
  case lastore =>
    refine mz_g1_m fun v r1 => mz_p1_m fun x r0 => mz_h1_m fun t p r => ?_
    split
    · exact fun q => ⟨q.1, hK _ q.2⟩
    · exact id
  case arraylength =>
    refine mz_h1_m fun t p r => ?_
    split
    · exact hK _
    · exact id
  case invokestatic =>
    dsimp only [mz_op]
    split
    · exact mz_ac_m (fun _ _ _ _ _ _ => hK _) (fun _ _ _ _ _ _ => hK _)
    · exact mz_cl_m (f := fun v μ' => K (pc + len, mz_kp kn L, v, μ')) (g := fun v μ' => K' (pc + len, mz_kp kn L, v, μ')) (fun v μ => hK _)
    · exact id
  case ireturn => exact id
  case lreturn => exact id
  case areturn => exact id
  case return_ => exact id
  all_goals first
    | exact hK _
    | exact id
    | exact mz_p1_m fun x r => hK _
    | exact mz_p2_m fun x y r => hK _
    | exact mz_p2_m fun x y r q => ⟨q.1, hK _ q.2⟩
    | exact mz_g1_m fun x r => hK _
    | exact mz_g2_m fun x y r => hK _
    | exact mz_g2_m fun x y r q => ⟨q.1, hK _ q.2⟩
    | exact mz_h1_m fun x y r => hK _
    | exact mz_li_m fun x => hK _
    | exact mz_ll_m fun x => hK _
    | exact mz_lr_m fun x y => hK _
theorem mz_step_m {SH : List mz_Sh} {tab : mz_T} {C : mz_Cl} {Q : Option mz_V → mz_M → Prop} {K K' : mz_S → Prop} (hK : ∀ s, K s → K' s) {s : mz_S} : mz_step SH tab C Q K s → mz_step SH tab C Q K' s := by
  unfold mz_step
  match mz_nth tab s.1 with
  | none => exact id
  | some none => exact id
  | some (some e) => exact mz_op_m hK
theorem mz_Ev.step {SH : List mz_Sh} {tab : mz_T} {C : mz_Cl} {Q : Option mz_V → mz_M → Prop} {s : mz_S} (h : mz_step SH tab C Q (mz_Ev SH tab C Q) s) : mz_Ev SH tab C Q s :=
  fun P hP => hP s (mz_step_m (fun s' h' => h' P hP) h)
/-- up to k steps at once, to the next cut -/
def mz_run (SH : List mz_Sh) (tab : mz_T) (C : mz_Cl) (Q : Option mz_V → mz_M → Prop) (cuts : List Nat) : Nat → mz_S → Prop
  | 0, s => mz_Ev SH tab C Q s
  | k + 1, s => mz_step SH tab C Q (fun s' => bif mz_el s'.1 cuts then mz_Ev SH tab C Q s' else mz_run SH tab C Q cuts k s') s
theorem mz_Ev.run {SH : List mz_Sh} {tab : mz_T} {C : mz_Cl} {Q : Option mz_V → mz_M → Prop} (cuts : List Nat) : ∀ (k : Nat) {s : mz_S}, mz_run SH tab C Q cuts k s → mz_Ev SH tab C Q s
  | 0, _, h => h
  | k + 1, s, h => mz_Ev.step (mz_step_m (fun s' h' => by
      cases hc : mz_el s'.1 cuts with
      | true => rw [hc] at h'; exact h'
      | false => rw [hc] at h'; exact mz_Ev.run cuts k h') h)
end
section
/-! The second machine's worlds as cells of the heap. -/
def mz_fv (ad : Nat → Nat) (μ : mz_M) (p k : Nat) (f : mz_F) : Value := match f with
  | none => .int (μ.1 p k)
  | some (b, off, _) => .ref (ad (mz_pl b p off))
def mz_cell (cA : Nat → ClassId) (ad : Nat → Nat) (μ : mz_M) (p : Nat) (sh : mz_Sh) : va_E := match sh with
  | .inl (ci, fs) => .inr (ci, (List.range fs.length).map (fun k => mz_fv ad μ p k (fs.getD k none)))
  | .inr (ti, n, 0, _) => .inl (cA ti, n, .inl (μ.1 p))
  | .inr (ti, n, 1, _) => .inl (cA ti, n, .inr (.inl (μ.2 p)))
  | .inr (ti, n, _ + 2, _, b, off, w) => .inl (cA ti, n, .inr (.inr (.inr (.inr (fun i => some (ad (mz_pl b p off + w * i)))))))
def mz_sh (SH : List mz_Sh) (t : Nat) : mz_Sh := SH.getD t (.inl (0, []))
def mz_w (SH : List mz_Sh) (LAY : List Nat) (cA : Nat → ClassId) (ad : Nat → Nat) (μ : mz_M) : va_W := (List.range LAY.length).map (fun p => (ad p, mz_cell cA ad μ p (mz_sh SH (LAY.getD p 0))))
def mz_cv (ad : Nat → Nat) (v : mz_V) : Value := match v with
  | .inl x => .int x
  | .inr (.inl x) => .long x
  | .inr (.inr (_, p)) => .ref (ad p)
def mz_vd (LAY : List Nat) (v : mz_V) : Prop := match v with
  | .inr (.inr (t, p)) => LAY[p]? = some t
  | _ => True
def mz_A (LAY : List Nat) (ad : Nat → Nat) : Nat → Prop := fun q => ∃ p, p < LAY.length ∧ q = ad p
theorem mz_nth_eq {α : Type} : ∀ (l : List α) (n : Nat), mz_nth l n = l[n]?
  | [], _ => rfl
  | _ :: _, 0 => rfl
  | _ :: r, n + 1 => by rw [List.getElem?_cons_succ]; exact mz_nth_eq r n
theorem mz_w_get {SH : List mz_Sh} {LAY : List Nat} {cA : Nat → ClassId} {ad : Nat → Nat} {μ : mz_M} {p t : Nat} {sh : mz_Sh} (h : LAY[p]? = some t) (hs : mz_nth SH t = some sh) : (mz_w SH LAY cA ad μ)[p]? = some (ad p, mz_cell cA ad μ p sh) := by
  have hl := (List.getElem?_eq_some_iff.mp h).1
  have e : mz_sh SH (LAY.getD p 0) = sh := by
    rw [List.getD_eq_getElem?_getD, h]
    rw [mz_nth_eq] at hs
    show SH.getD t _ = sh
    rw [List.getD_eq_getElem?_getD, hs]; rfl
  unfold mz_w
  rw [List.getElem?_map, List.getElem?_range hl]
  show some (ad p, mz_cell cA ad μ p (mz_sh SH (LAY.getD p 0))) = _
  rw [e]
theorem mz_w_len {SH : List mz_Sh} {LAY : List Nat} {cA : Nat → ClassId} {ad : Nat → Nat} {μ : mz_M} : (mz_w SH LAY cA ad μ).length = LAY.length := by
  unfold mz_w; rw [List.length_map, List.length_range]
theorem mz_cell_eq {cA : Nat → ClassId} {ad : Nat → Nat} {μ μ' : mz_M} {p : Nat} (h1 : μ'.1 p = μ.1 p) (h2 : μ'.2 p = μ.2 p) (sh : mz_Sh) : mz_cell cA ad μ' p sh = mz_cell cA ad μ p sh := by
  match sh with
  | .inl (ci, fs) =>
    have e : ∀ k, mz_fv ad μ' p k (fs.getD k none) = mz_fv ad μ p k (fs.getD k none) := by
      intro k
      cases fs.getD k none with
      | none => show Value.int (μ'.1 p k) = Value.int (μ.1 p k); rw [h1]
      | some q => rfl
    show Sum.inr (ci, _) = Sum.inr (ci, _)
    congr 2
    exact List.map_congr_left (fun k _ => e k)
  | .inr (ti, n, 0, q) => show Sum.inl (cA ti, n, Sum.inl (μ'.1 p)) = Sum.inl (cA ti, n, Sum.inl (μ.1 p)); rw [h1]
  | .inr (ti, n, 1, q) => show Sum.inl (cA ti, n, Sum.inr (Sum.inl (μ'.2 p))) = Sum.inl (cA ti, n, Sum.inr (Sum.inl (μ.2 p))); rw [h2]
  | .inr (ti, n, k + 2, t, b, off, w) => rfl
theorem mz_w_set {SH : List mz_Sh} {LAY : List Nat} {cA : Nat → ClassId} {ad : Nat → Nat} {μ μ' : mz_M} {p t : Nat} {sh : mz_Sh} (h : LAY[p]? = some t) (hs : mz_nth SH t = some sh) (ho : ∀ q, q ≠ p → μ'.1 q = μ.1 q ∧ μ'.2 q = μ.2 q) : (mz_w SH LAY cA ad μ).set p (ad p, mz_cell cA ad μ' p sh) = mz_w SH LAY cA ad μ' := by
  have hl := (List.getElem?_eq_some_iff.mp h).1
  apply List.ext_getElem?
  intro q
  by_cases hq : q = p
  · subst hq
    rw [List.getElem?_set_self (by rw [mz_w_len]; exact hl), mz_w_get h hs]
  · rw [List.getElem?_set_ne (Ne.symm hq)]
    unfold mz_w
    rw [List.getElem?_map, List.getElem?_map]
    cases hr : (List.range LAY.length)[q]? with
    | none => rfl
    | some z =>
      have hz : z = q := by
        have h1 := (List.getElem?_eq_some_iff.mp hr)
        obtain ⟨h1, h2⟩ := h1
        rw [List.getElem_range] at h2
        exact h2.symm
      subst hz
      show some (ad z, _) = some (ad z, _)
      rw [mz_cell_eq (ho z hq).1 (ho z hq).2]
theorem mz_w_D {SH : List mz_Sh} {LAY : List Nat} {cA : Nat → ClassId} {ad : Nat → Nat} {μ : mz_M} (had : ∀ i j, i < LAY.length → j < LAY.length → ad i = ad j → i = j) : va_D (mz_A LAY ad) (mz_w SH LAY cA ad μ) := by
  have key : ∀ (k : Nat) (q : Nat × va_E), (mz_w SH LAY cA ad μ)[k]? = some q → k < LAY.length ∧ q.1 = ad k := by
    intro k q hk
    have hl : k < LAY.length := by
      have := (List.getElem?_eq_some_iff.mp hk).1
      rwa [mz_w_len] at this
    unfold mz_w at hk
    rw [List.getElem?_map, List.getElem?_range hl] at hk
    cases hk
    exact ⟨hl, rfl⟩
  refine ⟨fun i j x y hi hj hxy => ?_, fun k q hk => ⟨k, (key k q hk).1, (key k q hk).2⟩⟩
  obtain ⟨a1, a2⟩ := key i x hi
  obtain ⟨b1, b2⟩ := key j y hj
  exact had i j a1 b1 (by rw [← a2, ← b2]; exact hxy)
/-! Locals. -/
def mz_lc (ad : Nat → Nat) (L : mz_Lo) : List (Nat × Value) := L.map (fun q => (q.1, mz_cv ad q.2))
theorem mz_has_sub {ls : Array Slot} {n : Nat} {l l' : List (Nat × Value)} (h : lv_has ls n l) (hs : ∀ q ∈ l', q ∈ l) : lv_has ls n l' := ⟨h.1, h.2.1, fun q hq => h.2.2 q (hs q hq)⟩
theorem mz_lk_mem {v : mz_V} {i : Nat} : ∀ {L : mz_Lo}, mz_lk L i = some v → (i, v) ∈ L
  | [], h => by cases h
  | q :: r, h => by
    unfold mz_lk at h
    cases hb : Nat.beq q.1 i with
    | true =>
      rw [hb] at h
      have e : q.1 = i := Nat.eq_of_beq_eq_true hb
      obtain ⟨a, b⟩ := q
      cases e
      cases h
      exact List.mem_cons_self
    | false =>
      rw [hb] at h
      exact List.mem_cons_of_mem _ (mz_lk_mem h)
theorem mz_has_at {ad : Nat → Nat} {ls : Array Slot} {n i : Nat} {L : mz_Lo} {v : mz_V} (h : lv_has ls n (mz_lc ad L)) (hk : mz_lk L i = some v) : ls[i]? = some (.val (mz_cv ad v)) :=
  h.2.2 (i, mz_cv ad v) (List.mem_map.mpr ⟨(i, v), mz_lk_mem hk, rfl⟩)
theorem mz_ins_mem {i : Nat} {v : mz_V} {q : Nat × mz_V} : ∀ {L : mz_Lo}, q ∈ mz_ins i v L → q = (i, v) ∨ q ∈ L
  | [], h => by
    rcases List.mem_cons.mp h with h | h
    · exact Or.inl h
    · cases h
  | z :: r, h => by
    unfold mz_ins at h
    cases hb : Nat.ble z.1 i with
    | true =>
      rw [hb] at h
      rcases List.mem_cons.mp h with h | h
      · exact Or.inr (h ▸ List.mem_cons_self)
      · rcases mz_ins_mem h with h | h
        · exact Or.inl h
        · exact Or.inr (List.mem_cons_of_mem _ h)
    | false =>
      rw [hb] at h
      rcases List.mem_cons.mp h with h | h
      · exact Or.inl h
      · exact Or.inr h
theorem mz_rm_mem {i : Nat} {w : Bool} {q : Nat × mz_V} : ∀ {L : mz_Lo}, q ∈ mz_rm i w L → q ∈ L ∧ q.1 ≠ i ∧ (w = true → q.1 ≠ i + 1) ∧ ¬ (q.1 + 1 = i ∧ mz_cat q.2 = 2)
  | [], h => by cases h
  | z :: r, h => by
    unfold mz_rm at h
    cases hb : (Nat.beq z.1 i || (w && Nat.beq z.1 (i + 1)) || (Nat.beq (z.1 + 1) i && Nat.beq (mz_cat z.2) 2)) with
    | true =>
      rw [hb] at h
      obtain ⟨a, b⟩ := mz_rm_mem h
      exact ⟨List.mem_cons_of_mem _ a, b⟩
    | false =>
      rw [hb] at h
      rcases List.mem_cons.mp h with h | h
      · subst h
        simp only [Bool.or_eq_false_iff, Bool.and_eq_false_iff] at hb
        refine ⟨List.mem_cons_self, fun e => ?_, fun hw e => ?_, fun ⟨e1, e2⟩ => ?_⟩
        · rw [e] at hb; simp at hb
        · rw [e, hw] at hb; simp at hb
        · rw [e1, e2] at hb; simp at hb
      · obtain ⟨a, b⟩ := mz_rm_mem h
        exact ⟨List.mem_cons_of_mem _ a, b⟩
theorem mz_kl_mem {ks : List Nat} {q : Nat × mz_V} : ∀ {L : mz_Lo}, q ∈ mz_kl ks L → q ∈ L
  | [], h => by cases h
  | z :: r, h => by
    unfold mz_kl at h
    cases hb : mz_el z.1 ks with
    | true =>
      rw [hb] at h
      rcases List.mem_cons.mp h with h | h
      · exact h ▸ List.mem_cons_self
      · exact List.mem_cons_of_mem _ (mz_kl_mem h)
    | false =>
      rw [hb] at h
      exact List.mem_cons_of_mem _ (mz_kl_mem h)
theorem mz_kp_mem {o : Option (List Nat)} {q : Nat × mz_V} {L : mz_Lo} (h : q ∈ mz_kp o L) : q ∈ L := by
  cases o with
  | none => exact h
  | some ks => exact mz_kl_mem h
theorem mz_cat_cv (ad : Nat → Nat) (v : mz_V) : (mz_cv ad v).category = mz_cat v := by
  match v with
  | .inl _ => rfl
  | .inr (.inl _) => rfl
  | .inr (.inr (_, _)) => rfl
theorem mz_has_kp {ad : Nat → Nat} {ls : Array Slot} {n : Nat} {L : mz_Lo} (o : Option (List Nat)) (h : lv_has ls n (mz_lc ad L)) : lv_has ls n (mz_lc ad (mz_kp o L)) :=
  mz_has_sub h (fun q hq => by
    obtain ⟨z, h1, h2⟩ := List.mem_map.mp hq
    exact List.mem_map.mpr ⟨z, mz_kp_mem h1, h2⟩)
theorem mz_has_st1 {ad : Nat → Nat} {ls : Array Slot} {n i : Nat} {L : mz_Lo} {v : mz_V} (o : Option (List Nat)) (h : lv_has ls n ((i, mz_cv ad v) :: (mz_lc ad L).filter (fun q => !(q.1 == i) && !(q.1 + 1 == i && q.2.category == 2)))) : lv_has ls n (mz_lc ad (mz_kp o (mz_st1 L i v))) := by
  refine mz_has_kp o (mz_has_sub h (fun q hq => ?_))
  obtain ⟨z, h1, rfl⟩ := List.mem_map.mp hq
  rcases mz_ins_mem h1 with rfl | h1
  · exact List.mem_cons_self
  · obtain ⟨a1, a2, -, a4⟩ := mz_rm_mem h1
    refine List.mem_cons_of_mem _ (List.mem_filter.mpr ⟨List.mem_map.mpr ⟨z, a1, rfl⟩, ?_⟩)
    rw [mz_cat_cv]
    simp only [Bool.and_eq_true, Bool.not_eq_true', beq_eq_false_iff_ne, ne_eq, Bool.and_eq_false_iff]
    refine ⟨a2, ?_⟩
    by_cases e : z.1 + 1 = i
    · exact Or.inr (fun e2 => a4 ⟨e, e2⟩)
    · exact Or.inl e
theorem mz_has_st2 {ad : Nat → Nat} {ls : Array Slot} {n i : Nat} {L : mz_Lo} {v : mz_V} (o : Option (List Nat)) (h : lv_has ls n ((i, mz_cv ad v) :: (mz_lc ad L).filter (fun q => !(q.1 == i) && (!(q.1 == i + 1) && !(q.1 + 1 == i && q.2.category == 2))))) : lv_has ls n (mz_lc ad (mz_kp o (mz_st2 L i v))) := by
  refine mz_has_kp o (mz_has_sub h (fun q hq => ?_))
  obtain ⟨z, h1, rfl⟩ := List.mem_map.mp hq
  rcases mz_ins_mem h1 with rfl | h1
  · exact List.mem_cons_self
  · obtain ⟨a1, a2, a3, a4⟩ := mz_rm_mem h1
    refine List.mem_cons_of_mem _ (List.mem_filter.mpr ⟨List.mem_map.mpr ⟨z, a1, rfl⟩, ?_⟩)
    rw [mz_cat_cv]
    simp only [Bool.and_eq_true, Bool.not_eq_true', beq_eq_false_iff_ne, ne_eq, Bool.and_eq_false_iff]
    refine ⟨a2, a3 rfl, ?_⟩
    by_cases e : z.1 + 1 = i
    · exact Or.inr (fun e2 => a4 ⟨e, e2⟩)
    · exact Or.inl e
def mz_vl (LAY : List Nat) (L : mz_Lo) : Prop := ∀ q ∈ L, mz_vd LAY q.2
def mz_vs (LAY : List Nat) (st : List mz_V) : Prop := ∀ v ∈ st, mz_vd LAY v
theorem mz_vl_kp {LAY : List Nat} {L : mz_Lo} (o : Option (List Nat)) (h : mz_vl LAY L) : mz_vl LAY (mz_kp o L) := fun q hq => h q (mz_kp_mem hq)
theorem mz_vl_st1 {LAY : List Nat} {L : mz_Lo} (o : Option (List Nat)) {i : Nat} {v : mz_V} (h : mz_vl LAY L) (hv : mz_vd LAY v) : mz_vl LAY (mz_kp o (mz_st1 L i v)) := mz_vl_kp o (fun q hq => by
  rcases mz_ins_mem hq with rfl | h1
  · exact hv
  · exact h q (mz_rm_mem h1).1)
theorem mz_vl_st2 {LAY : List Nat} {L : mz_Lo} (o : Option (List Nat)) {i : Nat} {v : mz_V} (h : mz_vl LAY L) (hv : mz_vd LAY v) : mz_vl LAY (mz_kp o (mz_st2 L i v)) := mz_vl_kp o (fun q hq => by
  rcases mz_ins_mem hq with rfl | h1
  · exact hv
  · exact h q (mz_rm_mem h1).1)
theorem mz_vl_lk {LAY : List Nat} {L : mz_Lo} {i : Nat} {v : mz_V} (h : mz_vl LAY L) (hk : mz_lk L i = some v) : mz_vd LAY v := h _ (mz_lk_mem hk)
theorem mz_vs_c {LAY : List Nat} {st : List mz_V} {v : mz_V} (hv : mz_vd LAY v) (h : mz_vs LAY st) : mz_vs LAY (v :: st) := fun w hw => by
  rcases List.mem_cons.mp hw with rfl | hw
  · exact hv
  · exact h w hw
theorem mz_vs_t {LAY : List Nat} {st : List mz_V} {v : mz_V} (h : mz_vs LAY (v :: st)) : mz_vs LAY st := fun w hw => h w (List.mem_cons_of_mem _ hw)
theorem mz_vs_h {LAY : List Nat} {st : List mz_V} {v : mz_V} (h : mz_vs LAY (v :: st)) : mz_vd LAY v := h v List.mem_cons_self
end
section
/-! What must hold of a method's rows beside the tables: a program checks it. -/
/-- name, bytes, locals, answer's type, arguments without the object, static, places of its words in the tables (code, initialized, static or instanceMethod, selects), rows -/
abbrev mz_Me : Type := MethodName × ByteArray × Nat × Option FieldType × Nat × Bool × List Nat × mz_T
def mz_lw (TBL : List Jvm.Cond) (pl : Nat) (w : Jvm.Cond) : Bool := decide (TBL[pl]? = some w)
def mz_prs (pc : Nat) : Int → List Int → List (Nat × Nat)
  | _, [] => []
  | lo, o :: r => (lo.toNat, ((pc : Int) + o).toNat) :: mz_prs pc (lo + 1) r
def mz_prl (pc : Nat) : List (Int × Int) → List (Nat × Nat)
  | [] => []
  | q :: r => (q.1.toNat, ((pc : Int) + q.2).toNat) :: mz_prl pc r
def mz_oka (TBL : List Jvm.Cond) (host : String) (MS : List mz_Me) (own : String) (idx : Nat) (st : Bool) (a : List Nat) : Bool := match a with
  | [y, n, _, _, ml, nest, pl] => (match mz_nth MS y with
    | some me => decide (me.2.2.2.2.2.1 = st) && decide (n = me.2.2.2.2.1 + (bif st then 0 else 1)) && decide (ml = me.2.2.1) && (match nest with
      | 0 => mz_lw TBL pl (.methodLink own idx me.1)
      | _ + 1 => mz_lw TBL pl (.methodLinkNest own idx me.1 host))
    | none => false)
  | _ => false
def mz_okc (TBL : List Jvm.Cond) (host : String) (cls : List vw_C) (own : String) (idx : Nat) (ci f nest pl : Nat) : Bool := match cls[ci]? with
  | some q => decide (f < q.2.2) && (match nest with
    | 0 => mz_lw TBL pl (.fieldLink own idx (q.2.1 f).1 (q.2.1 f).2.1 (q.2.1 f).2.2.1)
    | _ + 1 => mz_lw TBL pl (.fieldLinkNest own idx (q.2.1 f).1 (q.2.1 f).2.1 (q.2.1 f).2.2.1 host))
  | none => false
def mz_okac (TBL : List Jvm.Cond) (own : String) (k : Nat) (a : List Nat) : Bool := match a with
  | [p0, p1, p2, p3] => mz_lw TBL p0 (.methodLink own k arraycopyName) && mz_lw TBL p1 (.native arraycopyName) && mz_lw TBL p2 (.static arraycopyName) && mz_lw TBL p3 (.initialized "java/lang/System")
  | _ => false
set_option maxHeartbeats 1000000 in
def mz_ok (TBL : List Jvm.Cond) (host : String) (cls : List vw_C) (MS : List mz_Me) (me : mz_Me) (pc : Nat) (e : mz_E) : Bool :=
  decide (decode me.2.1 pc = .ok (e.1, e.2.1)) && (match e with
  | (i, len, c, cl, a, ps, kt, kn) => match i with
    | .iconst n => decide (len = 1) && decide (Int32.ofInt n = c)
    | .bipush n => decide (len = 2) && decide ((Int8.ofInt n).toInt32 = c)
    | .sipush n => decide (len = 3) && decide ((Int16.ofInt n).toInt32 = c)
    | .ldc k => decide (len = 2) && mz_lw TBL (mz_a0 a) (.constant me.1.cls k c)
    | .ldc_w k => decide (len = 3) && mz_lw TBL (mz_a0 a) (.constant me.1.cls k c)
    | .lconst n => decide (len = 1) && decide (Int64.ofNat (n : Nat) = cl)
    | .ldc2_w k => decide (len = 3) && mz_lw TBL (mz_a0 a) (.constantLong me.1.cls k cl)
    | .iload_n k => decide (len = 1) && decide ((k : Nat) = mz_a0 a)
    | .iload k => decide (len = 2) && decide (k = mz_a0 a)
    | .lload_n k => decide (len = 1) && decide ((k : Nat) = mz_a0 a)
    | .lload k => decide (len = 2) && decide (k = mz_a0 a)
    | .aload_n k => decide (len = 1) && decide ((k : Nat) = mz_a0 a)
    | .aload k => decide (len = 2) && decide (k = mz_a0 a)
    | .istore_n k => decide (len = 1) && decide ((k : Nat) = mz_a0 a) && decide (mz_a0 a < me.2.2.1)
    | .istore k => decide (len = 2) && decide (k = mz_a0 a) && decide (mz_a0 a < me.2.2.1)
    | .lstore_n k => decide (len = 1) && decide ((k : Nat) = mz_a0 a) && decide (mz_a0 a + 1 < me.2.2.1)
    | .lstore k => decide (len = 2) && decide (k = mz_a0 a) && decide (mz_a0 a + 1 < me.2.2.1)
    | .astore_n k => decide (len = 1) && decide ((k : Nat) = mz_a0 a) && decide (mz_a0 a < me.2.2.1)
    | .astore k => decide (len = 2) && decide (k = mz_a0 a) && decide (mz_a0 a < me.2.2.1)
    | .iinc k n => decide (len = 3) && decide (k = mz_a0 a) && decide (mz_a0 a < me.2.2.1) && decide (Int32.ofInt n = c)
    | .goto off => decide (len = 3) && decide ((pc : Int) + off = (mz_a0 a : Int))
    | .if_icmp _ off => decide (len = 3) && decide ((pc : Int) + off = (mz_a0 a : Int))
    | .ifCond _ off => decide (len = 3) && decide ((pc : Int) + off = (mz_a0 a : Int))
    | .tableswitch d lo hi offs => decide ((pc : Int) + d = (mz_a0 a : Int)) && decide (ps = mz_prs pc lo offs.toList) && decide (hi = lo + offs.toList.length - 1) && decide (0 ≤ lo) && decide (hi < 2147483648) && offs.toList.all (fun o => decide (0 ≤ (pc : Int) + o))
    | .lookupswitch d prs => decide ((pc : Int) + d = (mz_a0 a : Int)) && decide (ps = mz_prl pc prs.toList) && (prs.toList.zip (prs.toList.drop 1)).all (fun (a, next) => a.1 < next.1) && prs.toList.all (fun q => decide (0 ≤ q.1) && decide (q.1 < 2147483648) && decide (0 ≤ (pc : Int) + q.2))
    | .getfield k => decide (len = 3) && (match a with
      | [ci, f, nest, pl] => mz_okc TBL host cls me.1.cls k ci f nest pl
      | _ => false)
    | .putfield k => decide (len = 3) && (match a with
      | [ci, f, b, nest, pl] => mz_okc TBL host cls me.1.cls k ci f nest pl && (match cls[ci]? with
        | some q => decide ((q.2.1 f).2.2.2 = false) && decide (parseFieldDescriptor (q.2.1 f).2.2.1 = some (match b with
          | 0 => .int
          | _ + 1 => .boolean))
        | none => false)
      | _ => false)
    | .invokevirtual k => decide (len = 3) && (match a with
      | cj :: a' => mz_oka TBL host MS me.1.cls k false a' && (match cls[cj]?, mz_nth MS (mz_a0 a') with
        | some q, some me' => decide (q.1 = me'.1.cls)
        | _, _ => false)
      | [] => false)
    | .invokestatic k => decide (len = 3) && (match a with
      | 0 :: a' => mz_okac TBL me.1.cls k a'
      | _ :: a' => mz_oka TBL host MS me.1.cls k true a'
      | [] => false)
    | .ireturn => decide (len = 1) && decide (me.2.2.2.1 = some (match mz_a0 a with
          | 0 => .int
          | _ + 1 => .boolean))
    | .lreturn => decide (len = 1) && decide (me.2.2.2.1 = some .long)
    | .areturn => decide (len = 1) && (match me.2.2.2.1 with
      | some (.object _) => true
      | _ => false)
    | .return_ => decide (len = 1) && decide (me.2.2.2.1 = none)
    | _ => decide (len = 1))
def mz_okR (TBL : List Jvm.Cond) (host : String) (cls : List vw_C) (MS : List mz_Me) (me : mz_Me) : Nat → mz_T → Bool
  | _, [] => true
  | pc, none :: r => mz_okR TBL host cls MS me (pc + 1) r
  | pc, some e :: r => mz_ok TBL host cls MS me pc e && mz_okR TBL host cls MS me (pc + 1) r
def mz_okM (TBL : List Jvm.Cond) (host : String) (cls : List vw_C) (MS : List mz_Me) (me : mz_Me) : Bool :=
  (match me.2.2.2.2.2.2.1 with
  | [p0, p1, p2, p3] => mz_lw TBL p0 (.code me.1 me.2.1 me.2.2.1 me.2.2.2.1) && mz_lw TBL p1 (.initialized me.1.cls) && (bif me.2.2.2.2.2.1 then mz_lw TBL p2 (.static me.1) else mz_lw TBL p2 (.instanceMethod me.1) && mz_lw TBL p3 (.selects me.1.cls me.1 me.1))
  | _ => false) && plainFor me.1 && decide (me.1.cls ≠ "java/lang/invoke/MethodHandle" ∧ me.1.cls ≠ "java/lang/invoke/VarHandle") && decide ((parseMethodDescriptor me.1.desc).map (fun d => d.parameters.length) = some me.2.2.2.2.1) && decide (me.2.2.1 ≤ 30) && mz_okR TBL host cls MS me 0 me.2.2.2.2.2.2.2
theorem mz_okR_at {TBL : List Jvm.Cond} {host : String} {cls : List vw_C} {MS : List mz_Me} {me : mz_Me} {e : mz_E} : ∀ {t : mz_T} {n k : Nat}, mz_okR TBL host cls MS me n t = true → mz_nth t k = some (some e) → mz_ok TBL host cls MS me (n + k) e = true
  | [], _, _, _, h => by cases h
  | none :: r, n, 0, _, h => by cases h
  | some e' :: r, n, 0, h1, h => by
    cases h
    unfold mz_okR at h1
    rw [Bool.and_eq_true] at h1
    exact h1.1
  | none :: r, n, k + 1, h1, h => by
    have := mz_okR_at (t := r) (n := n + 1) (k := k) h1 h
    rwa [show n + 1 + k = n + (k + 1) by omega] at this
  | some e' :: r, n, k + 1, h1, h => by
    unfold mz_okR at h1
    rw [Bool.and_eq_true] at h1
    have := mz_okR_at (t := r) (n := n + 1) (k := k) h1.2 h
    rwa [show n + 1 + k = n + (k + 1) by omega] at this
def mz_nest : Jvm.Cond → Bool
  | .fieldLinkNest .. => true
  | .methodLinkNest .. => true
  | _ => false
/-- the words on nest mates, which are not kept among the others -/
def mz_NW (TBL : List Jvm.Cond) (U : State) : Prop := ∀ w ∈ TBL, mz_nest w = true → va_Nw w U
theorem mz_NW.warm {TBL : List Jvm.Cond} {s U : State} (hW : s.WarmedH U.vm) (h : mz_NW TBL s) : mz_NW TBL U := by
  intro w hw hn
  have h1 := h w hw hn
  cases w <;> first | (cases hn; done) | exact va_Nw.warmF hW h1 | exact va_Nw.warmM hW h1
theorem mz_NW.same {TBL : List Jvm.Cond} {s U : State} (hv : s.vm = U.vm) (h : mz_NW TBL s) : mz_NW TBL U := by
  intro w hw hn
  have h1 := h w hw hn
  cases w <;> first | (cases hn; done) | exact va_Nw.same rfl hv h1
end
section
theorem mz_p1_i {st : List mz_V} {f : Int32 → List mz_V → Prop} (h : mz_p1 st f) : ∃ x r, st = mz_I x :: r ∧ f x r := by
  match st, h with
  | .inl x :: r, h => exact ⟨x, r, rfl, h⟩
theorem mz_p2_i {st : List mz_V} {f : Int32 → Int32 → List mz_V → Prop} (h : mz_p2 st f) : ∃ x y r, st = mz_I y :: mz_I x :: r ∧ f x y r := by
  match st, h with
  | .inl y :: .inl x :: r, h => exact ⟨x, y, r, rfl, h⟩
theorem mz_g1_i {st : List mz_V} {f : Int64 → List mz_V → Prop} (h : mz_g1 st f) : ∃ x r, st = mz_L x :: r ∧ f x r := by
  match st, h with
  | .inr (.inl x) :: r, h => exact ⟨x, r, rfl, h⟩
theorem mz_g2_i {st : List mz_V} {f : Int64 → Int64 → List mz_V → Prop} (h : mz_g2 st f) : ∃ x y r, st = mz_L y :: mz_L x :: r ∧ f x y r := by
  match st, h with
  | .inr (.inl y) :: .inr (.inl x) :: r, h => exact ⟨x, y, r, rfl, h⟩
theorem mz_h1_i {st : List mz_V} {f : Nat → Nat → List mz_V → Prop} (h : mz_h1 st f) : ∃ t p r, st = mz_R t p :: r ∧ f t p r := by
  match st, h with
  | .inr (.inr (t, p)) :: r, h => exact ⟨t, p, r, rfl, h⟩
theorem mz_li_i {L : mz_Lo} {i : Nat} {f : Int32 → Prop} (h : mz_li L i f) : ∃ x, mz_lk L i = some (mz_I x) ∧ f x := by
  unfold mz_li at h
  match hk : mz_lk L i, h with
  | some (.inl x), h => exact ⟨x, rfl, h⟩
theorem mz_ll_i {L : mz_Lo} {i : Nat} {f : Int64 → Prop} (h : mz_ll L i f) : ∃ x, mz_lk L i = some (mz_L x) ∧ f x := by
  unfold mz_ll at h
  match hk : mz_lk L i, h with
  | some (.inr (.inl x)), h => exact ⟨x, rfl, h⟩
theorem mz_lr_i {L : mz_Lo} {i : Nat} {f : Nat → Nat → Prop} (h : mz_lr L i f) : ∃ t p, mz_lk L i = some (mz_R t p) ∧ f t p := by
  unfold mz_lr at h
  match hk : mz_lk L i, h with
  | some (.inr (.inr (t, p))), h => exact ⟨t, p, rfl, h⟩
theorem mz_ite_t {c A B : Prop} [Decidable c] (h : if c then A else B) (hc : c) : A := by rwa [if_pos hc] at h
theorem mz_ite_f {c A B : Prop} [Decidable c] (h : if c then A else B) (hc : ¬ c) : B := by rwa [if_neg hc] at h
theorem mz_bif_i {b : Bool} {A : Prop} (h : bif b then A else False) : b = true ∧ A := by
  cases b
  · exact h.elim
  · exact ⟨rfl, h⟩
theorem mz_sw_i {x : Int32} {K : Nat → Prop} {d : Nat} : ∀ {ps : List (Nat × Nat)}, mz_sw x K d ps → (∃ q ∈ ps, x = nI q.1 ∧ K q.2) ∨ ((∀ q ∈ ps, ¬ x = nI q.1) ∧ K d)
  | [], h => Or.inr ⟨fun _ z => absurd z List.not_mem_nil, h⟩
  | q :: r, h => by
    unfold mz_sw at h
    by_cases hq : x = nI q.1
    · rw [if_pos hq] at h
      exact Or.inl ⟨q, List.mem_cons_self, hq, h⟩
    · rw [if_neg hq] at h
      rcases mz_sw_i h with ⟨z, h1, h2⟩ | ⟨h1, h2⟩
      · exact Or.inl ⟨z, List.mem_cons_of_mem _ h1, h2⟩
      · refine Or.inr ⟨fun z hz => ?_, h2⟩
        rcases List.mem_cons.mp hz with rfl | hz
        · exact hq
        · exact h1 z hz
theorem mz_an_i {k t : Nat} {R : Option mz_V → mz_M → Prop} {f : List mz_V → mz_M → Prop} (h : mz_an k t R f) : ∃ r μ, R r μ ∧ f r.toList μ := by
  match k, h with
  | 0, ⟨μ, a, b⟩ => exact ⟨none, μ, a, b⟩
  | 1, ⟨x, μ, a, b⟩ => exact ⟨some (mz_I x), μ, a, b⟩
  | 2, ⟨x, μ, a, b⟩ => exact ⟨some (mz_L x), μ, a, b⟩
  | _ + 3, ⟨x, μ, a, b⟩ => exact ⟨some (mz_R t x), μ, a, b⟩
theorem mz_tk_i {as rest : List mz_V} : ∀ {n : Nat} {acc st : List mz_V}, mz_tk n acc st = some (as, rest) → ∃ xs : List mz_V, xs.length = n ∧ st = xs ++ rest ∧ as = xs.reverse ++ acc
  | 0, acc, st, h => by
    unfold mz_tk at h
    cases h
    exact ⟨[], rfl, rfl, rfl⟩
  | n + 1, acc, [], h => by cases h
  | n + 1, acc, v :: st, h => by
    unfold mz_tk at h
    obtain ⟨xs, h1, h2, h3⟩ := mz_tk_i h
    refine ⟨v :: xs, by rw [List.length_cons, h1], by rw [h2]; rfl, ?_⟩
    rw [h3, List.reverse_cons, List.append_assoc]
    rfl
theorem mz_cl_i {C : mz_Cl} {g : List mz_V → Bool} {y n k t ml : Nat} {a' : List Nat} {st : List mz_V} {μ : mz_M} {f : List mz_V → mz_M → Prop} (h : mz_cl C g (y :: n :: k :: t :: ml :: a') st μ f) : ∃ (as rest : List mz_V) (r : Option mz_V) (μ' : mz_M), as.length = n ∧ st = as.reverse ++ rest ∧ mz_cs rest ≤ 8 ∧ mz_cs as ≤ ml ∧ g as = true ∧ C y as μ r μ' ∧ f (r.toList ++ rest) μ' := by
  unfold mz_cl at h
  dsimp only at h
  match hk : mz_tk n [] st, h with
  | some (as, rest), h =>
    obtain ⟨hb, h⟩ := mz_bif_i h
    obtain ⟨r, μ', h1, h2⟩ := mz_an_i h
    obtain ⟨xs, e1, e2, e3⟩ := mz_tk_i hk
    rw [List.append_nil] at e3
    rw [Bool.and_eq_true, Bool.and_eq_true] at hb
    refine ⟨as, rest, r, μ', by rw [e3, List.length_reverse, e1], by rw [e3, List.reverse_reverse, e2], Nat.le_of_ble_eq_true hb.1.1, Nat.le_of_ble_eq_true hb.1.2, hb.2, h1, h2⟩
theorem mz_cs_sum {ad : Nat → Nat} : ∀ (st : List mz_V), ((st.map (mz_cv ad)).map fun v => v.category).sum = mz_cs st
  | [] => rfl
  | v :: r => by
    rw [List.map_cons, List.map_cons, List.sum_cons, mz_cs_sum r, mz_cat_cv]
    rfl
theorem mz_lw_m {TBL : List Jvm.Cond} {pl : Nat} {w : Jvm.Cond} (h : mz_lw TBL pl w = true) : w ∈ TBL := List.mem_of_getElem? (of_decide_eq_true h)
theorem mz_lw_g {TBL : List Jvm.Cond} {pl : Nat} {w : Jvm.Cond} (h : mz_lw TBL pl w = true) (hg : goodWord w = true) : w ∈ TBL.filter goodWord := List.mem_filter.mpr ⟨mz_lw_m h, hg⟩
theorem mz_prs_m {pc : Nat} {q : Nat × Nat} : ∀ {offs : List Int} {lo : Int}, q ∈ mz_prs pc lo offs → ∃ (j : Nat) (o : Int), offs[j]? = some o ∧ q = ((lo + j).toNat, ((pc : Int) + o).toNat)
  | [], _, h => by cases h
  | o :: r, lo, h => by
    unfold mz_prs at h
    rcases List.mem_cons.mp h with rfl | h
    · exact ⟨0, o, rfl, by simp⟩
    · obtain ⟨j, o', h1, h2⟩ := mz_prs_m h
      exact ⟨j + 1, o', by rw [List.getElem?_cons_succ]; exact h1, by rw [h2]; congr 2; omega⟩
theorem mz_prs_in {pc : Nat} : ∀ {offs : List Int} {lo : Int} {j : Nat}, j < offs.length → ∃ q ∈ mz_prs pc lo offs, q.1 = (lo + j).toNat
  | [], _, _, h => by cases h
  | o :: r, lo, 0, _ => ⟨_, List.mem_cons_self, by simp⟩
  | o :: r, lo, j + 1, h => by
    obtain ⟨q, h1, h2⟩ := mz_prs_in (pc := pc) (offs := r) (lo := lo + 1) (j := j) (by simpa using h)
    exact ⟨q, List.mem_cons_of_mem _ h1, by rw [h2]; congr 1; omega⟩
theorem mz_ac_i {SH : List mz_Sh} {st : List mz_V} {fI fL : Nat → Nat → Int32 → Int32 → Int32 → List mz_V → Prop} (h : mz_ac SH st fI fL) : ∃ (n d : Int32) (t1 p1 : Nat) (s : Int32) (t0 p0 : Nat) (r : List mz_V), st = mz_I n :: mz_I d :: mz_R t1 p1 :: mz_I s :: mz_R t0 p0 :: r ∧ mz_cs r ≤ 8 ∧
    ((∃ i0 n0 q0 i1 n1 q1, mz_nth SH t0 = some (.inr (i0, n0, 0, q0)) ∧ mz_nth SH t1 = some (.inr (i1, n1, 0, q1)) ∧ (¬ s < 0 ∧ ¬ d < 0 ∧ ¬ n < 0 ∧ s.toNatClampNeg + n.toNatClampNeg ≤ n0 ∧ d.toNatClampNeg + n.toNatClampNeg ≤ n1) ∧ fI p0 p1 s d n r) ∨
    (∃ i0 n0 q0 i1 n1 q1, mz_nth SH t0 = some (.inr (i0, n0, 1, q0)) ∧ mz_nth SH t1 = some (.inr (i1, n1, 1, q1)) ∧ (¬ s < 0 ∧ ¬ d < 0 ∧ ¬ n < 0 ∧ s.toNatClampNeg + n.toNatClampNeg ≤ n0 ∧ d.toNatClampNeg + n.toNatClampNeg ≤ n1) ∧ fL p0 p1 s d n r)) := by
  unfold mz_ac at h
  split at h
  · next n d t1 p1 s t0 p0 r =>
    split at h
    · next i0 n0 q0 i1 n1 q1 h0 h1 =>
      obtain ⟨hb, hc⟩ := mz_bif_i h.2
      exact ⟨n, d, t1, p1, s, t0, p0, r, rfl, Nat.le_of_ble_eq_true hb, Or.inl ⟨i0, n0, q0, i1, n1, q1, h0, h1, h.1, hc⟩⟩
    · next i0 n0 q0 i1 n1 q1 h0 h1 =>
      obtain ⟨hb, hc⟩ := mz_bif_i h.2
      exact ⟨n, d, t1, p1, s, t0, p0, r, rfl, Nat.le_of_ble_eq_true hb, Or.inr ⟨i0, n0, q0, i1, n1, q1, h0, h1, h.1, hc⟩⟩
    · exact h.elim
  · exact h.elim
end
section
/-! The second machine's runs are the machine's. -/
def mz_ty (ats : List FieldType) (cA : Nat → ClassId) : List (ClassId × FieldType) := (List.range ats.length).map (fun i => (cA i, ats.getD i .int))
theorem mz_ty_at {ats : List FieldType} {cA : Nat → ClassId} {i : Nat} {ty : FieldType} (h : ats[i]? = some ty) : (mz_ty ats cA)[i]? = some (cA i, ty) := by
  have hl := (List.getElem?_eq_some_iff.mp h).1
  unfold mz_ty
  rw [List.getElem?_map, List.getElem?_range hl]
  show some (cA i, ats.getD i FieldType.int) = _
  rw [List.getD_eq_getElem?_getD, h]
  rfl
def mz_room (d : Nat) : Room := { frames := d, cells := 0, slots := 0, locals := 60 * d + 100 }
def mz_ws (TBL : List Jvm.Cond) (me : mz_Me) : List Jvm.Cond := Jvm.Cond.code me.1 me.2.1 me.2.2.1 me.2.2.2.1 :: TBL.filter goodWord
def mz_Pc (SH : List mz_Sh) (LAY : List Nat) (cA : Nat → ClassId) (ad : Nat → Nat) (D : va_G) (cls : List vw_C) (TBL : List Jvm.Cond) (ats : List FieldType) (a : List mz_V) (μ : mz_M) : Array Value → State → Prop :=
  va_Pc (a.map (mz_cv ad)) (fun U => va_P D cls (mz_w SH LAY cA ad μ) U.heap ∧ va_K D cls (mz_ty ats cA) U ∧ mz_NW TBL U)
def mz_QC (SH : List mz_Sh) (LAY : List Nat) (cA : Nat → ClassId) (ad : Nat → Nat) (D : va_G) (cls : List vw_C) (r : Option mz_V) (μ' : mz_M) : Array Value → State → Outcome → State → Prop :=
  fun _ st oc t => oc = .returned (r.map (mz_cv ad)) ∧ (∀ v, r = some v → mz_vd LAY v) ∧ va_P D cls (mz_w SH LAY cA ad μ') t.heap ∧ va_F (mz_A LAY ad) st t
/-- what is fixed: addresses apart; the layout is closed; rows' types; the classes' words -/
def mz_Wd (SH : List mz_Sh) (LAY : List Nat) (ad : Nat → Nat) (cls : List vw_C) (TBL : List Jvm.Cond) (ats : List FieldType) : Prop :=
  (∀ i j, i < LAY.length → j < LAY.length → ad i = ad j → i = j) ∧
  (∀ (p t ci : Nat) (fs : List mz_F) (k : Nat) (b : Bool) (off t' : Nat), LAY[p]? = some t → mz_nth SH t = some (.inl (ci, fs)) → mz_nth fs k = some (some (b, off, t')) → LAY[mz_pl b p off]? = some t') ∧
  (∀ (p t ti n t' : Nat) (b : Bool) (off w i : Nat), LAY[p]? = some t → mz_nth SH t = some (.inr (ti, n, 2, t', b, off, w)) → i < n → LAY[mz_pl b p off + w * i]? = some t') ∧
  (∀ t ti n q, mz_nth SH t = some (.inr (ti, n, 0, q)) → ats[ti]? = some .int) ∧
  (∀ t ti n q, mz_nth SH t = some (.inr (ti, n, 1, q)) → ats[ti]? = some .long) ∧
  (∀ t ti n q, mz_nth SH t = some (.inr (ti, n, 2, q)) → ∃ C, ats[ti]? = some (.object C)) ∧
  (∀ t ti n k q, mz_nth SH t = some (.inr (ti, n, k, q)) → k ≤ 2) ∧
  (∀ (ci : Nat) (q : vw_C), cls[ci]? = some q → (∀ w ∈ u_ws q.1 q.2.1 q.2.2, w ∈ TBL.filter goodWord) ∧ ∃ ty0 : Nat → FieldType, (∀ k, k < q.2.2 → parseFieldDescriptor (q.2.1 k).2.2.1 = some (ty0 k)) ∧ ∀ a, a < q.2.2 → ∀ b, b < q.2.2 → a ≠ b → (q.2.1 a).2.1 ≠ (q.2.1 b).2.1)
section MZS
variable {p : Program} {l : Launch} {e : Env} {s : State} {m : MethodId} {args : Array Value} {below : List Frame} {meth : Method} {c : Code} {d : Nat}
variable {SH : List mz_Sh} {LAY : List Nat} {cA : Nat → ClassId} {ad : Nat → Nat} {D : va_G} {cls : List vw_C} {TBL : List Jvm.Cond} {host : String} {MS : List mz_Me} {ats : List FieldType}
/-- a method is being run -/
def mz_Cx (p : Program) (s : State) (m : MethodId) (args : Array Value) (meth : Method) (c : Code) (cA : Nat → ClassId) (D : va_G) (cls : List vw_C) (TBL : List Jvm.Cond) (ats : List FieldType) (me : mz_Me) : Prop :=
  p.tables.exec = Jvm.exec ∧ c.code = me.2.1 ∧ c.maxLocals = me.2.2.1 ∧ s.vm.findClass me.1.cls = some m.cls ∧ (∀ w ∈ mz_ws TBL me, w.before args s = true) ∧ meth.sig.returnType = me.2.2.2.1 ∧ meth.locks = false ∧ va_K D cls (mz_ty ats cA) s ∧ mz_NW TBL s
def mz_PW (p : Program) (l : Launch) (e : Env) (R : Room) (s : State) (m : MethodId) (args : Array Value) (below : List Frame) (meth : Method) (c : Code) (SH : List mz_Sh) (LAY : List Nat) (cA : Nat → ClassId) (ad : Nat → Nat) (D : va_G) (cls : List vw_C) (nL : Nat) (Qf : State → Prop) (z : mz_S) : Prop :=
  ∀ (H : Heap) (locs : List Loc) (ls : Array Slot), lv_has ls nL (mz_lc ad z.2.1) → mz_vl LAY z.2.1 → mz_vs LAY z.2.2.1 → va_P D cls (mz_w SH LAY cA ad z.2.2.2) H → va_S (mz_A LAY ad) s.heap H locs → W p l e R s m args below meth c H locs 0 0 Qf (F0 m z.1 ls (z.2.2.1.map (mz_cv ad)))
theorem mz_call {H : Heap} {locs : List Loc} {R : Room} {a : Array Value} {rest : List Value} {st0 : List Value} {pc : Nat} {ls : Array Slot} {r : Option mz_V} {μ' : mz_M} {Qf : State → Prop}
    (hr : va_Run p l e R s m args below meth c H locs 0 0 0 0 (F0 m pc ls st0) rest (mz_QC SH LAY cA ad D cls r μ' a) (mz_A LAY ad)) (hS : va_S (mz_A LAY ad) s.heap H locs)
    (kk : ∀ (H1 : Heap) (locs1 : List Loc), (∀ v, r = some v → mz_vd LAY v) → va_P D cls (mz_w SH LAY cA ad μ') H1 → va_S (mz_A LAY ad) s.heap H1 locs1 → W p l e R s m args below meth c H1 locs1 0 0 Qf (F0 m (pc + 3) ls ((r.map (mz_cv ad)).toList ++ rest))) : W p l e R s m args below meth c H locs 0 0 Qf (F0 m pc ls st0) := by
  intro T hT X
  obtain ⟨v, st₀, t, T', L, h0, X', hL, e1, e2, ⟨hv, hvd, hp, hz, hk⟩, st⟩ := hr T hT X
  cases hv
  rw [h0] at hz hk
  obtain ⟨t2, a1, b1⟩ := kk T'.heap (locs ++ L) hvd (by rw [e1]; exact hp)
    ⟨Nat.le_trans hS.1 (by rw [e1]; exact hz), fun q h1 h2 => by rw [e1, hk q (Nat.lt_of_lt_of_le h1 hS.1) h2]; exact hS.2.1 q h1 h2, fun q hq => by
      rcases List.mem_append.mp hq with h | h
      · exact hS.2.2 q h
      · exact hL q h⟩ T' rfl X'
  exact ⟨t2, st t2 a1, b1⟩
theorem mz_vs_app {a b : List mz_V} (h1 : ∀ v ∈ a, mz_vd LAY v) (h2 : mz_vs LAY b) : mz_vs LAY (a ++ b) := fun v hv => by
  rcases List.mem_append.mp hv with h | h
  · exact h1 v h
  · exact h2 v h
theorem mz_blind {a : List mz_V} {μ : mz_M} : FrameBlind (mz_Pc SH LAY cA ad D cls TBL ats a μ) := by
  intro a U g mk q
  obtain ⟨h1, h2, h3, h4⟩ := q
  exact ⟨h1, h2, va_K.moved (u := U) (U := U.calling g mk a) (Vm.Alike.refl U.vm) h3, mz_NW.same (s := U) (U := U.calling g mk a) rfl h4⟩
theorem mz_pre {H : Heap} {a : List mz_V} {μ : mz_M} (hP : va_P D cls (mz_w SH LAY cA ad μ) H) (hK : va_K D cls (mz_ty ats cA) s) (hN : mz_NW TBL s) : ∀ U : State, U.heap = H → s.WarmedH U.vm → mz_Pc SH LAY cA ad D cls TBL ats a μ (a.map (mz_cv ad)).toArray U :=
  fun U hU hW => ⟨rfl, by rw [hU]; exact hP, va_K.moved hW.alike hK, mz_NW.warm hW hN⟩
/-- the words of one method among another's -/
theorem mz_good {me me' : mz_Me} (h : Jvm.Cond.code me'.1 me'.2.1 me'.2.2.1 me'.2.2.2.1 ∈ TBL) : GoodIn (mz_ws TBL me) (mz_ws TBL me') := by
  intro w hw
  rcases List.mem_cons.mp hw with rfl | hw
  · exact ⟨List.mem_cons_of_mem _ (List.mem_filter.mpr ⟨h, rfl⟩), Or.inl rfl⟩
  · exact ⟨List.mem_cons_of_mem _ hw, good_of_word (List.mem_filter.mp hw).2⟩
theorem mz_okM_i {me : mz_Me} (h : mz_okM TBL host cls MS me = true) : Jvm.Cond.code me.1 me.2.1 me.2.2.1 me.2.2.2.1 ∈ TBL ∧ Jvm.Cond.initialized me.1.cls ∈ TBL ∧ (me.2.2.2.2.2.1 = true → Jvm.Cond.static me.1 ∈ TBL) ∧ (me.2.2.2.2.2.1 = false → Jvm.Cond.instanceMethod me.1 ∈ TBL ∧ Jvm.Cond.selects me.1.cls me.1 me.1 ∈ TBL) ∧ plainFor me.1 = true ∧ (me.1.cls ≠ "java/lang/invoke/MethodHandle" ∧ me.1.cls ≠ "java/lang/invoke/VarHandle") ∧ (parseMethodDescriptor me.1.desc).map (fun d => d.parameters.length) = some me.2.2.2.2.1 ∧ me.2.2.1 ≤ 30 ∧ mz_okR TBL host cls MS me 0 me.2.2.2.2.2.2.2 = true := by
  unfold mz_okM at h
  simp only [Bool.and_eq_true] at h
  obtain ⟨⟨⟨⟨⟨h1, h2⟩, h3⟩, h4⟩, h5⟩, h6⟩ := h
  split at h1
  · simp only [Bool.and_eq_true] at h1
    obtain ⟨⟨a1, a2⟩, a3⟩ := h1
    refine ⟨mz_lw_m a1, mz_lw_m a2, fun hs => ?_, fun hs => ?_, h2, of_decide_eq_true h3, of_decide_eq_true h4, of_decide_eq_true h5, h6⟩
    · rw [hs] at a3
      exact mz_lw_m a3
    · rw [hs] at a3
      simp only [cond_false, Bool.and_eq_true] at a3
      exact ⟨mz_lw_m a3.1, mz_lw_m a3.2⟩
  · cases h1
end MZS
end
section
section MZT
variable {p : Program} {l : Launch} {e : Env} {s : State} {m : MethodId} {args : Array Value} {below : List Frame} {meth : Method} {c : Code} {d : Nat}
variable {SH : List mz_Sh} {LAY : List Nat} {cA : Nat → ClassId} {ad : Nat → Nat} {D : va_G} {cls : List vw_C} {TBL : List Jvm.Cond} {host : String} {MS : List mz_Me} {ats : List FieldType}
/-- what is known of the methods that are called: their contracts -/
def mz_Hc (l : Launch) (SH : List mz_Sh) (LAY : List Nat) (cA : Nat → ClassId) (ad : Nat → Nat) (D : va_G) (cls : List vw_C) (TBL : List Jvm.Cond) (MS : List mz_Me) (ats : List FieldType) (d : Nat) (C : mz_Cl) : Prop :=
  ∀ (y : Nat) (a : List mz_V) (μ : mz_M) (r : Option mz_V) (μ' : mz_M) (me : mz_Me), C y a μ r μ' → mz_nth MS y = some me → (∀ v ∈ a, mz_vd LAY v) → mz_cs a ≤ me.2.2.1 → Met l me.1 (mz_ws TBL me) (mz_room d) (mz_Pc SH LAY cA ad D cls TBL ats a μ) (mz_QC SH LAY cA ad D cls r μ') 0 0 (mz_A LAY ad)
theorem mz_getW {R : Room} {H : Heap} {locs : List Loc} {pc : Nat} {ls : Array Slot} {rest : List Value} {μ : mz_M} {me : mz_Me} {Qf : State → Prop} {t pp ci f nest pl idx : Nat} {fs : List mz_F} {g : mz_F}
    (hW : mz_Wd SH LAY ad cls TBL ats) (hX : mz_Cx p s m args meth c cA D cls TBL ats me) (hd : decode me.2.1 pc = .ok (.getfield idx, 3)) (hP : va_P D cls (mz_w SH LAY cA ad μ) H) (hv : LAY[pp]? = some t) (hs : mz_nth SH t = some (.inl (ci, fs))) (hg : mz_nth fs f = some g) (ho : mz_okc TBL host cls me.1.cls idx ci f nest pl = true)
    (k : W p l e R s m args below meth c H locs 0 0 Qf (F0 m (pc + 3) ls (mz_fv ad μ pp f g :: rest))) : W p l e R s m args below meth c H locs 0 0 Qf (F0 m pc ls (.ref (ad pp) :: rest)) := by
  obtain ⟨hx, hb, hml, hown, hts, hr, hlocks, hK, hN⟩ := hX
  obtain ⟨-, -, -, -, -, -, -, hcl⟩ := hW
  unfold mz_okc at ho
  split at ho
  · next q hq =>
    rw [Bool.and_eq_true] at ho
    obtain ⟨h1, h2⟩ := ho
    obtain ⟨hin, ty0, hty, hnm⟩ := hcl ci q hq
    have hin' : ∀ w ∈ u_ws q.1 q.2.1 q.2.2, w ∈ mz_ws TBL me := fun w h => List.mem_cons_of_mem _ (hin w h)
    have he := mz_w_get (cA := cA) (ad := ad) (μ := μ) hv hs
    have hfl : f < fs.length := by
      rw [mz_nth_eq] at hg
      exact (List.getElem?_eq_some_iff.mp hg).1
    have hval : ((List.range fs.length).map (fun k => mz_fv ad μ pp k (fs.getD k none)))[f]? = some (mz_fv ad μ pp f g) := by
      rw [List.getElem?_map, List.getElem?_range hfl]
      show some (mz_fv ad μ pp f (fs.getD f none)) = _
      rw [mz_nth_eq] at hg
      rw [List.getD_eq_getElem?_getD, hg]; rfl
    cases nest with
    | zero => exact va_get hx hb hts hin' hown hK hP pp he hq f (of_decide_eq_true h1) (hts _ (List.mem_cons_of_mem _ (mz_lw_g h2 rfl))) (fun _ h => h) hval hd k
    | succ n => exact va_getN hx hb hts hin' hown hK hP pp he hq f (of_decide_eq_true h1) (va_Nw.use rfl (hN _ (mz_lw_m h2) rfl)) (fun _ h => h) hval hd k
  · cases ho
theorem mz_putW {R : Room} {H : Heap} {locs : List Loc} {pc : Nat} {ls : Array Slot} {rest : List Value} {μ : mz_M} {me : mz_Me} {Qf : State → Prop} {t pp ci f b nest pl idx : Nat} {fs : List mz_F} {x : Int32}
    (hW : mz_Wd SH LAY ad cls TBL ats) (hX : mz_Cx p s m args meth c cA D cls TBL ats me) (hd : decode me.2.1 pc = .ok (.putfield idx, 3)) (hP : va_P D cls (mz_w SH LAY cA ad μ) H) (hS : va_S (mz_A LAY ad) s.heap H locs) (hv : LAY[pp]? = some t) (hs : mz_nth SH t = some (.inl (ci, fs))) (hg : mz_nth fs f = some none) (ho : mz_okc TBL host cls me.1.cls idx ci f nest pl = true)
    (ho2 : ∀ q, cls[ci]? = some q → (q.2.1 f).2.2.2 = false ∧ parseFieldDescriptor (q.2.1 f).2.2.1 = some (match b with
          | 0 => .int
          | _ + 1 => .boolean)) (hbx : b ≠ 0 → x = 0 ∨ x = 1)
    (k : ∀ (H1 : Heap) (locs1 : List Loc), va_P D cls (mz_w SH LAY cA ad (mz_wI μ pp f x)) H1 → va_S (mz_A LAY ad) s.heap H1 locs1 → W p l e R s m args below meth c H1 locs1 0 0 Qf (F0 m (pc + 3) ls rest)) : W p l e R s m args below meth c H locs 0 0 Qf (F0 m pc ls (.int x :: .ref (ad pp) :: rest)) := by
  obtain ⟨hx, hb, hml, hown, hts, hr, hlocks, hK, hN⟩ := hX
  obtain ⟨had, -, -, -, -, -, -, hcl⟩ := hW
  unfold mz_okc at ho
  split at ho
  · next q hq =>
    rw [Bool.and_eq_true] at ho
    obtain ⟨h1, h2⟩ := ho
    obtain ⟨hin, ty0, hty, hnm⟩ := hcl ci q hq
    obtain ⟨hfin, hdesc⟩ := ho2 q hq
    have hin' : ∀ w ∈ u_ws q.1 q.2.1 q.2.2, w ∈ mz_ws TBL me := fun w h => List.mem_cons_of_mem _ (hin w h)
    have he := mz_w_get (cA := cA) (ad := ad) (μ := μ) hv hs
    have hfl : f < fs.length := by
      rw [mz_nth_eq] at hg
      exact (List.getElem?_eq_some_iff.mp hg).1
    have hgd : fs.getD f none = none := by
      rw [mz_nth_eq] at hg
      rw [List.getD_eq_getElem?_getD, hg]; rfl
    have hset : ((List.range fs.length).map (fun k => mz_fv ad μ pp k (fs.getD k none))).set f (.int x) = (List.range fs.length).map (fun k => mz_fv ad (mz_wI μ pp f x) pp k (fs.getD k none)) := by
      apply List.ext_getElem?
      intro j
      by_cases hj : j = f
      · subst hj
        rw [List.getElem?_set_self (by rw [List.length_map, List.length_range]; exact hfl), List.getElem?_map, List.getElem?_range hfl]
        show _ = some (mz_fv ad (mz_wI μ pp j x) pp j (fs.getD j none))
        rw [hgd]
        show some (Value.int x) = some (Value.int (mz_wr μ.1 pp (upd (μ.1 pp) j x) pp j))
        simp [mz_wr, upd]
      · rw [List.getElem?_set_ne (Ne.symm hj), List.getElem?_map, List.getElem?_map]
        cases hr : (List.range fs.length)[j]? with
        | none => rfl
        | some z =>
          have hz : z = j := by
            obtain ⟨h1, h2⟩ := List.getElem?_eq_some_iff.mp hr
            rw [List.getElem_range] at h2
            exact h2.symm
          subst hz
          show some (mz_fv ad μ pp z (fs.getD z none)) = some (mz_fv ad (mz_wI μ pp f x) pp z (fs.getD z none))
          cases fs.getD z none with
          | none =>
            show some (Value.int (μ.1 pp z)) = some (Value.int (mz_wr μ.1 pp (upd (μ.1 pp) f x) pp z))
            simp [mz_wr, upd, hj]
          | some q => rfl
    have hw : (mz_w SH LAY cA ad μ).set pp (ad pp, .inr (ci, ((List.range fs.length).map (fun k => mz_fv ad μ pp k (fs.getD k none))).set f (.int x))) = mz_w SH LAY cA ad (mz_wI μ pp f x) := by
      rw [hset]
      exact mz_w_set hv hs (fun q hq => ⟨by simp [mz_wI, mz_wr, hq], rfl⟩)
    have hD := mz_w_D (SH := SH) (cA := cA) (μ := μ) had
    have hn : ∀ ty : FieldType, parseFieldDescriptor (q.2.1 f).2.2.1 = some ty → narrow ty (.int x) = .int x ∧ fits ty (.int x) = true := by
      intro ty h
      rw [hdesc] at h
      cases h
      cases b with
      | zero => exact ⟨vp_nar_int x, rfl⟩
      | succ b =>
        rcases hbx (by omega) with rfl | rfl
        · exact ⟨show narrow .boolean (.int 0) = .int 0 by decide +kernel, show fits .boolean (.int 0) = true by decide +kernel⟩
        · exact ⟨show narrow .boolean (.int 1) = .int 1 by decide +kernel, show fits .boolean (.int 1) = true by decide +kernel⟩
    obtain ⟨hn1, hn2⟩ := hn _ hdesc
    cases nest with
    | zero => exact va_put hx hb hts hin' ty0 hty hnm hown hK hP hD hS pp he hq f (of_decide_eq_true h1) (hts _ (List.mem_cons_of_mem _ (mz_lw_g h2 rfl))) (fun _ h => h) hfin hdesc hn1 hn2 (by rw [List.length_map, List.length_range]; exact hfl) hd (fun H1 locs1 a1 a2 a3 => k H1 locs1 (by rw [hw] at a1; exact a1) a3)
    | succ n => exact va_putN hx hb hts hin' ty0 hty hnm hown hK hP hD hS pp he hq f (of_decide_eq_true h1) (va_Nw.use rfl (hN _ (mz_lw_m h2) rfl)) (fun _ h => h) hfin hdesc hn1 hn2 (by rw [List.length_map, List.length_range]; exact hfl) hd (fun H1 locs1 a1 a2 a3 => k H1 locs1 (by rw [hw] at a1; exact a1) a3)
  · cases ho
theorem mz_callW {R : Room} {H : Heap} {locs : List Loc} {pc : Nat} {ls : Array Slot} {μ μ' : mz_M} {me me' : mz_Me} {Qf : State → Prop} {C : mz_Cl} {y nest pl idx : Nat} {as rest : List mz_V} {r : Option mz_V} {stt : Bool}
    (hR : R = mz_room (d + 1)) (hM : ∀ (y : Nat) (me : mz_Me), mz_nth MS y = some me → mz_okM TBL host cls MS me = true) (hC : mz_Hc l SH LAY cA ad D cls TBL MS ats d C) (hX : mz_Cx p s m args meth c cA D cls TBL ats me) (hls : ls.size = me.2.2.1) (hP : va_P D cls (mz_w SH LAY cA ad μ) H) (hS : va_S (mz_A LAY ad) s.heap H locs) (hy : mz_nth MS y = some me') (hst : me'.2.2.2.2.2.1 = stt) (hlen : as.length = me'.2.2.2.2.1 + (bif stt then 0 else 1)) (hcr : mz_cs rest ≤ 8) (hca : mz_cs as ≤ me'.2.2.1)
    (hlk : (match nest with
      | 0 => mz_lw TBL pl (.methodLink me.1.cls idx me'.1)
      | _ + 1 => mz_lw TBL pl (.methodLinkNest me.1.cls idx me'.1 host)) = true)
    (hd : decode me.2.1 pc = .ok (bif stt then .invokestatic idx else .invokevirtual idx, 3))
    (hrv : stt = false → ∃ t pp as' ci fs q, as = mz_R t pp :: as' ∧ LAY[pp]? = some t ∧ mz_nth SH t = some (.inl (ci, fs)) ∧ cls[ci]? = some q ∧ q.1 = me'.1.cls)
    (hva : ∀ v ∈ as, mz_vd LAY v) (hq : C y as μ r μ')
    (kk : ∀ (H1 : Heap) (locs1 : List Loc), (∀ v, r = some v → mz_vd LAY v) → va_P D cls (mz_w SH LAY cA ad μ') H1 → va_S (mz_A LAY ad) s.heap H1 locs1 → W p l e R s m args below meth c H1 locs1 0 0 Qf (F0 m (pc + 3) ls ((r.map (mz_cv ad)).toList ++ rest.map (mz_cv ad)))) : W p l e R s m args below meth c H locs 0 0 Qf (F0 m pc ls ((as.reverse ++ rest).map (mz_cv ad))) := by
  have hX0 := hX
  obtain ⟨hx, hb, hml, hown, hts, hr, hlocks, hK, hN⟩ := hX
  obtain ⟨o1, o2, o3, o4, o5, o6, o7, o8, -⟩ := mz_okM_i (hM y me' hy)
  have hMet := hC y as μ r μ' me' hq hy hva hca
  have hG := mz_good (me := me) o1
  have hroom : (mz_room d).frames + 1 ≤ R.frames ∧ 8 + (me'.2.2.1 + 11) + (mz_room d).locals ≤ R.locals := by
    subst hR
    show d + 1 ≤ d + 1 ∧ 8 + (me'.2.2.1 + 11) + (60 * d + 100) ≤ 60 * (d + 1) + 100
    omega
  have gw : ∀ w, w ∈ TBL → goodWord w = true → w.before args s = true := fun w h1 h2 => hts w (List.mem_cons_of_mem _ (List.mem_filter.mpr ⟨h1, h2⟩))
  have hW8 : 2 * (F0 m pc ls ((as.reverse ++ rest).map (mz_cv ad))).monitorRoom + ((rest.map (mz_cv ad)).map fun v => v.category).sum ≤ 8 := lv_room (by rw [mz_cs_sum]; exact hcr)
  have hcells : 0 + 0 ≤ R.cells ∧ 0 + 0 ≤ R.slots := ⟨Nat.zero_le _, Nat.zero_le _⟩
  have hstk : (as.reverse ++ rest).map (mz_cv ad) = (as.map (mz_cv ad)).reverse ++ rest.map (mz_cv ad) := by rw [List.map_append, List.map_reverse]
  cases stt with
  | true =>
    have hlen' : (as.map (mz_cv ad)).length = me'.2.2.2.2.1 := by rw [List.length_map, hlen]; rfl
    cases nest with
    | zero =>
      refine mz_call (va_runS (As := as.map (mz_cv ad)) (rest := rest.map (mz_cv ad)) ⟨hx, hb, hml, hown, hts⟩ hMet ⟨callB_of me'.2.2.2.2.1 hts hG rfl rfl rfl (gw _ o2 rfl) (gw _ (mz_lw_m hlk) rfl) ⟨o6.1, o6.2, o7⟩ hroom, gw _ (o3 hst) rfl⟩ ⟨mz_blind, mz_pre hP hK hN⟩ rfl hlen' hls hstk hW8 hd hcells) hS kk
    | succ n =>
      refine mz_call (va_runSN (As := as.map (mz_cv ad)) (rest := rest.map (mz_cv ad)) ⟨hx, hb, hml, hown, hts⟩ hMet ⟨va_cnB me'.2.2.2.2.1 hts hG rfl rfl rfl (hN _ (mz_lw_m hlk) rfl) (gw _ o2 rfl) ⟨o6.1, o6.2, o7⟩ hroom, gw _ (o3 hst) rfl, trivial⟩ ⟨mz_blind, mz_pre hP hK hN⟩ rfl hlen' hls hstk hW8 hd hcells) hS kk
  | false =>
    obtain ⟨t, pp, as', ci, fs, q, rfl, hvp, hsh, hcq, hqn⟩ := hrv rfl
    have hlen' : (as'.map (mz_cv ad)).length = me'.2.2.2.2.1 := by
      rw [List.length_map]
      have : as'.length + 1 = me'.2.2.2.2.1 + 1 := hlen
      omega
    obtain ⟨s1, s2⟩ := o4 hst
    have hrec := va_recv hK hP hcq (mz_w_get (cA := cA) (ad := ad) (μ := μ) hvp hsh)
    rw [hqn] at hrec
    have hstk' : ((mz_R t pp :: as').reverse ++ rest).map (mz_cv ad) = (as'.map (mz_cv ad)).reverse ++ .ref (ad pp) :: rest.map (mz_cv ad) := by
      rw [hstk, List.map_cons, List.reverse_cons, List.append_assoc]
      rfl
    cases nest with
    | zero =>
      refine mz_call (va_runV (b := ad pp) (As := as'.map (mz_cv ad)) (rest := rest.map (mz_cv ad)) ⟨hx, hb, hml, hown, hts⟩ hMet ⟨callB_of me'.2.2.2.2.1 hts hG rfl rfl rfl (gw _ o2 rfl) (gw _ (mz_lw_m hlk) rfl) ⟨o6.1, o6.2, o7⟩ hroom, gw _ s1 rfl, gw _ s2 rfl⟩ ⟨mz_blind, hrec, mz_pre (a := mz_R t pp :: as') hP hK hN⟩ rfl hlen' hls hstk' hW8 hd hcells) hS kk
    | succ n =>
      refine mz_call (va_runVN (b := ad pp) (As := as'.map (mz_cv ad)) (rest := rest.map (mz_cv ad)) ⟨hx, hb, hml, hown, hts⟩ hMet ⟨va_cnB me'.2.2.2.2.1 hts hG rfl rfl rfl (hN _ (mz_lw_m hlk) rfl) (gw _ o2 rfl) ⟨o6.1, o6.2, o7⟩ hroom, gw _ s1 rfl, gw _ s2 rfl⟩ ⟨mz_blind, hrec, mz_pre (a := mz_R t pp :: as') hP hK hN⟩ rfl hlen' hls hstk' hW8 hd hcells) hS kk
end MZT
end
section
section MZU
variable {p : Program} {l : Launch} {e : Env} {s : State} {m : MethodId} {args : Array Value} {below : List Frame} {meth : Method} {c : Code} {d : Nat}
variable {SH : List mz_Sh} {LAY : List Nat} {cA : Nat → ClassId} {ad : Nat → Nat} {D : va_G} {cls : List vw_C} {TBL : List Jvm.Cond} {host : String} {MS : List mz_Me} {ats : List FieldType}
theorem mz_oka_i {own : String} {idx : Nat} {stt : Bool} {a : List Nat} (h : mz_oka TBL host MS own idx stt a = true) : ∃ (y n k t ml nest pl : Nat) (me' : mz_Me), a = [y, n, k, t, ml, nest, pl] ∧ mz_nth MS y = some me' ∧ me'.2.2.2.2.2.1 = stt ∧ n = me'.2.2.2.2.1 + (bif stt then 0 else 1) ∧ ml = me'.2.2.1 ∧ (match nest with
      | 0 => mz_lw TBL pl (.methodLink own idx me'.1)
      | _ + 1 => mz_lw TBL pl (.methodLinkNest own idx me'.1 host)) = true := by
  unfold mz_oka at h
  split at h
  · next y n k t ml nest pl =>
    split at h
    · next me' hm =>
      simp only [Bool.and_eq_true, decide_eq_true_eq] at h
      exact ⟨y, n, k, t, ml, nest, pl, me', rfl, hm, h.1.1.1, h.1.1.2, h.1.2, h.2⟩
    · cases h
  · cases h
theorem mz_look {x : Int32} {K : Nat → Prop} {pc dn : Nat} {df : Int} (hdf : (pc : Int) + df = (dn : Int)) : ∀ {prs : List (Int × Int)}, (∀ q ∈ prs, 0 ≤ q.1 ∧ q.1 < 2147483648 ∧ 0 ≤ (pc : Int) + q.2) → mz_sw x K dn (mz_prl pc prs) → ∃ (off : Int) (tgt : Nat), Op.lookupswitch.offset prs df x.toInt = off ∧ (pc : Int) + off = (tgt : Int) ∧ K tgt
  | [], _, h => ⟨df, dn, rfl, hdf, h⟩
  | q :: r, hq, h => by
    obtain ⟨a, o⟩ := q
    obtain ⟨q1, q2, q3⟩ := hq (a, o) List.mem_cons_self
    dsimp only at q1 q2 q3
    unfold mz_prl mz_sw at h
    dsimp only at h
    rw [Op.lookupswitch.offset_cons]
    by_cases hx : x = nI a.toNat
    · rw [if_pos hx] at h
      have e : a = x.toInt := by rw [hx, nI_toInt (by omega)]; omega
      rw [if_pos e]
      exact ⟨o, _, rfl, by omega, h⟩
    · rw [if_neg hx] at h
      have e : ¬ a = x.toInt := by
        intro z
        apply hx
        apply Int32.toInt_inj.mp
        rw [nI_toInt (by omega)]
        omega
      rw [if_neg e]
      exact mz_look hdf (fun z hz => hq z (List.mem_cons_of_mem _ hz)) h
set_option maxHeartbeats 8000000 in
set_option maxRecDepth 100000 in
theorem mz_opW {me : mz_Me} {C : mz_Cl} {r0 : Option mz_V} {μ0 : mz_M} (hW : mz_Wd SH LAY ad cls TBL ats) (hM : ∀ (y : Nat) (me : mz_Me), mz_nth MS y = some me → mz_okM TBL host cls MS me = true) (hC : mz_Hc l SH LAY cA ad D cls TBL MS ats d C) (hX : mz_Cx p s m args meth c cA D cls TBL ats me) {ee : mz_E} {pc : Nat} {L : mz_Lo} {st : List mz_V} {μ : mz_M} (hok : mz_ok TBL host cls MS me pc ee = true)
    (h : mz_op SH C (fun r2 μ2 => r2 = r0 ∧ μ2 = μ0) (mz_PW p l e (mz_room (d + 1)) s m args below meth c SH LAY cA ad D cls me.2.2.1 (MQ below (mz_QC SH LAY cA ad D cls r0 μ0) args s 0 0 (mz_A LAY ad))) ee pc L st μ) :
    mz_PW p l e (mz_room (d + 1)) s m args below meth c SH LAY cA ad D cls me.2.2.1 (MQ below (mz_QC SH LAY cA ad D cls r0 μ0) args s 0 0 (mz_A LAY ad)) (pc, L, st, μ) := by
  intro H locs ls hl hvl hvs hP hS
  have hX0 := hX
  have hW0 := hW
  obtain ⟨hx, hb, hml, hown, hts, hr, hlocks, hK, hN⟩ := hX
  obtain ⟨had, hL1, hL2, hS0, hS1, hS2, hS3, hcl⟩ := hW
  have gw : ∀ w, w ∈ TBL → goodWord w = true → w.before args s = true := fun w h1 h2 => hts w (List.mem_cons_of_mem _ (List.mem_filter.mpr ⟨h1, h2⟩))
  have hD := mz_w_D (SH := SH) (cA := cA) (μ := μ) had
  have hls : ls.size = me.2.2.1 := hl.1
  obtain ⟨i, len, c32, c64, a, ps, kt, kn⟩ := ee
  unfold mz_ok at hok
  rw [Bool.and_eq_true] at hok
  obtain ⟨hd', hok⟩ := hok
  have hd := of_decide_eq_true hd'
  clear hd'
  dsimp only at hd
  cases i
  case iconst n =>
    simp only [Bool.and_eq_true, decide_eq_true_eq] at hok
    obtain ⟨rfl, hc⟩ := hok
    exact lv_iconst hx hb hd hc (h H locs ls (mz_has_kp kn hl) (mz_vl_kp kn hvl) (mz_vs_c trivial hvs) hP hS)
  case bipush n =>
    simp only [Bool.and_eq_true, decide_eq_true_eq] at hok
    obtain ⟨rfl, hc⟩ := hok
    exact lv_bipush hx hb hd hc (h H locs ls (mz_has_kp kn hl) (mz_vl_kp kn hvl) (mz_vs_c trivial hvs) hP hS)
  case sipush n =>
    simp only [Bool.and_eq_true, decide_eq_true_eq] at hok
    obtain ⟨rfl, hc⟩ := hok
    exact lv_sipush hx hb hd hc (h H locs ls (mz_has_kp kn hl) (mz_vl_kp kn hvl) (mz_vs_c trivial hvs) hP hS)
  case lconst n =>
    simp only [Bool.and_eq_true, decide_eq_true_eq] at hok
    obtain ⟨rfl, hc⟩ := hok
    exact lv_lconst hx hb hd hc (h H locs ls (mz_has_kp kn hl) (mz_vl_kp kn hvl) (mz_vs_c trivial hvs) hP hS)
  case ldc n =>
    simp only [Bool.and_eq_true, decide_eq_true_eq] at hok
    obtain ⟨rfl, hc⟩ := hok
    exact lv_ldc hx hb hown (gw _ (mz_lw_m hc) rfl) hd (h H locs ls (mz_has_kp kn hl) (mz_vl_kp kn hvl) (mz_vs_c trivial hvs) hP hS)
  case ldc_w n =>
    simp only [Bool.and_eq_true, decide_eq_true_eq] at hok
    obtain ⟨rfl, hc⟩ := hok
    exact lv_ldcw hx hb hown (gw _ (mz_lw_m hc) rfl) hd (h H locs ls (mz_has_kp kn hl) (mz_vl_kp kn hvl) (mz_vs_c trivial hvs) hP hS)
  case ldc2_w n =>
    simp only [Bool.and_eq_true, decide_eq_true_eq] at hok
    obtain ⟨rfl, hc⟩ := hok
    exact lv_ldc2 hx hb hown (gw _ (mz_lw_m hc) rfl) hd (h H locs ls (mz_has_kp kn hl) (mz_vl_kp kn hvl) (mz_vs_c trivial hvs) hP hS)
  case iload_n k =>
    simp only [Bool.and_eq_true, decide_eq_true_eq] at hok
    obtain ⟨rfl, hc⟩ := hok
    obtain ⟨x, hk, h⟩ := mz_li_i h
    exact lv_iload_n hx hb hd hc (mz_has_at hl hk) (h H locs ls (mz_has_kp kn hl) (mz_vl_kp kn hvl) (mz_vs_c trivial hvs) hP hS)
  case iload k =>
    simp only [Bool.and_eq_true, decide_eq_true_eq] at hok
    obtain ⟨rfl, rfl⟩ := hok
    obtain ⟨x, hk, h⟩ := mz_li_i h
    exact lv_iload hx hb hd (mz_has_at hl hk) (h H locs ls (mz_has_kp kn hl) (mz_vl_kp kn hvl) (mz_vs_c trivial hvs) hP hS)
  case lload_n k =>
    simp only [Bool.and_eq_true, decide_eq_true_eq] at hok
    obtain ⟨rfl, hc⟩ := hok
    obtain ⟨x, hk, h⟩ := mz_ll_i h
    exact lv_lload_n hx hb hd hc (mz_has_at hl hk) (h H locs ls (mz_has_kp kn hl) (mz_vl_kp kn hvl) (mz_vs_c trivial hvs) hP hS)
  case lload k =>
    simp only [Bool.and_eq_true, decide_eq_true_eq] at hok
    obtain ⟨rfl, rfl⟩ := hok
    obtain ⟨x, hk, h⟩ := mz_ll_i h
    exact lv_lload hx hb hd (mz_has_at hl hk) (h H locs ls (mz_has_kp kn hl) (mz_vl_kp kn hvl) (mz_vs_c trivial hvs) hP hS)
  case aload_n k =>
    simp only [Bool.and_eq_true, decide_eq_true_eq] at hok
    obtain ⟨rfl, hc⟩ := hok
    obtain ⟨t, x, hk, h⟩ := mz_lr_i h
    exact lv_aload_n hx hb hd hc (mz_has_at hl hk) (h H locs ls (mz_has_kp kn hl) (mz_vl_kp kn hvl) (mz_vs_c (mz_vl_lk hvl hk) hvs) hP hS)
  case aload k =>
    simp only [Bool.and_eq_true, decide_eq_true_eq] at hok
    obtain ⟨rfl, rfl⟩ := hok
    obtain ⟨t, x, hk, h⟩ := mz_lr_i h
    exact lv_aload hx hb hd (mz_has_at hl hk) (h H locs ls (mz_has_kp kn hl) (mz_vl_kp kn hvl) (mz_vs_c (mz_vl_lk hvl hk) hvs) hP hS)
  case istore_n k =>
    simp only [Bool.and_eq_true, decide_eq_true_eq] at hok
    obtain ⟨⟨rfl, hc⟩, hn⟩ := hok
    obtain ⟨x, r, rfl, h⟩ := mz_p1_i h
    exact lv_istore_n hx hb hd hc hl hn rfl (fun ls hl => h H locs ls (mz_has_st1 (v := mz_I x) kn hl) (mz_vl_st1 kn hvl trivial) (mz_vs_t hvs) hP hS)
  case istore k =>
    simp only [Bool.and_eq_true, decide_eq_true_eq] at hok
    obtain ⟨⟨rfl, rfl⟩, hn⟩ := hok
    obtain ⟨x, r, rfl, h⟩ := mz_p1_i h
    exact lv_istore hx hb hd hl hn rfl (fun ls hl => h H locs ls (mz_has_st1 (v := mz_I x) kn hl) (mz_vl_st1 kn hvl trivial) (mz_vs_t hvs) hP hS)
  case lstore_n k =>
    simp only [Bool.and_eq_true, decide_eq_true_eq] at hok
    obtain ⟨⟨rfl, hc⟩, hn⟩ := hok
    obtain ⟨x, r, rfl, h⟩ := mz_g1_i h
    exact lv_lstore_n hx hb hd hc hl hn rfl (fun ls hl => h H locs ls (mz_has_st2 (v := mz_L x) kn hl) (mz_vl_st2 kn hvl trivial) (mz_vs_t hvs) hP hS)
  case lstore k =>
    simp only [Bool.and_eq_true, decide_eq_true_eq] at hok
    obtain ⟨⟨rfl, rfl⟩, hn⟩ := hok
    obtain ⟨x, r, rfl, h⟩ := mz_g1_i h
    exact lv_lstore hx hb hd hl hn rfl (fun ls hl => h H locs ls (mz_has_st2 (v := mz_L x) kn hl) (mz_vl_st2 kn hvl trivial) (mz_vs_t hvs) hP hS)
  case astore_n k =>
    simp only [Bool.and_eq_true, decide_eq_true_eq] at hok
    obtain ⟨⟨rfl, hc⟩, hn⟩ := hok
    obtain ⟨t, x, r, rfl, h⟩ := mz_h1_i h
    exact lv_astore_n hx hb hd hc hl hn rfl (fun ls hl => h H locs ls (mz_has_st1 (v := mz_R t x) kn hl) (mz_vl_st1 kn hvl (mz_vs_h hvs)) (mz_vs_t hvs) hP hS)
  case astore k =>
    simp only [Bool.and_eq_true, decide_eq_true_eq] at hok
    obtain ⟨⟨rfl, rfl⟩, hn⟩ := hok
    obtain ⟨t, x, r, rfl, h⟩ := mz_h1_i h
    exact lv_astore hx hb hd hl hn rfl (fun ls hl => h H locs ls (mz_has_st1 (v := mz_R t x) kn hl) (mz_vl_st1 kn hvl (mz_vs_h hvs)) (mz_vs_t hvs) hP hS)
  case iinc k n =>
    simp only [Bool.and_eq_true, decide_eq_true_eq] at hok
    obtain ⟨⟨⟨rfl, rfl⟩, hn⟩, hc⟩ := hok
    obtain ⟨x, hk, h⟩ := mz_li_i h
    obtain ⟨j, hj⟩ := List.getElem?_of_mem (List.mem_map.mpr ⟨_, mz_lk_mem hk, rfl⟩ : ((mz_a0 a, mz_cv ad (mz_I x)) : Nat × Value) ∈ mz_lc ad L)
    exact lv_iinc (k := j) (v := x + c32) hx hb hd hl hj (by rw [hc]) hn rfl (fun ls hl => h H locs ls (mz_has_st1 (v := mz_I (x + c32)) kn hl) (mz_vl_st1 kn hvl trivial) hvs hP hS)
  case goto off =>
    simp only [Bool.and_eq_true, decide_eq_true_eq] at hok
    obtain ⟨rfl, ht⟩ := hok
    exact lv_goto hx hb hd ht (h H locs ls (mz_has_kp kt hl) (mz_vl_kp kt hvl) hvs hP hS)
  case if_icmp op off =>
    simp only [Bool.and_eq_true, decide_eq_true_eq] at hok
    obtain ⟨rfl, ht⟩ := hok
    obtain ⟨x, y, r, rfl, h⟩ := mz_p2_i h
    have kT : ∀ {z : mz_S}, z = (mz_a0 a, mz_kp kt L, r, μ) → mz_PW p l e (mz_room (d + 1)) s m args below meth c SH LAY cA ad D cls me.2.2.1 (MQ below (mz_QC SH LAY cA ad D cls r0 μ0) args s 0 0 (mz_A LAY ad)) z → W p l e (mz_room (d + 1)) s m args below meth c H locs 0 0 (MQ below (mz_QC SH LAY cA ad D cls r0 μ0) args s 0 0 (mz_A LAY ad)) (F0 m (mz_a0 a) ls (r.map (mz_cv ad))) := by
      intro z hz h
      subst hz
      exact h H locs ls (mz_has_kp kt hl) (mz_vl_kp kt hvl) (mz_vs_t (mz_vs_t hvs)) hP hS
    have kN : ∀ {z : mz_S}, z = (pc + 3, mz_kp kn L, r, μ) → mz_PW p l e (mz_room (d + 1)) s m args below meth c SH LAY cA ad D cls me.2.2.1 (MQ below (mz_QC SH LAY cA ad D cls r0 μ0) args s 0 0 (mz_A LAY ad)) z → W p l e (mz_room (d + 1)) s m args below meth c H locs 0 0 (MQ below (mz_QC SH LAY cA ad D cls r0 μ0) args s 0 0 (mz_A LAY ad)) (F0 m (pc + 3) ls (r.map (mz_cv ad))) := by
      intro z hz h
      subst hz
      exact h H locs ls (mz_has_kp kn hl) (mz_vl_kp kn hvl) (mz_vs_t (mz_vs_t hvs)) hP hS
    cases op
    · exact lv_icmp_eq hx hb hd ht (fun q => kT rfl (mz_ite_t h q)) (fun q => kN rfl (mz_ite_f h q))
    · exact lv_icmp_ne hx hb hd ht (fun q => kT rfl (mz_ite_f h q)) (fun q => kN rfl (mz_ite_t h q))
    · exact lv_icmp_lt hx hb hd ht (fun q => kT rfl (mz_ite_t h q)) (fun q => kN rfl (mz_ite_f h q))
    · exact lv_icmp_ge hx hb hd ht (fun q => kT rfl (mz_ite_t h q)) (fun q => kN rfl (mz_ite_f h q))
    · exact lv_icmp_gt hx hb hd ht (fun q => kT rfl (mz_ite_t h q)) (fun q => kN rfl (mz_ite_f h q))
    · exact lv_icmp_le hx hb hd ht (fun q => kT rfl (mz_ite_t h q)) (fun q => kN rfl (mz_ite_f h q))
  case ifCond op off =>
    simp only [Bool.and_eq_true, decide_eq_true_eq] at hok
    obtain ⟨rfl, ht⟩ := hok
    obtain ⟨x, r, rfl, h⟩ := mz_p1_i h
    have kT : ∀ {z : mz_S}, z = (mz_a0 a, mz_kp kt L, r, μ) → mz_PW p l e (mz_room (d + 1)) s m args below meth c SH LAY cA ad D cls me.2.2.1 (MQ below (mz_QC SH LAY cA ad D cls r0 μ0) args s 0 0 (mz_A LAY ad)) z → W p l e (mz_room (d + 1)) s m args below meth c H locs 0 0 (MQ below (mz_QC SH LAY cA ad D cls r0 μ0) args s 0 0 (mz_A LAY ad)) (F0 m (mz_a0 a) ls (r.map (mz_cv ad))) := by
      intro z hz h
      subst hz
      exact h H locs ls (mz_has_kp kt hl) (mz_vl_kp kt hvl) (mz_vs_t hvs) hP hS
    have kN : ∀ {z : mz_S}, z = (pc + 3, mz_kp kn L, r, μ) → mz_PW p l e (mz_room (d + 1)) s m args below meth c SH LAY cA ad D cls me.2.2.1 (MQ below (mz_QC SH LAY cA ad D cls r0 μ0) args s 0 0 (mz_A LAY ad)) z → W p l e (mz_room (d + 1)) s m args below meth c H locs 0 0 (MQ below (mz_QC SH LAY cA ad D cls r0 μ0) args s 0 0 (mz_A LAY ad)) (F0 m (pc + 3) ls (r.map (mz_cv ad))) := by
      intro z hz h
      subst hz
      exact h H locs ls (mz_has_kp kn hl) (mz_vl_kp kn hvl) (mz_vs_t hvs) hP hS
    cases op
    · exact lv_if_eq hx hb hd ht (fun q => kT rfl (mz_ite_t h q)) (fun q => kN rfl (mz_ite_f h q))
    · exact lv_if_ne hx hb hd ht (fun q => kT rfl (mz_ite_f h q)) (fun q => kN rfl (mz_ite_t h q))
    · exact lv_if_lt hx hb hd ht (fun q => kT rfl (mz_ite_t h q)) (fun q => kN rfl (mz_ite_f h q))
    · exact lv_if_ge hx hb hd ht (fun q => kT rfl (mz_ite_t h q)) (fun q => kN rfl (mz_ite_f h q))
    · exact lv_if_gt hx hb hd ht (fun q => kT rfl (mz_ite_t h q)) (fun q => kN rfl (mz_ite_f h q))
    · exact lv_if_le hx hb hd ht (fun q => kT rfl (mz_ite_t h q)) (fun q => kN rfl (mz_ite_f h q))
  case tableswitch df lo hi offs =>
    simp only [Bool.and_eq_true, decide_eq_true_eq] at hok
    obtain ⟨⟨⟨⟨⟨g1, g2⟩, g3⟩, g4⟩, g5⟩, g6⟩ := hok
    obtain ⟨x, r, rfl, h⟩ := mz_p1_i h
    have go : ∀ t, mz_PW p l e (mz_room (d + 1)) s m args below meth c SH LAY cA ad D cls me.2.2.1 (MQ below (mz_QC SH LAY cA ad D cls r0 μ0) args s 0 0 (mz_A LAY ad)) (t, L, r, μ) → W p l e (mz_room (d + 1)) s m args below meth c H locs 0 0 (MQ below (mz_QC SH LAY cA ad D cls r0 μ0) args s 0 0 (mz_A LAY ad)) (F0 m t ls (r.map (mz_cv ad))) := fun t h => h H locs ls hl hvl (mz_vs_t hvs) hP hS
    rcases mz_sw_i h with ⟨q, hq, hxq, hk⟩ | ⟨hno, hk⟩
    · rw [g2] at hq
      obtain ⟨j, o, hj, rfl⟩ := mz_prs_m hq
      have hjl : j < offs.toList.length := (List.getElem?_eq_some_iff.mp hj).1
      have hxi : x.toInt = lo + j := by
        rw [hxq, nI_toInt (by omega)]
        omega
      have ho0 : 0 ≤ (pc : Int) + o := of_decide_eq_true (List.all_eq_true.mp g6 o (List.mem_of_getElem? hj))
      refine lv_tableIn (off := o) (tgt := ((pc : Int) + o).toNat) hx hb hd (by omega) (by omega) ?_ (by omega) (go _ hk)
      rw [hxi, show (lo + (j : Int) - lo).toNat = j by omega, ← Array.getElem?_toList]
      exact hj
    · refine lv_tableOut hx hb hd ?_ g1 (go _ hk)
      rcases Int.lt_or_le x.toInt lo with q | q
      · exact Or.inl q
      · rcases Int.lt_or_le hi x.toInt with q2 | q2
        · exact Or.inr q2
        · obtain ⟨z, hz, hz1⟩ := mz_prs_in (pc := pc) (offs := offs.toList) (lo := lo) (j := (x.toInt - lo).toNat) (by omega)
          refine absurd ?_ (hno z (by rw [g2]; exact hz))
          rw [hz1, show (lo + ((x.toInt - lo).toNat : Int)).toNat = x.toInt.toNat by omega]
          apply Int32.toInt_inj.mp
          rw [nI_toInt (by omega)]
          omega
  case lookupswitch df prs =>
    simp only [Bool.and_eq_true, decide_eq_true_eq] at hok
    obtain ⟨⟨⟨g1, g2⟩, g3⟩, g4⟩ := hok
    obtain ⟨x, r, rfl, h⟩ := mz_p1_i h
    subst g2
    obtain ⟨off, tgt, b1, b2, b3⟩ := mz_look (prs := prs.toList) g1 (fun q hq => by
      have := List.all_eq_true.mp g4 q hq
      simp only [Bool.and_eq_true, decide_eq_true_eq] at this
      exact ⟨this.1.1, this.1.2, this.2⟩) h
    exact lv_lookup hx hb hd g3 b1 b2 (b3 H locs ls hl hvl (mz_vs_t hvs) hP hS)
  case getfield idx =>
    rw [Bool.and_eq_true] at hok
    obtain ⟨h3, hok⟩ := hok
    obtain rfl := of_decide_eq_true h3
    split at hok
    · next ci f nest pl =>
      obtain ⟨t, pp, r, rfl, k1⟩ := mz_h1_i h
      split at k1
      · next ci' fs cj k rest0 hsh heq =>
        cases heq
        obtain ⟨hci, k2⟩ := mz_bif_i k1
        obtain rfl := Nat.eq_of_beq_eq_true hci
        have hvp : LAY[pp]? = some t := mz_vs_h hvs
        split at k2
        · next hf =>
          exact mz_getW hW0 hX0 hd hP hvp hsh hf hok (k2 H locs ls (mz_has_kp kn hl) (mz_vl_kp kn hvl) (mz_vs_c trivial (mz_vs_t hvs)) hP hS)
        · next b off t' hf =>
          exact mz_getW hW0 hX0 hd hP hvp hsh hf hok (k2 H locs ls (mz_has_kp kn hl) (mz_vl_kp kn hvl) (mz_vs_c (hL1 _ _ _ _ _ _ _ _ hvp hsh hf) (mz_vs_t hvs)) hP hS)
        · first | exact k1.elim | exact k2.elim | exact k3.elim | exact h.elim
      · first | exact k1.elim | exact k2.elim | exact k3.elim | exact h.elim
    · cases hok
  case putfield idx =>
    rw [Bool.and_eq_true] at hok
    obtain ⟨h3, hok⟩ := hok
    obtain rfl := of_decide_eq_true h3
    split at hok
    · next ci f b nest pl =>
      rw [Bool.and_eq_true] at hok
      obtain ⟨hok, hok2⟩ := hok
      obtain ⟨x, r1, rfl, k1⟩ := mz_p1_i h
      obtain ⟨t, pp, r, rfl, k2⟩ := mz_h1_i k1
      split at k2
      · next ci' fs cj k bb rest0 hsh heq =>
        cases heq
        obtain ⟨hci, k3⟩ := mz_bif_i k2
        obtain rfl := Nat.eq_of_beq_eq_true hci
        have hvp : LAY[pp]? = some t := mz_vs_h (mz_vs_t hvs)
        split at k3
        · next hf =>
          have hb2 : (b ≠ 0 → x = 0 ∨ x = 1) ∧ mz_PW p l e (mz_room (d + 1)) s m args below meth c SH LAY cA ad D cls me.2.2.1 (MQ below (mz_QC SH LAY cA ad D cls r0 μ0) args s 0 0 (mz_A LAY ad)) (pc + 3, mz_kp kn L, r, mz_wI μ pp f x) := by
            cases b with
            | zero => exact ⟨fun q => absurd rfl q, k3⟩
            | succ b => exact ⟨fun _ => k3.1, k3.2⟩
          refine mz_putW (b := b) hW0 hX0 hd hP hS hvp hsh hf hok (fun q hq => ?_) hb2.1 (fun H1 locs1 a1 a2 => hb2.2 H1 locs1 ls (mz_has_kp kn hl) (mz_vl_kp kn hvl) (mz_vs_t (mz_vs_t hvs)) a1 a2)
          rw [hq] at hok2
          simp only [Bool.and_eq_true, decide_eq_true_eq] at hok2
          exact hok2
        · first | exact k1.elim | exact k2.elim | exact k3.elim | exact h.elim
      · first | exact k1.elim | exact k2.elim | exact k3.elim | exact h.elim
    · cases hok
  case iaload =>
    obtain rfl := of_decide_eq_true hok
    obtain ⟨x, r1, rfl, k1⟩ := mz_p1_i h
    obtain ⟨t, pp, r, rfl, k2⟩ := mz_h1_i k1
    have hvp : LAY[pp]? = some t := mz_vs_h (mz_vs_t hvs)
    split at k2
    · next ti n q hsh =>
      exact va_iald hx hb hK hP pp ti (mz_w_get (cA := cA) (ad := ad) (μ := μ) hvp hsh) (mz_ty_at (hS0 _ _ _ _ hsh)) k2.1 hd (k2.2 H locs ls (mz_has_kp kn hl) (mz_vl_kp kn hvl) (mz_vs_c trivial (mz_vs_t (mz_vs_t hvs))) hP hS)
    · first | exact k1.elim | exact k2.elim | exact k3.elim | exact h.elim
  case laload =>
    obtain rfl := of_decide_eq_true hok
    obtain ⟨x, r1, rfl, k1⟩ := mz_p1_i h
    obtain ⟨t, pp, r, rfl, k2⟩ := mz_h1_i k1
    have hvp : LAY[pp]? = some t := mz_vs_h (mz_vs_t hvs)
    split at k2
    · next ti n q hsh =>
      exact va_lald hx hb hK hP pp ti (mz_w_get (cA := cA) (ad := ad) (μ := μ) hvp hsh) (mz_ty_at (hS1 _ _ _ _ hsh)) k2.1 hd (k2.2 H locs ls (mz_has_kp kn hl) (mz_vl_kp kn hvl) (mz_vs_c trivial (mz_vs_t (mz_vs_t hvs))) hP hS)
    · first | exact k1.elim | exact k2.elim | exact k3.elim | exact h.elim
  case aaload =>
    obtain rfl := of_decide_eq_true hok
    obtain ⟨x, r1, rfl, k1⟩ := mz_p1_i h
    obtain ⟨t, pp, r, rfl, k2⟩ := mz_h1_i k1
    have hvp : LAY[pp]? = some t := mz_vs_h (mz_vs_t hvs)
    split at k2
    · next ti n t' b off w hsh =>
      obtain ⟨Cn, hCn⟩ := hS2 _ _ _ _ hsh
      have hlt : x.toNatClampNeg < n := Nat.not_le.mp fun q => k2.1 (Or.inr q)
      exact va_aldq hx hb hK hP pp ti (mz_w_get (cA := cA) (ad := ad) (μ := μ) hvp hsh) (mz_ty_at hCn) k2.1 hd (k2.2 H locs ls (mz_has_kp kn hl) (mz_vl_kp kn hvl) (mz_vs_c (hL2 _ _ _ _ _ _ _ _ _ hvp hsh hlt) (mz_vs_t (mz_vs_t hvs))) hP hS)
    · first | exact k1.elim | exact k2.elim | exact k3.elim | exact h.elim
  case iastore =>
    obtain rfl := of_decide_eq_true hok
    obtain ⟨v, r2, rfl, k1⟩ := mz_p1_i h
    obtain ⟨x, r1, rfl, k2⟩ := mz_p1_i k1
    obtain ⟨t, pp, r, rfl, k3⟩ := mz_h1_i k2
    have hvp : LAY[pp]? = some t := mz_vs_h (mz_vs_t (mz_vs_t hvs))
    split at k3
    · next ti n q hsh =>
      refine va_iast hx hb hK hP hD hS pp ti (mz_w_get (cA := cA) (ad := ad) (μ := μ) hvp hsh) (mz_ty_at (hS0 _ _ _ _ hsh)) k3.1 hd (fun H1 locs1 a1 a2 a3 => k3.2 H1 locs1 ls (mz_has_kp kn hl) (mz_vl_kp kn hvl) (mz_vs_t (mz_vs_t (mz_vs_t hvs))) ?_ a3)
      have e := mz_w_set (cA := cA) (ad := ad) (μ := μ) (μ' := mz_wI μ pp x.toNatClampNeg v) hvp hsh (fun q hq => ⟨by simp [mz_wI, mz_wr, hq], rfl⟩)
      rw [← e]
      have e2 : mz_cell cA ad (mz_wI μ pp x.toNatClampNeg v) pp (.inr (ti, n, 0, q)) = .inl (cA ti, n, .inl (upd (μ.1 pp) x.toNatClampNeg v)) := by
        show Sum.inl (cA ti, n, Sum.inl (mz_wr μ.1 pp (upd (μ.1 pp) x.toNatClampNeg v) pp)) = _
        simp [mz_wr]
      rw [e2]
      exact a1
    · first | exact k1.elim | exact k2.elim | exact k3.elim | exact h.elim
  case lastore =>
    obtain rfl := of_decide_eq_true hok
    obtain ⟨v, r2, rfl, k1⟩ := mz_g1_i h
    obtain ⟨x, r1, rfl, k2⟩ := mz_p1_i k1
    obtain ⟨t, pp, r, rfl, k3⟩ := mz_h1_i k2
    have hvp : LAY[pp]? = some t := mz_vs_h (mz_vs_t (mz_vs_t hvs))
    split at k3
    · next ti n q hsh =>
      refine va_last hx hb hK hP hD hS pp ti (mz_w_get (cA := cA) (ad := ad) (μ := μ) hvp hsh) (mz_ty_at (hS1 _ _ _ _ hsh)) k3.1 hd (fun H1 locs1 a1 a2 a3 => k3.2 H1 locs1 ls (mz_has_kp kn hl) (mz_vl_kp kn hvl) (mz_vs_t (mz_vs_t (mz_vs_t hvs))) ?_ a3)
      have e := mz_w_set (cA := cA) (ad := ad) (μ := μ) (μ' := mz_wL μ pp x.toNatClampNeg v) hvp hsh (fun q hq => ⟨rfl, by simp [mz_wL, mz_wr, hq]⟩)
      rw [← e]
      have e2 : mz_cell cA ad (mz_wL μ pp x.toNatClampNeg v) pp (.inr (ti, n, 1, q)) = .inl (cA ti, n, .inr (.inl (vp_updL (μ.2 pp) x.toNatClampNeg v))) := by
        show Sum.inl (cA ti, n, Sum.inr (Sum.inl (mz_wr μ.2 pp (vp_updL (μ.2 pp) x.toNatClampNeg v) pp))) = _
        simp [mz_wr]
      rw [e2]
      exact a1
    · first | exact k1.elim | exact k2.elim | exact k3.elim | exact h.elim
  case arraylength =>
    obtain rfl := of_decide_eq_true hok
    obtain ⟨t, pp, r, rfl, k1⟩ := mz_h1_i h
    have hvp : LAY[pp]? = some t := mz_vs_h hvs
    split at k1
    · next ti n q hsh =>
      obtain ⟨kk, t', b, off, w⟩ := q
      have go := k1 H locs ls (mz_has_kp kn hl) (mz_vl_kp kn hvl) (mz_vs_c trivial (mz_vs_t hvs)) hP hS
      have hk2 := hS3 _ _ _ _ _ hsh
      rcases (show kk = 0 ∨ kk = 1 ∨ kk = 2 by omega) with rfl | rfl | rfl
      · exact va_alen hx hb hK hP pp ti (mz_w_get (cA := cA) (ad := ad) (μ := μ) hvp hsh) (mz_ty_at (hS0 _ _ _ _ hsh)) rfl hd go
      · exact va_alen hx hb hK hP pp ti (mz_w_get (cA := cA) (ad := ad) (μ := μ) hvp hsh) (mz_ty_at (hS1 _ _ _ _ hsh)) rfl hd go
      · obtain ⟨Cn, hCn⟩ := hS2 _ _ _ _ hsh
        exact va_alen hx hb hK hP pp ti (mz_w_get (cA := cA) (ad := ad) (μ := μ) hvp hsh) (mz_ty_at hCn) rfl hd go
    · first | exact k1.elim | exact k2.elim | exact k3.elim | exact h.elim
  case invokevirtual idx =>
    rw [Bool.and_eq_true] at hok
    obtain ⟨h3, hok⟩ := hok
    obtain rfl := of_decide_eq_true h3
    cases a with
    | nil => cases hok
    | cons cj a' =>
      dsimp only at hok
      rw [Bool.and_eq_true] at hok
      obtain ⟨hok, hok2⟩ := hok
      obtain ⟨y, n, k, t, ml, nest, pl, me', rfl, hy, hst, hn, hml', hlk⟩ := mz_oka_i hok
      obtain ⟨as, rest, r, μ', e1, rfl, e3, e4, e5, e6, k1⟩ := mz_cl_i (C := C) (g := mz_rv SH cj) (y := y) (n := n) (k := k) (t := t) (ml := ml) (a' := [nest, pl]) (st := st) (μ := μ) (f := fun v μ' => mz_PW p l e (mz_room (d + 1)) s m args below meth c SH LAY cA ad D cls me.2.2.1 (MQ below (mz_QC SH LAY cA ad D cls r0 μ0) args s 0 0 (mz_A LAY ad)) (pc + 3, mz_kp kn L, v, μ')) h
      have hvas : ∀ v ∈ as, mz_vd LAY v := fun v hv => hvs v (List.mem_append_left _ (List.mem_reverse.mpr hv))
      refine mz_callW (me' := me') rfl hM hC hX0 hls hP hS hy hst (e1.trans hn) e3 (by rw [← hml']; exact e4) hlk hd (fun _ => ?_) hvas e6 (fun H1 locs1 a1 a2 a3 => ?_)
      · unfold mz_rv at e5
        split at e5
        · next t' pp rest' =>
          split at e5
          · next ci fs hsh =>
            obtain rfl := Nat.eq_of_beq_eq_true e5
            dsimp only [mz_a0] at hok2
            rw [hy] at hok2
            split at hok2
            · next q me2 hq he =>
              cases he
              exact ⟨t', pp, rest', ci, fs, q, rfl, hvas _ List.mem_cons_self, hsh, hq, of_decide_eq_true hok2⟩
            · cases hok2
          · cases e5
        · cases e5
      · have go := k1 H1 locs1 ls (mz_has_kp kn hl) (mz_vl_kp kn hvl) (mz_vs_app (fun v hv => a1 v (by cases r with
          | none => cases hv
          | some z => rcases List.mem_cons.mp hv with rfl | hv
                      · rfl
                      · cases hv)) (fun v hv => hvs v (List.mem_append_right _ hv))) a2 a3
        have e : (r.map (mz_cv ad)).toList ++ rest.map (mz_cv ad) = (r.toList ++ rest).map (mz_cv ad) := by
          cases r <;> rfl
        rw [e]
        exact go
  case invokestatic idx =>
    rw [Bool.and_eq_true] at hok
    obtain ⟨h3, hok⟩ := hok
    obtain rfl := of_decide_eq_true h3
    cases a with
    | nil => cases hok
    | cons z a' =>
      cases z with
      | zero =>
        have hok2 : mz_okac TBL me.1.cls idx a' = true := hok
        unfold mz_okac at hok2
        split at hok2
        · next p0' p1' p2' p3' =>
          simp only [Bool.and_eq_true] at hok2
          obtain ⟨⟨⟨w0, w1⟩, w2⟩, w3⟩ := hok2
          obtain ⟨n, dd, t1, p1, ss, t0, p0, r, rfl, hcs, k1⟩ := mz_ac_i h
          · 
            have hv1 : LAY[p1]? = some t1 := hvs (mz_R t1 p1) (by simp)
            have hv0 : LAY[p0]? = some t0 := hvs (mz_R t0 p0) (by simp)
            have hwd : nativeFrameWords "java/lang/System" "arraycopy" 5 ≤ 40 := by decide +kernel
            have hvr : mz_vs LAY r := mz_vs_t (mz_vs_t (mz_vs_t (mz_vs_t (mz_vs_t hvs))))
            rcases k1 with ⟨i0, n0, q0, i1, n1, q1, hsh0, hsh1, ⟨g1, g2, g3, g4, g5⟩, k2⟩ | ⟨i0, n0, q0, i1, n1, q1, hsh0, hsh1, ⟨g1, g2, g3, g4, g5⟩, k2⟩
            ·
              refine va_copyi (rest := r.map (mz_cv ad)) hx hb (hml.trans hls.symm) hown (gw _ (mz_lw_m w0) rfl) (gw _ (mz_lw_m w1) rfl) (gw _ (mz_lw_m w2) rfl) (gw _ (mz_lw_m w3) rfl) hK hP hD hS p0 p1 i0 i1 (mz_w_get (cA := cA) (ad := ad) (μ := μ) hv0 hsh0) (mz_w_get (cA := cA) (ad := ad) (μ := μ) hv1 hsh1) (mz_ty_at (hS0 _ _ _ _ hsh0)) (mz_ty_at (hS0 _ _ _ _ hsh1)) rfl g1 g2 g3 g4 g5 (fun _ _ => rfl) (show 1 ≤ d + 1 by omega) (by rw [mz_cs_sum]; show mz_cs r + (nativeFrameWords "java/lang/System" "arraycopy" 5 + 11) ≤ 60 * (d + 1) + 100; omega) hd (fun H1 locs1 a1 a2 a3 => k2 H1 locs1 ls (mz_has_kp kn hl) (mz_vl_kp kn hvl) hvr ?_ a3)
              have e := mz_w_set (cA := cA) (ad := ad) (μ := μ) (μ' := mz_cI μ p0 p1 ss.toNatClampNeg dd.toNatClampNeg n.toNatClampNeg) hv1 hsh1 (fun q hq => ⟨by simp [mz_cI, mz_wr, hq], rfl⟩)
              rw [← e]
              have e2 : mz_cell cA ad (mz_cI μ p0 p1 ss.toNatClampNeg dd.toNatClampNeg n.toNatClampNeg) p1 (.inr (i1, n1, 0, q1)) = .inl (cA i1, n1, .inl (va_cpy (μ.1 p0) (μ.1 p1) ss.toNatClampNeg dd.toNatClampNeg n.toNatClampNeg)) := by
                show Sum.inl (cA i1, n1, Sum.inl (mz_wr μ.1 p1 _ p1)) = _
                simp [mz_wr]
              rw [e2]
              exact a1
            ·
              refine va_copyl (rest := r.map (mz_cv ad)) hx hb (hml.trans hls.symm) hown (gw _ (mz_lw_m w0) rfl) (gw _ (mz_lw_m w1) rfl) (gw _ (mz_lw_m w2) rfl) (gw _ (mz_lw_m w3) rfl) hK hP hD hS p0 p1 i0 i1 (mz_w_get (cA := cA) (ad := ad) (μ := μ) hv0 hsh0) (mz_w_get (cA := cA) (ad := ad) (μ := μ) hv1 hsh1) (mz_ty_at (hS1 _ _ _ _ hsh0)) (mz_ty_at (hS1 _ _ _ _ hsh1)) rfl g1 g2 g3 g4 g5 (fun _ _ => rfl) (show 1 ≤ d + 1 by omega) (by rw [mz_cs_sum]; show mz_cs r + (nativeFrameWords "java/lang/System" "arraycopy" 5 + 11) ≤ 60 * (d + 1) + 100; omega) hd (fun H1 locs1 a1 a2 a3 => k2 H1 locs1 ls (mz_has_kp kn hl) (mz_vl_kp kn hvl) hvr ?_ a3)
              have e := mz_w_set (cA := cA) (ad := ad) (μ := μ) (μ' := mz_cL μ p0 p1 ss.toNatClampNeg dd.toNatClampNeg n.toNatClampNeg) hv1 hsh1 (fun q hq => ⟨rfl, by simp [mz_cL, mz_wr, hq]⟩)
              rw [← e]
              have e2 : mz_cell cA ad (mz_cL μ p0 p1 ss.toNatClampNeg dd.toNatClampNeg n.toNatClampNeg) p1 (.inr (i1, n1, 1, q1)) = .inl (cA i1, n1, .inr (.inl (va_cpy (μ.2 p0) (μ.2 p1) ss.toNatClampNeg dd.toNatClampNeg n.toNatClampNeg))) := by
                show Sum.inl (cA i1, n1, Sum.inr (Sum.inl (mz_wr μ.2 p1 _ p1))) = _
                simp [mz_wr]
              rw [e2]
              exact a1
        · cases hok2
      | succ z =>
        obtain ⟨y, n, k, t, ml, nest, pl, me', rfl, hy, hst, hn, hml', hlk⟩ := mz_oka_i hok
        obtain ⟨as, rest, r, μ', e1, rfl, e3, e4, e5, e6, k1⟩ := mz_cl_i (C := C) (g := fun _ => true) (y := y) (n := n) (k := k) (t := t) (ml := ml) (a' := [nest, pl]) (st := st) (μ := μ) (f := fun v μ' => mz_PW p l e (mz_room (d + 1)) s m args below meth c SH LAY cA ad D cls me.2.2.1 (MQ below (mz_QC SH LAY cA ad D cls r0 μ0) args s 0 0 (mz_A LAY ad)) (pc + 3, mz_kp kn L, v, μ')) h
        have hvas : ∀ v ∈ as, mz_vd LAY v := fun v hv => hvs v (List.mem_append_left _ (List.mem_reverse.mpr hv))
        refine mz_callW (me' := me') rfl hM hC hX0 hls hP hS hy hst (e1.trans hn) e3 (by rw [← hml']; exact e4) hlk hd (fun q => by cases q) hvas e6 (fun H1 locs1 a1 a2 a3 => ?_)
        have go := k1 H1 locs1 ls (mz_has_kp kn hl) (mz_vl_kp kn hvl) (mz_vs_app (fun v hv => a1 v (by cases r with
          | none => cases hv
          | some z => rcases List.mem_cons.mp hv with rfl | hv
                      · rfl
                      · cases hv)) (fun v hv => hvs v (List.mem_append_right _ hv))) a2 a3
        have e : (r.map (mz_cv ad)).toList ++ rest.map (mz_cv ad) = (r.toList ++ rest).map (mz_cv ad) := by
          cases r <;> rfl
        rw [e]
        exact go
  case iadd =>
    obtain rfl := of_decide_eq_true hok
    obtain ⟨x, y, r, rfl, h⟩ := mz_p2_i h
    exact lv_iadd hx hb hd (h H locs ls (mz_has_kp kn hl) (mz_vl_kp kn hvl) (mz_vs_c trivial (mz_vs_t (mz_vs_t hvs))) hP hS)
  case isub =>
    obtain rfl := of_decide_eq_true hok
    obtain ⟨x, y, r, rfl, h⟩ := mz_p2_i h
    exact lv_isub hx hb hd (h H locs ls (mz_has_kp kn hl) (mz_vl_kp kn hvl) (mz_vs_c trivial (mz_vs_t (mz_vs_t hvs))) hP hS)
  case imul =>
    obtain rfl := of_decide_eq_true hok
    obtain ⟨x, y, r, rfl, h⟩ := mz_p2_i h
    exact lv_imul hx hb hd (h H locs ls (mz_has_kp kn hl) (mz_vl_kp kn hvl) (mz_vs_c trivial (mz_vs_t (mz_vs_t hvs))) hP hS)
  case iand =>
    obtain rfl := of_decide_eq_true hok
    obtain ⟨x, y, r, rfl, h⟩ := mz_p2_i h
    exact lv_iand hx hb hd (h H locs ls (mz_has_kp kn hl) (mz_vl_kp kn hvl) (mz_vs_c trivial (mz_vs_t (mz_vs_t hvs))) hP hS)
  case ior =>
    obtain rfl := of_decide_eq_true hok
    obtain ⟨x, y, r, rfl, h⟩ := mz_p2_i h
    exact lv_ior hx hb hd (h H locs ls (mz_has_kp kn hl) (mz_vl_kp kn hvl) (mz_vs_c trivial (mz_vs_t (mz_vs_t hvs))) hP hS)
  case ixor =>
    obtain rfl := of_decide_eq_true hok
    obtain ⟨x, y, r, rfl, h⟩ := mz_p2_i h
    exact lv_ixor hx hb hd (h H locs ls (mz_has_kp kn hl) (mz_vl_kp kn hvl) (mz_vs_c trivial (mz_vs_t (mz_vs_t hvs))) hP hS)
  case ishl =>
    obtain rfl := of_decide_eq_true hok
    obtain ⟨x, y, r, rfl, h⟩ := mz_p2_i h
    exact lv_ishl hx hb hd (h H locs ls (mz_has_kp kn hl) (mz_vl_kp kn hvl) (mz_vs_c trivial (mz_vs_t (mz_vs_t hvs))) hP hS)
  case idiv =>
    obtain rfl := of_decide_eq_true hok
    obtain ⟨x, y, r, rfl, k1⟩ := mz_p2_i h
    exact lv_idiv hx hb hd k1.1 (k1.2 H locs ls (mz_has_kp kn hl) (mz_vl_kp kn hvl) (mz_vs_c trivial (mz_vs_t (mz_vs_t hvs))) hP hS)
  case irem =>
    obtain rfl := of_decide_eq_true hok
    obtain ⟨x, y, r, rfl, k1⟩ := mz_p2_i h
    exact lv_irem hx hb hd k1.1 (k1.2 H locs ls (mz_has_kp kn hl) (mz_vl_kp kn hvl) (mz_vs_c trivial (mz_vs_t (mz_vs_t hvs))) hP hS)
  case ladd =>
    obtain rfl := of_decide_eq_true hok
    obtain ⟨x, y, r, rfl, h⟩ := mz_g2_i h
    exact lv_ladd hx hb hd (h H locs ls (mz_has_kp kn hl) (mz_vl_kp kn hvl) (mz_vs_c trivial (mz_vs_t (mz_vs_t hvs))) hP hS)
  case lsub =>
    obtain rfl := of_decide_eq_true hok
    obtain ⟨x, y, r, rfl, h⟩ := mz_g2_i h
    exact lv_lsub hx hb hd (h H locs ls (mz_has_kp kn hl) (mz_vl_kp kn hvl) (mz_vs_c trivial (mz_vs_t (mz_vs_t hvs))) hP hS)
  case lmul =>
    obtain rfl := of_decide_eq_true hok
    obtain ⟨x, y, r, rfl, h⟩ := mz_g2_i h
    exact lv_lmul hx hb hd (h H locs ls (mz_has_kp kn hl) (mz_vl_kp kn hvl) (mz_vs_c trivial (mz_vs_t (mz_vs_t hvs))) hP hS)
  case land =>
    obtain rfl := of_decide_eq_true hok
    obtain ⟨x, y, r, rfl, h⟩ := mz_g2_i h
    exact lv_land hx hb hd (h H locs ls (mz_has_kp kn hl) (mz_vl_kp kn hvl) (mz_vs_c trivial (mz_vs_t (mz_vs_t hvs))) hP hS)
  case ldiv =>
    obtain rfl := of_decide_eq_true hok
    obtain ⟨x, y, r, rfl, k1⟩ := mz_g2_i h
    exact lv_ldiv hx hb hd k1.1 (k1.2 H locs ls (mz_has_kp kn hl) (mz_vl_kp kn hvl) (mz_vs_c trivial (mz_vs_t (mz_vs_t hvs))) hP hS)
  case lrem =>
    obtain rfl := of_decide_eq_true hok
    obtain ⟨x, y, r, rfl, k1⟩ := mz_g2_i h
    exact lv_lrem hx hb hd k1.1 (k1.2 H locs ls (mz_has_kp kn hl) (mz_vl_kp kn hvl) (mz_vs_c trivial (mz_vs_t (mz_vs_t hvs))) hP hS)
  case lcmp =>
    obtain rfl := of_decide_eq_true hok
    obtain ⟨x, y, r, rfl, h⟩ := mz_g2_i h
    exact W.lcmp hx hb hd (h H locs ls (mz_has_kp kn hl) (mz_vl_kp kn hvl) (mz_vs_c trivial (mz_vs_t (mz_vs_t hvs))) hP hS)
  case ineg =>
    obtain rfl := of_decide_eq_true hok
    obtain ⟨x, r, rfl, h⟩ := mz_p1_i h
    exact lv_ineg hx hb hd (h H locs ls (mz_has_kp kn hl) (mz_vl_kp kn hvl) (mz_vs_c trivial (mz_vs_t hvs)) hP hS)
  case lneg =>
    obtain rfl := of_decide_eq_true hok
    obtain ⟨x, r, rfl, h⟩ := mz_g1_i h
    exact lv_lneg hx hb hd (h H locs ls (mz_has_kp kn hl) (mz_vl_kp kn hvl) (mz_vs_c trivial (mz_vs_t hvs)) hP hS)
  case i2l =>
    obtain rfl := of_decide_eq_true hok
    obtain ⟨x, r, rfl, h⟩ := mz_p1_i h
    exact lv_i2l hx hb hd rfl (h H locs ls (mz_has_kp kn hl) (mz_vl_kp kn hvl) (mz_vs_c trivial (mz_vs_t hvs)) hP hS)
  case l2i =>
    obtain rfl := of_decide_eq_true hok
    obtain ⟨x, r, rfl, h⟩ := mz_g1_i h
    exact lv_l2i hx hb hd rfl (h H locs ls (mz_has_kp kn hl) (mz_vl_kp kn hvl) (mz_vs_c trivial (mz_vs_t hvs)) hP hS)
  case i2b =>
    obtain rfl := of_decide_eq_true hok
    obtain ⟨x, r, rfl, h⟩ := mz_p1_i h
    exact lv_i2b hx hb hd rfl (h H locs ls (mz_has_kp kn hl) (mz_vl_kp kn hvl) (mz_vs_c trivial (mz_vs_t hvs)) hP hS)
  case i2s =>
    obtain rfl := of_decide_eq_true hok
    obtain ⟨x, r, rfl, h⟩ := mz_p1_i h
    exact lv_i2s hx hb hd rfl (h H locs ls (mz_has_kp kn hl) (mz_vl_kp kn hvl) (mz_vs_c trivial (mz_vs_t hvs)) hP hS)
  case pop =>
    obtain rfl := of_decide_eq_true hok
    match st, h, hvs with
    | .inl x :: r, h, hvs => exact lv_pop hx hb hd rfl (h H locs ls (mz_has_kp kn hl) (mz_vl_kp kn hvl) (mz_vs_t hvs) hP hS)
  case dup =>
    obtain rfl := of_decide_eq_true hok
    match st, h, hvs with
    | .inl x :: r, h, hvs => exact lv_dup hx hb hd rfl (h H locs ls (mz_has_kp kn hl) (mz_vl_kp kn hvl) (mz_vs_c trivial hvs) hP hS)
    | .inr (.inr (t, pp)) :: r, h, hvs => exact lv_dup hx hb hd rfl (h H locs ls (mz_has_kp kn hl) (mz_vl_kp kn hvl) (mz_vs_c (mz_vs_h hvs) hvs) hP hS)
  case dup2 =>
    obtain rfl := of_decide_eq_true hok
    match st, h, hvs with
    | .inl x :: .inr (.inr (t, pp)) :: r, h, hvs => exact lv_dup2_11 hx hb hd rfl rfl (h H locs ls (mz_has_kp kn hl) (mz_vl_kp kn hvl) (mz_vs_c trivial (mz_vs_c (mz_vs_h (mz_vs_t hvs)) hvs)) hP hS)
  case ireturn =>
    simp only [Bool.and_eq_true, decide_eq_true_eq] at hok
    obtain ⟨rfl, hrt⟩ := hok
    have fin : ∀ x : Int32, some (mz_I x) = r0 ∧ μ = μ0 → ∀ t : State, t.heap = H → s.WarmedH t.vm → mz_QC SH LAY cA ad D cls r0 μ0 args s (.returned (some (.int x))) t := by
      intro x hq t ht _
      obtain ⟨rfl, rfl⟩ := hq
      exact ⟨rfl, fun v hv => by cases hv; trivial, by rw [ht]; exact hP, hS.F ht⟩
    match st, h with
    | [.inl x], h =>
      match ha : mz_a0 a, h, hrt with
      | 0, h, hrt =>
        dsimp only [mz_op] at h
        rw [ha] at h
        exact W.iret hx hb (hr.trans hrt) (fin x h) hS.2.2 hd hlocks
      | n + 1, h, hrt =>
        dsimp only [mz_op] at h
        rw [ha] at h
        obtain ⟨hb01, h⟩ := h
        refine W.zret (ty := .boolean) hx hb (hr.trans hrt) ?_ (fin x h) hS.2.2 hd hlocks
        rcases hb01 with rfl | rfl
        · decide +kernel
        · decide +kernel
  case lreturn =>
    simp only [Bool.and_eq_true, decide_eq_true_eq] at hok
    obtain ⟨rfl, hrt⟩ := hok
    match st, h with
    | [.inr (.inl x)], h =>
      obtain ⟨rfl, rfl⟩ := h
      exact W.lret hx hb (hr.trans hrt) (fun t ht _ => ⟨rfl, fun v hv => by cases hv; trivial, by rw [ht]; exact hP, hS.F ht⟩) hS.2.2 hd hlocks
  case areturn =>
    rw [Bool.and_eq_true] at hok
    obtain ⟨h3, hok⟩ := hok
    obtain rfl := of_decide_eq_true h3
    match st, h, hvs with
    | [.inr (.inr (t', pp))], h, hvs =>
      obtain ⟨rfl, rfl⟩ := h
      split at hok
      · next nm hrt =>
        exact W.aret hx hb (hr.trans hrt) (Or.inl ⟨_, rfl⟩) (Or.inr ⟨_, rfl⟩) (fun t ht _ => ⟨rfl, fun v hv => by cases hv; exact mz_vs_h hvs, by rw [ht]; exact hP, hS.F ht⟩) hS.2.2 hd hlocks
      · cases hok
  case return_ =>
    simp only [Bool.and_eq_true, decide_eq_true_eq] at hok
    obtain ⟨rfl, hrt⟩ := hok
    match st, h with
    | [], h =>
      obtain ⟨rfl, rfl⟩ := h
      exact W.vret hx hb (hr.trans hrt) (fun t ht _ => ⟨rfl, fun v hv => (by cases hv), by rw [ht]; exact hP, hS.F ht⟩) hS.2.2 hd hlocks
  all_goals exact h.elim
theorem mz_sl_len : ∀ b : List mz_V, (lg_sl (b.map (mz_cv ad))).length = mz_cs b
  | [] => rfl
  | v :: r => by
    have ih := mz_sl_len r
    unfold lg_sl at ih ⊢
    rw [List.map_cons, List.flatMap_cons, List.length_append, ih, mz_cat_cv]
    match v with
    | .inl _ => rfl
    | .inr (.inl _) => rfl
    | .inr (.inr _) => rfl
theorem mz_ent_args : ∀ (i : Nat) (a : List mz_V), mz_lc ad (mz_ent i a) = lv_args i (a.map (mz_cv ad))
  | _, [] => rfl
  | i, v :: r => by
    have ih := mz_ent_args (i + mz_cat v) r
    show (i, mz_cv ad v) :: mz_lc ad (mz_ent (i + mz_cat v) r) = (i, mz_cv ad v) :: lv_args (if (mz_cv ad v).category = 2 then i + 2 else i + 1) (r.map (mz_cv ad))
    rw [ih, mz_cat_cv]
    match v with
    | .inl _ => rfl
    | .inr (.inl _) => rfl
    | .inr (.inr _) => rfl
theorem mz_ent_mem {q : Nat × mz_V} : ∀ {i : Nat} {a : List mz_V}, q ∈ mz_ent i a → q.2 ∈ a
  | _, [], h => by cases h
  | i, v :: r, h => by
    rcases List.mem_cons.mp h with rfl | h
    · exact List.mem_cons_self
    · exact List.mem_cons_of_mem _ (mz_ent_mem h)
/-- Met.ofW, also of a class of which the machine runs other methods natively -/
theorem mz_ofW {y : MethodName} {ws ws' : List Jvm.Cond} {rm : Room} {Pc : Array Value → State → Prop} {Qc : Array Value → State → Outcome → State → Prop} {mc ms : Nat} {free : Addr → Prop} {cc : ByteArray} {maxL : Nat} {ret : Option FieldType}
    (hy : plainFor y = true) (hw : ws = Jvm.Cond.code y cc maxL ret :: ws')
    (body : ∀ p e s m args below meth c s₁, BodyLoose p l y (headSpec ws rm) cc maxL ret e s m args below meth c s₁ → c.maxLocals = maxL → Pc args s →
      W p l e (headSpec ws rm).room s m args below meth c s.heap [] 0 0 (MQ below Qc args s mc ms free) (entryFrame m args maxL)) : Met l y ws rm Pc Qc mc ms free := by
  refine MetFree.of_bodySF (code := cc) (maxLocals := maxL) (ret := ret) hy ?_ ?_
  · intro args s m h hn
    obtain ⟨meth, c, h1, h2, h3, h4, h5, h6, -, -⟩ := Cond.code_spec hn (atoms_spec (ws := ws) h _ (by rw [hw]; exact List.mem_cons_self))
    exact ⟨meth, c, h1, h2, h3, h4, h5, h6⟩
  · intro p e s m args below meth c s₁ B hml hP _
    have hh0 : s₁.heap = s.heap := by rw [B.state]; rfl
    obtain ⟨t, a1, o, b1, b2, b3⟩ := body p e s m args below meth c s₁ B hml hP s₁ hh0 (Stand.of_body B)
    exact ⟨t, o, a1, b1, b2, ⟨b3.1, b3.2⟩⟩
set_option maxHeartbeats 4000000 in
/-- a run of the second machine is a contract of the first -/
theorem mz_sound (TB : Nat → mz_T) (hT : ∀ (y : Nat) (me : mz_Me), mz_nth MS y = some me → TB y = me.2.2.2.2.2.2.2) (hW : mz_Wd SH LAY ad cls TBL ats) (hM : ∀ (y : Nat) (me : mz_Me), mz_nth MS y = some me → mz_okM TBL host cls MS me = true) : ∀ d : Nat, mz_Hc l SH LAY cA ad D cls TBL MS ats d (mz_Rel SH TB d)
  | 0 => fun y a μ r μ' me h => h.elim
  | d + 1 => by
    intro y a μ r μ' me h hy hva hcs
    have hC := mz_sound TB hT hW hM d
    obtain ⟨o1, o2, o3, o4, o5, o6, o7, o8, o9⟩ := mz_okM_i (hM y me hy)
    refine mz_ofW (cc := me.2.1) (maxL := me.2.2.1) (ret := me.2.2.2.1) o5 rfl ?_
    intro p e s m args below meth c s₁ B hml hv
    obtain ⟨rfl, hP, hK, hN⟩ := hv
    have hX : mz_Cx p s m (a.map (mz_cv ad)).toArray meth c cA D cls TBL ats me := ⟨B.exec, B.bytes, hml, findClass_of_methodNamed B.named, atoms_spec (ws := mz_ws TBL me) B.pre, B.returns, B.notSynchronized, hK, hN⟩
    have hstep := h (mz_PW p l e (mz_room (d + 1)) s m (a.map (mz_cv ad)).toArray below meth c SH LAY cA ad D cls me.2.2.1 (MQ below (mz_QC SH LAY cA ad D cls r μ') (a.map (mz_cv ad)).toArray s 0 0 (mz_A LAY ad))) (by
      intro z hz
      unfold mz_step at hz
      rw [hT y me hy] at hz
      match hk : mz_nth me.2.2.2.2.2.2.2 z.1, hz with
      | some (some ee), hz =>
        have hok := mz_okR_at o9 hk
        rw [Nat.zero_add] at hok
        exact mz_opW hW hM hC hX hok hz)
    have hlen : (lg_sl (a.map (mz_cv ad))).length ≤ me.2.2.1 := by
      rw [mz_sl_len]
      exact hcs
    have hl := lv_entry (a.map (mz_cv ad)) hlen
    rw [lg_entry_eq]
    refine hstep s.heap [] _ ?_ (fun q hq => hva _ (mz_ent_mem hq)) (fun v hv => by cases hv) hP va_S.rf
    show lv_has _ _ (mz_lc ad (mz_ent 0 a))
    rw [mz_ent_args]
    exact hl
end MZU
end
section
def RX0 : String := "EtaSeries$Leaf"
def TX0 : u_T := fun k => match k with
  | 0 => ("EtaSeries$Leaf", "items", "[J", true)
  | 1 => ("EtaSeries$Leaf", "held", "Z", false)
  | 2 => ("EtaSeries$Leaf", "lane", "I", false)
  | _ => ("EtaSeries$Leaf", "size", "I", false)
def tyX0 : Nat → FieldType := fun k => match k with
  | 0 => .array .long
  | 1 => .boolean
  | 2 => .int
  | _ => .int
theorem nmX0 : ∀ a, a < 4 → ∀ b, b < 4 → a ≠ b → (TX0 a).2.1 ≠ (TX0 b).2.1 := by decide +kernel
theorem tyX0_ok : ∀ k, k < 4 → parseFieldDescriptor (TX0 k).2.2.1 = some (tyX0 k) := by decide +kernel
def RX1 : String := "EtaSeries$Mill"
def TX1 : u_T := fun k => match k with
  | 0 => ("EtaSeries$Mill", "text", "LEtaSeries$Tape;", true)
  | 1 => ("EtaSeries$Mill", "sums", "[LEtaSeries$Row;", true)
  | 2 => ("EtaSeries$Mill", "parts", "[LEtaSeries$Row;", true)
  | 3 => ("EtaSeries$Mill", "atoms", "[LEtaSeries$Row;", true)
  | 4 => ("EtaSeries$Mill", "joined", "LEtaSeries$Row;", true)
  | 5 => ("EtaSeries$Mill", "step", "LEtaSeries$Row;", true)
  | 6 => ("EtaSeries$Mill", "place", "I", false)
  | 7 => ("EtaSeries$Mill", "span", "I", false)
  | 8 => ("EtaSeries$Mill", "brackets", "I", false)
  | _ => ("EtaSeries$Mill", "letter", "I", false)
def tyX1 : Nat → FieldType := fun k => match k with
  | 0 => .object "EtaSeries$Tape"
  | 1 => .array (.object "EtaSeries$Row")
  | 2 => .array (.object "EtaSeries$Row")
  | 3 => .array (.object "EtaSeries$Row")
  | 4 => .object "EtaSeries$Row"
  | 5 => .object "EtaSeries$Row"
  | 6 => .int
  | 7 => .int
  | 8 => .int
  | _ => .int
theorem nmX1 : ∀ a, a < 10 → ∀ b, b < 10 → a ≠ b → (TX1 a).2.1 ≠ (TX1 b).2.1 := by decide +kernel
theorem tyX1_ok : ∀ k, k < 10 → parseFieldDescriptor (TX1 k).2.2.1 = some (tyX1 k) := by decide +kernel
def RX2 : String := "EtaSeries$Past"
def TX2 : u_T := fun k => match k with
  | 0 => ("EtaSeries$Past", "ring", "[LEtaSeries$Shelf;", true)
  | 1 => ("EtaSeries$Past", "held", "I", false)
  | _ => ("EtaSeries$Past", "next", "I", false)
def tyX2 : Nat → FieldType := fun k => match k with
  | 0 => .array (.object "EtaSeries$Shelf")
  | 1 => .int
  | _ => .int
theorem nmX2 : ∀ a, a < 3 → ∀ b, b < 3 → a ≠ b → (TX2 a).2.1 ≠ (TX2 b).2.1 := by decide +kernel
theorem tyX2_ok : ∀ k, k < 3 → parseFieldDescriptor (TX2 k).2.2.1 = some (tyX2 k) := by decide +kernel
def RX3 : String := "EtaSeries$Row"
def TX3 : u_T := fun k => match k with
  | 0 => ("EtaSeries$Row", "terms", "[I", true)
  | _ => ("EtaSeries$Row", "size", "I", false)
def tyX3 : Nat → FieldType := fun k => match k with
  | 0 => .array .int
  | _ => .int
theorem nmX3 : ∀ a, a < 2 → ∀ b, b < 2 → a ≠ b → (TX3 a).2.1 ≠ (TX3 b).2.1 := by decide +kernel
theorem tyX3_ok : ∀ k, k < 2 → parseFieldDescriptor (TX3 k).2.2.1 = some (tyX3 k) := by decide +kernel
def RX4 : String := "EtaSeries$Shelf"
def TX4 : u_T := fun k => match k with
  | 0 => ("EtaSeries$Shelf", "rows", "[LEtaSeries$Row;", true)
  | 1 => ("EtaSeries$Shelf", "span", "I", false)
  | _ => ("EtaSeries$Shelf", "draw", "I", false)
def tyX4 : Nat → FieldType := fun k => match k with
  | 0 => .array (.object "EtaSeries$Row")
  | 1 => .int
  | _ => .int
theorem nmX4 : ∀ a, a < 3 → ∀ b, b < 3 → a ≠ b → (TX4 a).2.1 ≠ (TX4 b).2.1 := by decide +kernel
theorem tyX4_ok : ∀ k, k < 3 → parseFieldDescriptor (TX4 k).2.2.1 = some (tyX4 k) := by decide +kernel
def RX5 : String := "EtaSeries$Tape"
def TX5 : u_T := fun k => match k with
  | 0 => ("EtaSeries$Tape", "letters", "[I", true)
  | 1 => ("EtaSeries$Tape", "size", "I", false)
  | 2 => ("EtaSeries$Tape", "place", "I", false)
  | 3 => ("EtaSeries$Tape", "open", "I", false)
  | 4 => ("EtaSeries$Tape", "signs", "[I", true)
  | 5 => ("EtaSeries$Tape", "values", "[I", true)
  | _ => ("EtaSeries$Tape", "signCount", "I", false)
def tyX5 : Nat → FieldType := fun k => match k with
  | 0 => .array .int
  | 1 => .int
  | 2 => .int
  | 3 => .int
  | 4 => .array .int
  | 5 => .array .int
  | _ => .int
theorem nmX5 : ∀ a, a < 7 → ∀ b, b < 7 → a ≠ b → (TX5 a).2.1 ≠ (TX5 b).2.1 := by decide +kernel
theorem tyX5_ok : ∀ k, k < 7 → parseFieldDescriptor (TX5 k).2.2.1 = some (tyX5 k) := by decide +kernel
def RX6 : String := "EtaSeries"
def TX6 : u_T := fun k => match k with
  | 0 => ("EtaSeries", "now", "LEtaSeries$Shelf;", true)
  | 1 => ("EtaSeries", "past", "LEtaSeries$Past;", true)
  | 2 => ("EtaSeries", "keptNow", "LEtaSeries$Shelf;", true)
  | 3 => ("EtaSeries", "keptPast", "LEtaSeries$Past;", true)
  | 4 => ("EtaSeries", "kept", "Z", false)
  | 5 => ("EtaSeries", "tape", "LEtaSeries$Tape;", true)
  | 6 => ("EtaSeries", "mill", "LEtaSeries$Mill;", true)
  | 7 => ("EtaSeries", "leaves", "[LEtaSeries$Leaf;", true)
  | 8 => ("EtaSeries", "made", "LEtaSeries$Row;", true)
  | _ => ("EtaSeries", "spare", "LEtaSeries$Row;", true)
def tyX6 : Nat → FieldType := fun k => match k with
  | 0 => .object "EtaSeries$Shelf"
  | 1 => .object "EtaSeries$Past"
  | 2 => .object "EtaSeries$Shelf"
  | 3 => .object "EtaSeries$Past"
  | 4 => .boolean
  | 5 => .object "EtaSeries$Tape"
  | 6 => .object "EtaSeries$Mill"
  | 7 => .array (.object "EtaSeries$Leaf")
  | 8 => .object "EtaSeries$Row"
  | _ => .object "EtaSeries$Row"
theorem nmX6 : ∀ a, a < 10 → ∀ b, b < 10 → a ≠ b → (TX6 a).2.1 ≠ (TX6 b).2.1 := by decide +kernel
theorem tyX6_ok : ∀ k, k < 10 → parseFieldDescriptor (TX6 k).2.2.1 = some (tyX6 k) := by decide +kernel
def RX7 : String := "EtaSeriesModel"
def TX7 : u_T := fun k => match k with
  | 0 => ("EtaSeriesModel", "now", "[I", true)
  | 1 => ("EtaSeriesModel", "one", "[J", true)
  | 2 => ("EtaSeriesModel", "oneMany", "I", false)
  | 3 => ("EtaSeriesModel", "two", "[J", true)
  | 4 => ("EtaSeriesModel", "twoMany", "I", false)
  | 5 => ("EtaSeriesModel", "made", "[J", true)
  | 6 => ("EtaSeriesModel", "madeMany", "I", false)
  | 7 => ("EtaSeriesModel", "ahead", "[I", true)
  | 8 => ("EtaSeriesModel", "undos", "I", false)
  | 9 => ("EtaSeriesModel", "tape", "[I", true)
  | 10 => ("EtaSeriesModel", "taped", "I", false)
  | 11 => ("EtaSeriesModel", "place", "I", false)
  | 12 => ("EtaSeriesModel", "whyBrackets", "I", false)
  | 13 => ("EtaSeriesModel", "whyLetter", "I", false)
  | 14 => ("EtaSeriesModel", "atomKind", "I", false)
  | 15 => ("EtaSeriesModel", "atomNumber", "I", false)
  | 16 => ("EtaSeriesModel", "sums", "[J", true)
  | 17 => ("EtaSeriesModel", "parts", "[J", true)
  | 18 => ("EtaSeriesModel", "sumBy", "[I", true)
  | 19 => ("EtaSeriesModel", "partBy", "[I", true)
  | 20 => ("EtaSeriesModel", "level", "I", false)
  | 21 => ("EtaSeriesModel", "kept", "[I", true)
  | 22 => ("EtaSeriesModel", "keptAhead", "[I", true)
  | 23 => ("EtaSeriesModel", "keptUndos", "I", false)
  | 24 => ("EtaSeriesModel", "lanes", "[I", true)
  | 25 => ("EtaSeriesModel", "sizes", "[I", true)
  | 26 => ("EtaSeriesModel", "items", "[J", true)
  | _ => ("EtaSeriesModel", "moved", "[J", true)
def tyX7 : Nat → FieldType := fun k => match k with
  | 0 => .array .int
  | 1 => .array .long
  | 2 => .int
  | 3 => .array .long
  | 4 => .int
  | 5 => .array .long
  | 6 => .int
  | 7 => .array .int
  | 8 => .int
  | 9 => .array .int
  | 10 => .int
  | 11 => .int
  | 12 => .int
  | 13 => .int
  | 14 => .int
  | 15 => .int
  | 16 => .array .long
  | 17 => .array .long
  | 18 => .array .int
  | 19 => .array .int
  | 20 => .int
  | 21 => .array .int
  | 22 => .array .int
  | 23 => .int
  | 24 => .array .int
  | 25 => .array .int
  | 26 => .array .long
  | _ => .array .long
theorem nmX7 : ∀ a, a < 28 → ∀ b, b < 28 → a ≠ b → (TX7 a).2.1 ≠ (TX7 b).2.1 := by decide +kernel
theorem tyX7_ok : ∀ k, k < 28 → parseFieldDescriptor (TX7 k).2.2.1 = some (tyX7 k) := by decide +kernel
abbrev vwCl : List vw_C := [(RX0, TX0, 4), (RX1, TX1, 10), (RX2, TX2, 3), (RX3, TX3, 2), (RX4, TX4, 3), (RX5, TX5, 7), (RX6, TX6, 10), (RX7, TX7, 28)]
end
section
/-! The methods, by program out of the printed names: kinds of cells, the two layouts, each method's rows. -/
def es_SH : List mz_Sh := [.inl (6, [some (false, 1, 1), some (false, 11, 5), some (false, 73, 1), some (false, 83, 5), none, some (false, 145, 7), some (false, 149, 9), some (false, 199, 13), some (false, 200, 3), some (false, 202, 3)]),
  .inl (4, [some (true, 1, 2), none, none]),
  .inr (2, 4, 2, 3, true, 1, 2),
  .inl (3, [some (true, 1, 4), none]),
  .inr (0, 40, 0, 0, false, 0, 0),
  .inl (2, [some (true, 1, 6), none, none]),
  .inr (3, 6, 2, 1, true, 1, 10),
  .inl (5, [some (true, 1, 8), none, none, none, some (true, 2, 8), some (true, 3, 8), none]),
  .inr (0, 60, 0, 0, false, 0, 0),
  .inl (1, [some (false, 145, 7), some (true, 1, 10), some (true, 2, 11), some (true, 3, 12), some (true, 4, 3), some (true, 6, 3), none, none, none, none]),
  .inr (2, 7, 2, 3, false, 157, 6),
  .inr (2, 7, 2, 3, false, 159, 6),
  .inr (2, 7, 2, 3, false, 161, 6),
  .inr (4, 4, 2, 14, false, 204, 2),
  .inl (0, [some (true, 1, 15), none, none, none]),
  .inr (1, 40, 1, 0, false, 0, 0),
  .inl (7, [some (false, 1, 17), some (false, 2, 15), none, some (false, 3, 15), none, some (false, 4, 15), none, some (false, 5, 18), none, some (false, 6, 8), none, none, none, none, none, none, some (false, 7, 21), some (false, 8, 21), some (false, 9, 19), some (false, 10, 19), none, some (false, 11, 17), some (false, 12, 18), none, some (false, 13, 20), some (false, 14, 20), some (false, 15, 22), some (false, 16, 15)]),
  .inr (0, 166, 0, 0, false, 0, 0),
  .inr (0, 996, 0, 0, false, 0, 0),
  .inr (0, 7, 0, 0, false, 0, 0),
  .inr (0, 4, 0, 0, false, 0, 0),
  .inr (1, 280, 1, 0, false, 0, 0),
  .inr (1, 160, 1, 0, false, 0, 0)]
def es_LC : List Nat := [0, 1, 2, 3, 4, 3, 4, 3, 4, 3, 4, 5, 6, 1, 2, 3, 4, 3, 4, 3, 4, 3, 4, 1, 2, 3, 4, 3, 4, 3, 4, 3, 4, 1, 2, 3, 4, 3, 4, 3, 4, 3, 4, 1, 2, 3, 4, 3, 4, 3, 4, 3, 4, 1, 2, 3, 4, 3, 4, 3, 4, 3, 4, 1, 2, 3, 4, 3, 4, 3, 4, 3, 4, 1, 2, 3, 4, 3, 4, 3, 4, 3, 4, 5, 6, 1, 2, 3, 4, 3, 4, 3, 4, 3, 4, 1, 2, 3, 4, 3, 4, 3, 4, 3, 4, 1, 2, 3, 4, 3, 4, 3, 4, 3, 4, 1, 2, 3, 4, 3, 4, 3, 4, 3, 4, 1, 2, 3, 4, 3, 4, 3, 4, 3, 4, 1, 2, 3, 4, 3, 4, 3, 4, 3, 4, 7, 8, 8, 8, 9, 10, 11, 12, 3, 4, 3, 4, 3, 4, 3, 4, 3, 4, 3, 4, 3, 4, 3, 4, 3, 4, 3, 4, 3, 4, 3, 4, 3, 4, 3, 4, 3, 4, 3, 4, 3, 4, 3, 4, 3, 4, 3, 4, 3, 4, 3, 4, 3, 4, 13, 3, 4, 3, 4, 14, 15, 14, 15, 14, 15, 14, 15]
def es_LM : List Nat := [16, 17, 15, 15, 15, 18, 8, 21, 21, 19, 19, 17, 18, 20, 20, 22, 15]
def es_ats : List FieldType := [.int, .long, .object "EtaSeries$Row", .object "EtaSeries$Shelf", .object "EtaSeries$Leaf"]
def tb_Math_max : mz_T := [mz_qa (.iload_n 0) 1 [0],
  mz_qa (.iload_n 1) 1 [1],
  mz_qa (.if_icmp .lt 7) 3 [9],
  none,
  none,
  mz_qa (.iload_n 0) 1 [0],
  mz_qa (.goto 4) 3 [10],
  none,
  none,
  mz_qa (.iload_n 1) 1 [1],
  mz_qa .ireturn 1 [0]]
def tb_Math_min : mz_T := [mz_qa (.iload_n 0) 1 [0],
  mz_qa (.iload_n 1) 1 [1],
  mz_qa (.if_icmp .gt 7) 3 [9],
  none,
  none,
  mz_qa (.iload_n 0) 1 [0],
  mz_qa (.goto 4) 3 [10],
  none,
  none,
  mz_qa (.iload_n 1) 1 [1],
  mz_qa .ireturn 1 [0]]
def tb_Math_abs : mz_T := [mz_qa (.iload_n 0) 1 [0],
  mz_qa (.ifCond .ge 8) 3 [9],
  none,
  none,
  mz_qa (.iload_n 0) 1 [0],
  mz_q .ineg 1,
  mz_qa (.goto 4) 3 [10],
  none,
  none,
  mz_qa (.iload_n 0) 1 [0],
  mz_qa .ireturn 1 [0]]
def tb_Math_floorMod : mz_T := [mz_qa (.iload_n 0) 1 [0],
  mz_qa (.iload_n 1) 1 [1],
  mz_q .irem 1,
  mz_qa (.istore_n 2) 1 [2],
  mz_qa (.iload_n 0) 1 [0],
  mz_qa (.iload_n 1) 1 [1],
  mz_q .ixor 1,
  mz_qa (.ifCond .ge 11) 3 [18],
  none,
  none,
  mz_qa (.iload_n 2) 1 [2],
  mz_qa (.ifCond .eq 7) 3 [18],
  none,
  none,
  mz_qa (.iload_n 2) 1 [2],
  mz_qa (.iload_n 1) 1 [1],
  mz_q .iadd 1,
  mz_qa .ireturn 1 [0],
  mz_qa (.iload_n 2) 1 [2],
  mz_qa .ireturn 1 [0]]
def tb_Leaf_hold : mz_T := [mz_qa (.aload_n 0) 1 [0],
  mz_qc (.iconst 1) 1 (1),
  mz_qa (.putfield 15) 3 [0, 1, 1, 0, 250],
  none,
  none,
  mz_qa (.aload_n 0) 1 [0],
  mz_qa (.iload_n 1) 1 [1],
  mz_qa (.putfield 19) 3 [0, 2, 0, 0, 252],
  none,
  none,
  mz_qa (.aload_n 0) 1 [0],
  mz_qc (.iconst 0) 1 (0),
  mz_qa (.iload_n 2) 1 [2],
  mz_qa (.aload_n 0) 1 [0],
  mz_qa (.getfield 9) 3 [0, 0, 0, 248],
  none,
  none,
  mz_q .arraylength 1,
  mz_qa (.invokestatic 26) 3 [1, 1, 2, 1, 0, 2, 0, 725],
  none,
  none,
  mz_qa (.invokestatic 32) 3 [1, 0, 2, 1, 0, 2, 0, 726],
  none,
  none,
  mz_qa (.putfield 23) 3 [0, 3, 0, 0, 254],
  none,
  none,
  mz_qc (.iconst 0) 1 (0),
  mz_qk (.istore_n 3) 1 (0) [3] [] (none) (some [0, 3]),
  mz_qa (.iload_n 3) 1 [3],
  mz_qa (.aload_n 0) 1 [0],
  mz_qa (.getfield 9) 3 [0, 0, 0, 248],
  none,
  none,
  mz_q .arraylength 1,
  mz_qa (.if_icmp .ge 16) 3 [51],
  none,
  none,
  mz_qa (.aload_n 0) 1 [0],
  mz_qa (.getfield 9) 3 [0, 0, 0, 248],
  none,
  none,
  mz_qa (.iload_n 3) 1 [3],
  mz_ql (.lconst 0) 1 (0) [],
  mz_q .lastore 1,
  mz_qk (.iinc 3 1) 3 (1) [3] [] (none) (none),
  none,
  none,
  mz_qk (.goto (-19)) 3 (0) [29] [] (some [0, 3]) (none),
  none,
  none,
  mz_q .return_ 1]
def tb_Leaf_hasItems : mz_T := [mz_qa (.iload_n 1) 1 [1],
  mz_qa (.ifCond .lt 25) 3 [26],
  none,
  none,
  mz_qa (.iload_n 2) 1 [2],
  mz_qa (.ifCond .lt 21) 3 [26],
  none,
  none,
  mz_qa (.iload_n 1) 1 [1],
  mz_q .i2l 1,
  mz_qa (.iload_n 2) 1 [2],
  mz_q .i2l 1,
  mz_q .ladd 1,
  mz_qa (.aload_n 0) 1 [0],
  mz_qa (.getfield 23) 3 [0, 3, 0, 254],
  none,
  none,
  mz_q .i2l 1,
  mz_q .lcmp 1,
  mz_qa (.ifCond .gt 7) 3 [26],
  none,
  none,
  mz_qc (.iconst 1) 1 (1),
  mz_qa (.goto 4) 3 [27],
  none,
  none,
  mz_qc (.iconst 0) 1 (0),
  mz_qa .ireturn 1 [1]]
def tb_Leaf_refuse : mz_T := [mz_qa (.aload_n 0) 1 [0],
  mz_qa (.getfield 15) 3 [0, 1, 0, 250],
  none,
  none,
  mz_qa (.ifCond .ne 6) 3 [10],
  none,
  none,
  mz_qk (.ldc 35) 2 (-1000011) [640] [] (none) (none),
  none,
  mz_qa .ireturn 1 [0],
  mz_qa (.aload_n 0) 1 [0],
  mz_qa (.getfield 19) 3 [0, 2, 0, 252],
  none,
  none,
  mz_qa (.iload_n 1) 1 [1],
  mz_qa (.if_icmp .eq 6) 3 [21],
  none,
  none,
  mz_qk (.ldc 36) 2 (-1000012) [641] [] (none) (none),
  none,
  mz_qa .ireturn 1 [0],
  mz_qa (.aload_n 0) 1 [0],
  mz_qa (.iload_n 2) 1 [2],
  mz_qa (.iload_n 3) 1 [3],
  mz_qa (.invokevirtual 37) 3 [0, 5, 3, 1, 0, 3, 0, 642],
  none,
  none,
  mz_qa (.ifCond .eq 7) 3 [34],
  none,
  none,
  mz_qc (.iconst 0) 1 (0),
  mz_qa (.goto 5) 3 [36],
  none,
  none,
  mz_qk (.ldc 41) 2 (-1000013) [646] [] (none) (none),
  none,
  mz_qa .ireturn 1 [0]]
def tb_Leaf_refusePairs : mz_T := [mz_qa (.aload_n 0) 1 [0],
  mz_qa (.iload_n 1) 1 [1],
  mz_qa (.iload_n 2) 1 [2],
  mz_qc (.iconst 2) 1 (2),
  mz_qa (.iload_n 3) 1 [3],
  mz_q .imul 1,
  mz_qa (.invokevirtual 42) 3 [0, 6, 4, 1, 0, 4, 0, 636],
  none,
  none,
  mz_qa (.istore 4) 2 [4],
  none,
  mz_qc (.iconst 0) 1 (0),
  mz_qk (.istore 5) 2 (0) [5] [] (none) (some [0, 2, 3, 4, 5]),
  none,
  mz_qa (.iload 5) 2 [5],
  none,
  mz_qa (.iload_n 3) 1 [3],
  mz_qa (.if_icmp .ge 78) 3 [95],
  none,
  none,
  mz_qa (.iload 4) 2 [4],
  none,
  mz_qa (.ifCond .ne 73) 3 [95],
  none,
  none,
  mz_qa (.aload_n 0) 1 [0],
  mz_qa (.iload_n 2) 1 [2],
  mz_qc (.iconst 2) 1 (2),
  mz_qa (.iload 5) 2 [5],
  none,
  mz_q .imul 1,
  mz_q .iadd 1,
  mz_qa (.invokevirtual 46) 3 [0, 8, 2, 2, 0, 2, 0, 647],
  none,
  none,
  mz_qa (.lstore 6) 2 [6],
  none,
  mz_qa (.aload_n 0) 1 [0],
  mz_qa (.iload_n 2) 1 [2],
  mz_qc (.iconst 2) 1 (2),
  mz_qa (.iload 5) 2 [5],
  none,
  mz_q .imul 1,
  mz_q .iadd 1,
  mz_qc (.iconst 1) 1 (1),
  mz_q .iadd 1,
  mz_qa (.invokevirtual 46) 3 [0, 8, 2, 2, 0, 2, 0, 647],
  none,
  none,
  mz_qa (.lstore 8) 2 [8],
  none,
  mz_qa (.lload 6) 2 [6],
  none,
  mz_ql (.lconst 1) 1 (1) [],
  mz_q .lcmp 1,
  mz_qa (.ifCond .lt 30) 3 [85],
  none,
  none,
  mz_qa (.lload 6) 2 [6],
  none,
  mz_ql (.ldc2_w 50) 3 (12) [651],
  none,
  none,
  mz_q .lcmp 1,
  mz_qa (.ifCond .gt 21) 3 [85],
  none,
  none,
  mz_qa (.lload 8) 2 [8],
  none,
  mz_ql (.ldc2_w 52) 3 (-9) [652],
  none,
  none,
  mz_q .lcmp 1,
  mz_qa (.ifCond .lt 12) 3 [85],
  none,
  none,
  mz_qa (.lload 8) 2 [8],
  none,
  mz_ql (.ldc2_w 54) 3 (9) [653],
  none,
  none,
  mz_q .lcmp 1,
  mz_qa (.ifCond .le 7) 3 [89],
  none,
  none,
  mz_qk (.ldc 56) 2 (-1000002) [654] [] (none) (none),
  none,
  mz_qa (.istore 4) 2 [4],
  none,
  mz_qk (.iinc 5 1) 3 (1) [5] [] (none) (none),
  none,
  none,
  mz_qk (.goto (-78)) 3 (0) [14] [] (some [0, 2, 3, 4, 5]) (none),
  none,
  none,
  mz_qa (.iload 4) 2 [4],
  none,
  mz_qa .ireturn 1 [0]]
def tb_Leaf_at : mz_T := [mz_qa (.iload_n 1) 1 [1],
  mz_qa (.ifCond .lt 20) 3 [21],
  none,
  none,
  mz_qa (.iload_n 1) 1 [1],
  mz_qa (.aload_n 0) 1 [0],
  mz_qa (.getfield 23) 3 [0, 3, 0, 254],
  none,
  none,
  mz_qa (.if_icmp .ge 12) 3 [21],
  none,
  none,
  mz_qa (.aload_n 0) 1 [0],
  mz_qa (.getfield 9) 3 [0, 0, 0, 248],
  none,
  none,
  mz_qa (.iload_n 1) 1 [1],
  mz_q .laload 1,
  mz_qa (.goto 4) 3 [22],
  none,
  none,
  mz_ql (.lconst 0) 1 (0) [],
  mz_q .lreturn 1]
def tb_Leaf_put : mz_T := [mz_qa (.iload_n 1) 1 [1],
  mz_qa (.ifCond .lt 11) 3 [12],
  none,
  none,
  mz_qa (.iload_n 1) 1 [1],
  mz_qa (.aload_n 0) 1 [0],
  mz_qa (.getfield 23) 3 [0, 3, 0, 254],
  none,
  none,
  mz_qa (.if_icmp .lt 4) 3 [13],
  none,
  none,
  mz_q .return_ 1,
  mz_qa (.aload_n 0) 1 [0],
  mz_qa (.getfield 19) 3 [0, 2, 0, 252],
  none,
  none,
  mz_qk (.tableswitch 65 0 2 #[27, 40, 53]) 27 (0) [82] [(0, 44), (1, 57), (2, 70)] (none) (none),
  none,
  none,
  none,
  none,
  none,
  none,
  none,
  none,
  none,
  none,
  none,
  none,
  none,
  none,
  none,
  none,
  none,
  none,
  none,
  none,
  none,
  none,
  none,
  none,
  none,
  none,
  mz_qa (.aload_n 0) 1 [0],
  mz_qa (.getfield 9) 3 [0, 0, 0, 248],
  none,
  none,
  mz_qa (.iload_n 1) 1 [1],
  mz_qa (.lload_n 2) 1 [2],
  mz_q .l2i 1,
  mz_q .i2b 1,
  mz_q .i2l 1,
  mz_q .lastore 1,
  mz_qa (.goto 35) 3 [89],
  none,
  none,
  mz_qa (.aload_n 0) 1 [0],
  mz_qa (.getfield 9) 3 [0, 0, 0, 248],
  none,
  none,
  mz_qa (.iload_n 1) 1 [1],
  mz_qa (.lload_n 2) 1 [2],
  mz_q .l2i 1,
  mz_q .i2s 1,
  mz_q .i2l 1,
  mz_q .lastore 1,
  mz_qa (.goto 22) 3 [89],
  none,
  none,
  mz_qa (.aload_n 0) 1 [0],
  mz_qa (.getfield 9) 3 [0, 0, 0, 248],
  none,
  none,
  mz_qa (.iload_n 1) 1 [1],
  mz_qa (.lload_n 2) 1 [2],
  mz_q .l2i 1,
  mz_q .i2l 1,
  mz_q .lastore 1,
  mz_qa (.goto 10) 3 [89],
  none,
  none,
  mz_qa (.aload_n 0) 1 [0],
  mz_qa (.getfield 9) 3 [0, 0, 0, 248],
  none,
  none,
  mz_qa (.iload_n 1) 1 [1],
  mz_qa (.lload_n 2) 1 [2],
  mz_q .lastore 1,
  mz_q .return_ 1]
def tb_Leaf_begins : mz_T := [mz_qc (.iconst 0) 1 (0),
  mz_qk (.istore 4) 2 (0) [4] [] (none) (some [0, 1, 2, 3, 4]),
  none,
  mz_qa (.iload 4) 2 [4],
  none,
  mz_qa (.iload_n 2) 1 [2],
  mz_qa (.if_icmp .ge 30) 3 [36],
  none,
  none,
  mz_qa (.aload_n 0) 1 [0],
  mz_qa (.iload_n 1) 1 [1],
  mz_qa (.iload 4) 2 [4],
  none,
  mz_q .iadd 1,
  mz_qa (.invokevirtual 46) 3 [0, 8, 2, 2, 0, 2, 0, 647],
  none,
  none,
  mz_qa (.aload_n 3) 1 [3],
  mz_qa (.iload 4) 2 [4],
  none,
  mz_qa (.invokevirtual 57) 3 [3, 32, 2, 1, 0, 2, 1, 707],
  none,
  none,
  mz_q .i2l 1,
  mz_q .lcmp 1,
  mz_qa (.ifCond .eq 5) 3 [30],
  none,
  none,
  mz_qc (.iconst 0) 1 (0),
  mz_qa .ireturn 1 [1],
  mz_qk (.iinc 4 1) 3 (1) [4] [] (none) (none),
  none,
  none,
  mz_qk (.goto (-30)) 3 (0) [3] [] (some [0, 1, 2, 3, 4]) (none),
  none,
  none,
  mz_qa (.iload_n 2) 1 [2],
  mz_qa (.aload_n 3) 1 [3],
  mz_qa (.getfield 62) 3 [3, 1, 1, 128],
  none,
  none,
  mz_qa (.if_icmp .gt 7) 3 [48],
  none,
  none,
  mz_qc (.iconst 1) 1 (1),
  mz_qa (.goto 4) 3 [49],
  none,
  none,
  mz_qc (.iconst 0) 1 (0),
  mz_qa .ireturn 1 [1]]
def tb_Leaf_divisor : mz_T := [mz_qa (.aload_n 0) 1 [0],
  mz_qa (.iload_n 1) 1 [1],
  mz_qc (.iconst 2) 1 (2),
  mz_qa (.iload_n 2) 1 [2],
  mz_q .imul 1,
  mz_q .iadd 1,
  mz_qa (.invokevirtual 46) 3 [0, 8, 2, 2, 0, 2, 0, 647],
  none,
  none,
  mz_q .l2i 1,
  mz_qa .ireturn 1 [0]]
def tb_Leaf_exponent : mz_T := [mz_qa (.aload_n 0) 1 [0],
  mz_qa (.iload_n 1) 1 [1],
  mz_qc (.iconst 2) 1 (2),
  mz_qa (.iload_n 2) 1 [2],
  mz_q .imul 1,
  mz_q .iadd 1,
  mz_qc (.iconst 1) 1 (1),
  mz_q .iadd 1,
  mz_qa (.invokevirtual 46) 3 [0, 8, 2, 2, 0, 2, 0, 647],
  none,
  none,
  mz_q .l2i 1,
  mz_qa .ireturn 1 [0]]
def tb_Leaf_weight : mz_T := [mz_qc (.iconst 0) 1 (0),
  mz_qa (.istore_n 3) 1 [3],
  mz_qc (.iconst 0) 1 (0),
  mz_qk (.istore 4) 2 (0) [4] [] (none) (some [0, 1, 2, 3, 4]),
  none,
  mz_qa (.iload 4) 2 [4],
  none,
  mz_qa (.iload_n 2) 1 [2],
  mz_qa (.if_icmp .ge 19) 3 [27],
  none,
  none,
  mz_qa (.iload_n 3) 1 [3],
  mz_qa (.aload_n 0) 1 [0],
  mz_qa (.iload_n 1) 1 [1],
  mz_qa (.iload 4) 2 [4],
  none,
  mz_qa (.invokevirtual 63) 3 [0, 12, 3, 1, 0, 3, 0, 659],
  none,
  none,
  mz_q .iadd 1,
  mz_qa (.istore_n 3) 1 [3],
  mz_qk (.iinc 4 1) 3 (1) [4] [] (none) (none),
  none,
  none,
  mz_qk (.goto (-19)) 3 (0) [5] [] (some [0, 1, 2, 3, 4]) (none),
  none,
  none,
  mz_qa (.iload_n 3) 1 [3],
  mz_qa .ireturn 1 [0]]
def tb_Leaf_level : mz_T := [mz_qc (.iconst 1) 1 (1),
  mz_qk (.istore_n 3) 1 (0) [3] [] (none) (some [0, 1, 2, 3]),
  mz_qa (.iload_n 3) 1 [3],
  mz_qc (.sipush 600) 3 (600),
  none,
  none,
  mz_qa (.if_icmp .gt 21) 3 [27],
  none,
  none,
  mz_qa (.aload_n 0) 1 [0],
  mz_qa (.iload_n 3) 1 [3],
  mz_qa (.iload_n 1) 1 [1],
  mz_qa (.iload_n 2) 1 [2],
  mz_qa (.invokevirtual 66) 3 [0, 15, 4, 1, 0, 9, 0, 667],
  none,
  none,
  mz_qa (.ifCond .eq 5) 3 [21],
  none,
  none,
  mz_qa (.iload_n 3) 1 [3],
  mz_qa .ireturn 1 [0],
  mz_qk (.iinc 3 1) 3 (1) [3] [] (none) (none),
  none,
  none,
  mz_qk (.goto (-22)) 3 (0) [2] [] (some [0, 1, 2, 3]) (none),
  none,
  none,
  mz_qk (.ldc 70) 2 (-1000004) [675] [] (none) (none),
  none,
  mz_qa .ireturn 1 [0]]
def tb_Leaf_isLevel : mz_T := [mz_qc (.iconst 0) 1 (0),
  mz_qa (.istore 4) 2 [4],
  none,
  mz_qc (.iconst 0) 1 (0),
  mz_qa (.istore 5) 2 [5],
  none,
  mz_qc (.iconst 0) 1 (0),
  mz_qk (.istore 6) 2 (0) [6] [] (none) (some [0, 1, 2, 3, 4, 5, 6]),
  none,
  mz_qa (.iload 6) 2 [6],
  none,
  mz_qa (.iload_n 3) 1 [3],
  mz_qa (.if_icmp .ge 72) 3 [84],
  none,
  none,
  mz_qa (.aload_n 0) 1 [0],
  mz_qa (.iload_n 2) 1 [2],
  mz_qa (.iload 6) 2 [6],
  none,
  mz_qa (.invokevirtual 71) 3 [0, 11, 3, 1, 0, 3, 0, 671],
  none,
  none,
  mz_qa (.istore 7) 2 [7],
  none,
  mz_qa (.aload_n 0) 1 [0],
  mz_qa (.iload_n 2) 1 [2],
  mz_qa (.iload 6) 2 [6],
  none,
  mz_qa (.invokevirtual 63) 3 [0, 12, 3, 1, 0, 3, 0, 659],
  none,
  none,
  mz_qa (.istore 8) 2 [8],
  none,
  mz_qa (.iload 8) 2 [8],
  none,
  mz_qa (.ifCond .ne 6) 3 [41],
  none,
  none,
  mz_qa (.goto 40) 3 [78],
  none,
  none,
  mz_qa (.iload 7) 2 [7],
  none,
  mz_qc (.iconst 1) 1 (1),
  mz_qa (.if_icmp .lt 10) 3 [54],
  none,
  none,
  mz_qa (.iload_n 1) 1 [1],
  mz_qa (.iload 7) 2 [7],
  none,
  mz_q .irem 1,
  mz_qa (.ifCond .eq 5) 3 [56],
  none,
  none,
  mz_qc (.iconst 0) 1 (0),
  mz_qa .ireturn 1 [1],
  mz_qa (.iload 4) 2 [4],
  none,
  mz_qa (.iload 7) 2 [7],
  none,
  mz_qa (.iload 8) 2 [8],
  none,
  mz_q .imul 1,
  mz_q .iadd 1,
  mz_qa (.istore 4) 2 [4],
  none,
  mz_qa (.iload 5) 2 [5],
  none,
  mz_qa (.iload_n 1) 1 [1],
  mz_qa (.iload 7) 2 [7],
  none,
  mz_q .idiv 1,
  mz_qa (.iload 8) 2 [8],
  none,
  mz_q .imul 1,
  mz_q .iadd 1,
  mz_qa (.istore 5) 2 [5],
  none,
  mz_qk (.iinc 6 1) 3 (1) [6] [] (none) (none),
  none,
  none,
  mz_qk (.goto (-72)) 3 (0) [9] [] (some [0, 1, 2, 3, 4, 5, 6]) (none),
  none,
  none,
  mz_qa (.iload 4) 2 [4],
  none,
  mz_qc (.bipush 24) 2 (24),
  none,
  mz_q .irem 1,
  mz_qa (.ifCond .ne 15) 3 [104],
  none,
  none,
  mz_qa (.iload 5) 2 [5],
  none,
  mz_qc (.bipush 24) 2 (24),
  none,
  mz_q .irem 1,
  mz_qa (.ifCond .ne 7) 3 [104],
  none,
  none,
  mz_qc (.iconst 1) 1 (1),
  mz_qa (.goto 4) 3 [105],
  none,
  none,
  mz_qc (.iconst 0) 1 (0),
  mz_qa .ireturn 1 [1]]
def tb_Leaf_bound : mz_T := [mz_qa (.aload_n 0) 1 [0],
  mz_qa (.iload_n 1) 1 [1],
  mz_qa (.iload_n 2) 1 [2],
  mz_qa (.invokevirtual 74) 3 [0, 13, 3, 1, 0, 5, 0, 680],
  none,
  none,
  mz_qa (.istore_n 3) 1 [3],
  mz_qa (.aload_n 0) 1 [0],
  mz_qa (.iload_n 1) 1 [1],
  mz_qa (.iload_n 2) 1 [2],
  mz_qa (.invokevirtual 77) 3 [0, 14, 3, 1, 0, 4, 0, 681],
  none,
  none,
  mz_qa (.istore 4) 2 [4],
  none,
  mz_qa (.iload 4) 2 [4],
  none,
  mz_qk (.ldc 70) 2 (-1000004) [675] [] (none) (none),
  none,
  mz_qa (.if_icmp .eq 7) 3 [26],
  none,
  none,
  mz_qa (.iload_n 3) 1 [3],
  mz_qa (.ifCond .ge 8) 3 [31],
  none,
  none,
  mz_qk (.ldc 70) 2 (-1000004) [675] [] (none) (none),
  none,
  mz_qa (.goto 15) 3 [43],
  none,
  none,
  mz_qa (.iload_n 3) 1 [3],
  mz_qa (.iload 4) 2 [4],
  none,
  mz_qa (.invokestatic 80) 3 [1, 17, 1, 1, 0, 5, 0, 682],
  none,
  none,
  mz_q .imul 1,
  mz_qc (.bipush 24) 2 (24),
  none,
  mz_q .idiv 1,
  mz_qc (.iconst 1) 1 (1),
  mz_q .iadd 1,
  mz_qa .ireturn 1 [0]]
def tb_Leaf_indexOf : mz_T := [mz_qa (.iload_n 0) 1 [0],
  mz_qa (.istore_n 1) 1 [1],
  mz_qa (.iload_n 0) 1 [0],
  mz_qa (.istore_n 2) 1 [2],
  mz_qc (.iconst 2) 1 (2),
  mz_qk (.istore_n 3) 1 (0) [3] [] (none) (some [1, 2, 3]),
  mz_qa (.iload_n 3) 1 [3],
  mz_qa (.iload_n 2) 1 [2],
  mz_qa (.if_icmp .gt 53) 3 [61],
  none,
  none,
  mz_qa (.iload_n 2) 1 [2],
  mz_qa (.iload_n 3) 1 [3],
  mz_q .irem 1,
  mz_qa (.ifCond .eq 6) 3 [20],
  none,
  none,
  mz_qa (.goto 38) 3 [55],
  none,
  none,
  mz_qa (.iload_n 1) 1 [1],
  mz_qa (.iload_n 3) 1 [3],
  mz_q .idiv 1,
  mz_qa (.iload_n 3) 1 [3],
  mz_qc (.iconst 1) 1 (1),
  mz_q .iadd 1,
  mz_q .imul 1,
  mz_qa (.istore_n 1) 1 [1],
  mz_qc (.iconst 0) 1 (0),
  mz_qk (.istore 4) 2 (0) [4] [] (none) (some [1, 2, 3, 4]),
  none,
  mz_qa (.iload 4) 2 [4],
  none,
  mz_qc (.sipush 600) 3 (600),
  none,
  none,
  mz_qa (.if_icmp .ge 19) 3 [55],
  none,
  none,
  mz_qa (.iload_n 2) 1 [2],
  mz_qa (.iload_n 3) 1 [3],
  mz_q .irem 1,
  mz_qa (.ifCond .ne 13) 3 [55],
  none,
  none,
  mz_qa (.iload_n 2) 1 [2],
  mz_qa (.iload_n 3) 1 [3],
  mz_q .idiv 1,
  mz_qa (.istore_n 2) 1 [2],
  mz_qk (.iinc 4 1) 3 (1) [4] [] (none) (none),
  none,
  none,
  mz_qk (.goto (-21)) 3 (0) [31] [] (some [1, 2, 3, 4]) (none),
  none,
  none,
  mz_qk (.iinc 3 1) 3 (1) [3] [] (none) (none),
  none,
  none,
  mz_qk (.goto (-52)) 3 (0) [6] [] (some [1, 2, 3]) (none),
  none,
  none,
  mz_qa (.iload_n 1) 1 [1],
  mz_qa .ireturn 1 [0]]
def tb_Mill_result : mz_T := [mz_qa (.aload_n 0) 1 [0],
  mz_qa (.getfield 11) 3 [1, 1, 0, 207],
  none,
  none,
  mz_qc (.iconst 0) 1 (0),
  mz_q .aaload 1,
  mz_q .areturn 1]
def tb_Mill_reset : mz_T := [mz_qa (.aload_n 0) 1 [0],
  mz_qc (.iconst 0) 1 (0),
  mz_qa (.putfield 31) 3 [1, 6, 0, 0, 212],
  none,
  none,
  mz_qa (.aload_n 0) 1 [0],
  mz_qa (.iload_n 1) 1 [1],
  mz_qa (.putfield 35) 3 [1, 7, 0, 0, 213],
  none,
  none,
  mz_qa (.aload_n 0) 1 [0],
  mz_qk (.ldc 38) 2 (-1000004) [205] [] (none) (none),
  none,
  mz_qa (.putfield 39) 3 [1, 8, 0, 0, 214],
  none,
  none,
  mz_qa (.aload_n 0) 1 [0],
  mz_qk (.ldc 38) 2 (-1000004) [205] [] (none) (none),
  none,
  mz_qa (.putfield 42) 3 [1, 9, 0, 0, 216],
  none,
  none,
  mz_q .return_ 1]
def tb_Mill_workSum : mz_T := [mz_qa (.iload_n 1) 1 [1],
  mz_qa (.ifCond .lt 9) 3 [10],
  none,
  none,
  mz_qa (.iload_n 1) 1 [1],
  mz_qc (.bipush 6) 2 (6),
  none,
  mz_qa (.if_icmp .le 6) 3 [13],
  none,
  none,
  mz_qk (.ldc 49) 2 (-1000001) [499] [] (none) (none),
  none,
  mz_qa .ireturn 1 [0],
  mz_qa (.aload_n 0) 1 [0],
  mz_qa (.iload_n 1) 1 [1],
  mz_qa (.invokevirtual 50) 3 [1, 21, 2, 1, 0, 5, 0, 500],
  none,
  none,
  mz_qa (.istore_n 2) 1 [2],
  mz_qa (.aload_n 0) 1 [0],
  mz_qa (.getfield 11) 3 [1, 1, 0, 207],
  none,
  none,
  mz_qa (.iload_n 1) 1 [1],
  mz_q .aaload 1,
  mz_qa (.aload_n 0) 1 [0],
  mz_qa (.getfield 17) 3 [1, 2, 0, 208],
  none,
  none,
  mz_qa (.iload_n 1) 1 [1],
  mz_q .aaload 1,
  mz_qa (.invokevirtual 54) 3 [3, 34, 2, 0, 0, 2, 1, 521],
  none,
  none,
  mz_qc (.iconst 0) 1 (0),
  mz_qk (.istore_n 3) 1 (0) [3] [] (none) (some [0, 1, 2, 3]),
  mz_qa (.iload_n 3) 1 [3],
  mz_qc (.bipush 60) 2 (60),
  none,
  mz_qa (.if_icmp .ge 83) 3 [122],
  none,
  none,
  mz_qa (.iload_n 2) 1 [2],
  mz_qa (.ifCond .ne 79) 3 [122],
  none,
  none,
  mz_qa (.aload_n 0) 1 [0],
  mz_qa (.getfield 45) 3 [1, 0, 0, 206],
  none,
  none,
  mz_qa (.aload_n 0) 1 [0],
  mz_qa (.getfield 31) 3 [1, 6, 0, 212],
  none,
  none,
  mz_qa (.invokevirtual 58) 3 [5, 60, 2, 1, 0, 2, 1, 512],
  none,
  none,
  mz_qa (.istore 4) 2 [4],
  none,
  mz_qa (.iload 4) 2 [4],
  none,
  mz_qc (.bipush 43) 2 (43),
  none,
  mz_qa (.if_icmp .eq 13) 3 [76],
  none,
  none,
  mz_qa (.iload 4) 2 [4],
  none,
  mz_qc (.bipush 45) 2 (45),
  none,
  mz_qa (.if_icmp .eq 6) 3 [76],
  none,
  none,
  mz_qa (.goto 49) 3 [122],
  none,
  none,
  mz_qa (.aload_n 0) 1 [0],
  mz_q .dup 1,
  mz_qa (.getfield 31) 3 [1, 6, 0, 212],
  none,
  none,
  mz_qc (.iconst 1) 1 (1),
  mz_q .iadd 1,
  mz_qa (.putfield 31) 3 [1, 6, 0, 0, 212],
  none,
  none,
  mz_qa (.aload_n 0) 1 [0],
  mz_qa (.iload_n 1) 1 [1],
  mz_qa (.invokevirtual 50) 3 [1, 21, 2, 1, 0, 5, 0, 500],
  none,
  none,
  mz_qa (.istore_n 2) 1 [2],
  mz_qa (.iload_n 2) 1 [2],
  mz_qa (.ifCond .ne 23) 3 [116],
  none,
  none,
  mz_qa (.aload_n 0) 1 [0],
  mz_qa (.aload_n 0) 1 [0],
  mz_qa (.getfield 11) 3 [1, 1, 0, 207],
  none,
  none,
  mz_qa (.iload_n 1) 1 [1],
  mz_q .aaload 1,
  mz_qa (.iload 4) 2 [4],
  none,
  mz_qa (.aload_n 0) 1 [0],
  mz_qa (.getfield 17) 3 [1, 2, 0, 208],
  none,
  none,
  mz_qa (.iload_n 1) 1 [1],
  mz_q .aaload 1,
  mz_qa (.iload_n 1) 1 [1],
  mz_qa (.invokevirtual 63) 3 [1, 24, 5, 1, 0, 5, 0, 531],
  none,
  none,
  mz_qa (.istore_n 2) 1 [2],
  mz_qk (.iinc 3 1) 3 (1) [3] [] (none) (none),
  none,
  none,
  mz_qk (.goto (-83)) 3 (0) [36] [] (some [0, 1, 2, 3]) (none),
  none,
  none,
  mz_qa (.iload_n 2) 1 [2],
  mz_qa .ireturn 1 [0]]
def tb_Mill_workPart : mz_T := [mz_qa (.aload_n 0) 1 [0],
  mz_qa (.iload_n 1) 1 [1],
  mz_qa (.invokevirtual 67) 3 [1, 22, 2, 1, 0, 3, 0, 504],
  none,
  none,
  mz_qa (.istore_n 2) 1 [2],
  mz_qa (.aload_n 0) 1 [0],
  mz_qa (.getfield 17) 3 [1, 2, 0, 208],
  none,
  none,
  mz_qa (.iload_n 1) 1 [1],
  mz_q .aaload 1,
  mz_qa (.aload_n 0) 1 [0],
  mz_qa (.getfield 20) 3 [1, 3, 0, 209],
  none,
  none,
  mz_qa (.iload_n 1) 1 [1],
  mz_q .aaload 1,
  mz_qa (.invokevirtual 54) 3 [3, 34, 2, 0, 0, 2, 1, 521],
  none,
  none,
  mz_qc (.iconst 0) 1 (0),
  mz_qk (.istore_n 3) 1 (0) [3] [] (none) (some [0, 1, 2, 3]),
  mz_qa (.iload_n 3) 1 [3],
  mz_qc (.bipush 60) 2 (60),
  none,
  mz_qa (.if_icmp .ge 83) 3 [109],
  none,
  none,
  mz_qa (.iload_n 2) 1 [2],
  mz_qa (.ifCond .ne 79) 3 [109],
  none,
  none,
  mz_qa (.aload_n 0) 1 [0],
  mz_qa (.getfield 45) 3 [1, 0, 0, 206],
  none,
  none,
  mz_qa (.aload_n 0) 1 [0],
  mz_qa (.getfield 31) 3 [1, 6, 0, 212],
  none,
  none,
  mz_qa (.invokevirtual 58) 3 [5, 60, 2, 1, 0, 2, 1, 512],
  none,
  none,
  mz_qa (.istore 4) 2 [4],
  none,
  mz_qa (.iload 4) 2 [4],
  none,
  mz_qc (.bipush 42) 2 (42),
  none,
  mz_qa (.if_icmp .eq 13) 3 [63],
  none,
  none,
  mz_qa (.iload 4) 2 [4],
  none,
  mz_qc (.bipush 47) 2 (47),
  none,
  mz_qa (.if_icmp .eq 6) 3 [63],
  none,
  none,
  mz_qa (.goto 49) 3 [109],
  none,
  none,
  mz_qa (.aload_n 0) 1 [0],
  mz_q .dup 1,
  mz_qa (.getfield 31) 3 [1, 6, 0, 212],
  none,
  none,
  mz_qc (.iconst 1) 1 (1),
  mz_q .iadd 1,
  mz_qa (.putfield 31) 3 [1, 6, 0, 0, 212],
  none,
  none,
  mz_qa (.aload_n 0) 1 [0],
  mz_qa (.iload_n 1) 1 [1],
  mz_qa (.invokevirtual 67) 3 [1, 22, 2, 1, 0, 3, 0, 504],
  none,
  none,
  mz_qa (.istore_n 2) 1 [2],
  mz_qa (.iload_n 2) 1 [2],
  mz_qa (.ifCond .ne 23) 3 [103],
  none,
  none,
  mz_qa (.aload_n 0) 1 [0],
  mz_qa (.aload_n 0) 1 [0],
  mz_qa (.getfield 17) 3 [1, 2, 0, 208],
  none,
  none,
  mz_qa (.iload_n 1) 1 [1],
  mz_q .aaload 1,
  mz_qa (.iload 4) 2 [4],
  none,
  mz_qa (.aload_n 0) 1 [0],
  mz_qa (.getfield 20) 3 [1, 3, 0, 209],
  none,
  none,
  mz_qa (.iload_n 1) 1 [1],
  mz_q .aaload 1,
  mz_qa (.iload_n 1) 1 [1],
  mz_qa (.invokevirtual 63) 3 [1, 24, 5, 1, 0, 5, 0, 531],
  none,
  none,
  mz_qa (.istore_n 2) 1 [2],
  mz_qk (.iinc 3 1) 3 (1) [3] [] (none) (none),
  none,
  none,
  mz_qk (.goto (-83)) 3 (0) [23] [] (some [0, 1, 2, 3]) (none),
  none,
  none,
  mz_qa (.iload_n 2) 1 [2],
  mz_qa .ireturn 1 [0]]
def tb_Mill_workPower : mz_T := [mz_qa (.aload_n 0) 1 [0],
  mz_qa (.iload_n 1) 1 [1],
  mz_qa (.invokevirtual 70) 3 [1, 23, 2, 1, 0, 5, 0, 508],
  none,
  none,
  mz_qa (.istore_n 2) 1 [2],
  mz_qa (.iload_n 2) 1 [2],
  mz_qa (.ifCond .ne 19) 3 [26],
  none,
  none,
  mz_qa (.aload_n 0) 1 [0],
  mz_qa (.getfield 45) 3 [1, 0, 0, 206],
  none,
  none,
  mz_qa (.aload_n 0) 1 [0],
  mz_qa (.getfield 31) 3 [1, 6, 0, 212],
  none,
  none,
  mz_qa (.invokevirtual 58) 3 [5, 60, 2, 1, 0, 2, 1, 512],
  none,
  none,
  mz_qc (.bipush 94) 2 (94),
  none,
  mz_qa (.if_icmp .eq 5) 3 [28],
  none,
  none,
  mz_qa (.iload_n 2) 1 [2],
  mz_qa .ireturn 1 [0],
  mz_qa (.aload_n 0) 1 [0],
  mz_qa (.getfield 24) 3 [1, 4, 0, 210],
  none,
  none,
  mz_qa (.aload_n 0) 1 [0],
  mz_qa (.getfield 20) 3 [1, 3, 0, 209],
  none,
  none,
  mz_qa (.iload_n 1) 1 [1],
  mz_q .aaload 1,
  mz_qa (.aload_n 0) 1 [0],
  mz_qa (.getfield 45) 3 [1, 0, 0, 206],
  none,
  none,
  mz_qa (.aload_n 0) 1 [0],
  mz_qa (.getfield 31) 3 [1, 6, 0, 212],
  none,
  none,
  mz_qa (.invokevirtual 73) 3 [5, 61, 2, 1, 0, 2, 1, 516],
  none,
  none,
  mz_qa (.aload_n 0) 1 [0],
  mz_qa (.getfield 28) 3 [1, 5, 0, 211],
  none,
  none,
  mz_qa (.invokevirtual 76) 3 [3, 40, 4, 1, 0, 6, 1, 526],
  none,
  none,
  mz_qa (.istore_n 2) 1 [2],
  mz_qa (.aload_n 0) 1 [0],
  mz_q .dup 1,
  mz_qa (.getfield 31) 3 [1, 6, 0, 212],
  none,
  none,
  mz_qc (.iconst 1) 1 (1),
  mz_q .iadd 1,
  mz_qa (.putfield 31) 3 [1, 6, 0, 0, 212],
  none,
  none,
  mz_qa (.aload_n 0) 1 [0],
  mz_qa (.iload_n 2) 1 [2],
  mz_qa (.aload_n 0) 1 [0],
  mz_qa (.getfield 20) 3 [1, 3, 0, 209],
  none,
  none,
  mz_qa (.iload_n 1) 1 [1],
  mz_q .aaload 1,
  mz_qc (.bipush 94) 2 (94),
  none,
  mz_qa (.iload_n 1) 1 [1],
  mz_qa (.invokevirtual 80) 3 [1, 25, 5, 1, 0, 5, 0, 527],
  none,
  none,
  mz_qa .ireturn 1 [0]]
def tb_Mill_workAtom : mz_T := [mz_qa (.aload_n 0) 1 [0],
  mz_qa (.getfield 45) 3 [1, 0, 0, 206],
  none,
  none,
  mz_qa (.aload_n 0) 1 [0],
  mz_qa (.getfield 31) 3 [1, 6, 0, 212],
  none,
  none,
  mz_qa (.invokevirtual 58) 3 [5, 60, 2, 1, 0, 2, 1, 512],
  none,
  none,
  mz_qa (.istore_n 2) 1 [2],
  mz_qa (.aload_n 0) 1 [0],
  mz_qa (.getfield 45) 3 [1, 0, 0, 206],
  none,
  none,
  mz_qa (.aload_n 0) 1 [0],
  mz_qa (.getfield 31) 3 [1, 6, 0, 212],
  none,
  none,
  mz_qa (.invokevirtual 73) 3 [5, 61, 2, 1, 0, 2, 1, 516],
  none,
  none,
  mz_qa (.istore_n 3) 1 [3],
  mz_qa (.aload_n 0) 1 [0],
  mz_q .dup 1,
  mz_qa (.getfield 31) 3 [1, 6, 0, 212],
  none,
  none,
  mz_qc (.iconst 1) 1 (1),
  mz_q .iadd 1,
  mz_qa (.putfield 31) 3 [1, 6, 0, 0, 212],
  none,
  none,
  mz_qa (.iload_n 2) 1 [2],
  mz_qc (.bipush 40) 2 (40),
  none,
  mz_qa (.if_icmp .ne 47) 3 [84],
  none,
  none,
  mz_qa (.aload_n 0) 1 [0],
  mz_qa (.iload_n 1) 1 [1],
  mz_qc (.iconst 1) 1 (1),
  mz_q .iadd 1,
  mz_qa (.invokevirtual 84) 3 [1, 20, 2, 1, 0, 5, 0, 520],
  none,
  none,
  mz_qa (.istore 4) 2 [4],
  none,
  mz_qa (.iload 4) 2 [4],
  none,
  mz_qa (.ifCond .ne 30) 3 [81],
  none,
  none,
  mz_qa (.aload_n 0) 1 [0],
  mz_qa (.getfield 20) 3 [1, 3, 0, 209],
  none,
  none,
  mz_qa (.iload_n 1) 1 [1],
  mz_q .aaload 1,
  mz_qa (.aload_n 0) 1 [0],
  mz_qa (.getfield 11) 3 [1, 1, 0, 207],
  none,
  none,
  mz_qa (.iload_n 1) 1 [1],
  mz_qc (.iconst 1) 1 (1),
  mz_q .iadd 1,
  mz_q .aaload 1,
  mz_qa (.invokevirtual 54) 3 [3, 34, 2, 0, 0, 2, 1, 521],
  none,
  none,
  mz_qa (.aload_n 0) 1 [0],
  mz_q .dup 1,
  mz_qa (.getfield 31) 3 [1, 6, 0, 212],
  none,
  none,
  mz_qc (.iconst 1) 1 (1),
  mz_q .iadd 1,
  mz_qa (.putfield 31) 3 [1, 6, 0, 0, 212],
  none,
  none,
  mz_qa (.iload 4) 2 [4],
  none,
  mz_qa .ireturn 1 [0],
  mz_qa (.iload_n 2) 1 [2],
  mz_qc (.bipush 48) 2 (48),
  none,
  mz_qa (.if_icmp .ne 31) 3 [118],
  none,
  none,
  mz_qa (.aload_n 0) 1 [0],
  mz_qa (.getfield 20) 3 [1, 3, 0, 209],
  none,
  none,
  mz_qa (.iload_n 1) 1 [1],
  mz_q .aaload 1,
  mz_qa (.aload_n 0) 1 [0],
  mz_qa (.getfield 35) 3 [1, 7, 0, 213],
  none,
  none,
  mz_qa (.invokevirtual 87) 3 [3, 31, 2, 0, 0, 3, 1, 522],
  none,
  none,
  mz_qa (.aload_n 0) 1 [0],
  mz_qa (.getfield 20) 3 [1, 3, 0, 209],
  none,
  none,
  mz_qa (.iload_n 1) 1 [1],
  mz_q .aaload 1,
  mz_qc (.iconst 0) 1 (0),
  mz_qa (.iload_n 3) 1 [3],
  mz_q .i2l 1,
  mz_qa (.invokevirtual 91) 3 [3, 33, 3, 0, 0, 4, 1, 523],
  none,
  none,
  mz_qa (.goto 21) 3 [136],
  none,
  none,
  mz_qa (.aload_n 0) 1 [0],
  mz_qa (.getfield 20) 3 [1, 3, 0, 209],
  none,
  none,
  mz_qa (.iload_n 1) 1 [1],
  mz_q .aaload 1,
  mz_qa (.iload_n 2) 1 [2],
  mz_qa (.invokestatic 95) 3 [1, 62, 1, 1, 0, 1, 1, 524],
  none,
  none,
  mz_qa (.iload_n 3) 1 [3],
  mz_qa (.aload_n 0) 1 [0],
  mz_qa (.getfield 35) 3 [1, 7, 0, 213],
  none,
  none,
  mz_qa (.invokevirtual 98) 3 [3, 35, 4, 0, 0, 6, 1, 525],
  none,
  none,
  mz_qc (.iconst 0) 1 (0),
  mz_qa .ireturn 1 [0]]
def tb_Mill_combine : mz_T := [mz_qa (.aload_n 0) 1 [0],
  mz_qa (.aload_n 0) 1 [0],
  mz_qa (.getfield 24) 3 [1, 4, 0, 210],
  none,
  none,
  mz_qa (.iload_n 2) 1 [2],
  mz_qa (.invokestatic 102) 3 [1, 26, 1, 1, 0, 1, 0, 535],
  none,
  none,
  mz_qa (.aload_n 1) 1 [1],
  mz_qa (.aload_n 3) 1 [3],
  mz_qa (.invokevirtual 105) 3 [3, 36, 4, 1, 0, 4, 1, 538],
  none,
  none,
  mz_qa (.aload_n 1) 1 [1],
  mz_qa (.iload_n 2) 1 [2],
  mz_qa (.iload 4) 2 [4],
  none,
  mz_qa (.invokevirtual 80) 3 [1, 25, 5, 1, 0, 5, 0, 527],
  none,
  none,
  mz_qa .ireturn 1 [0]]
def tb_Mill_finish : mz_T := [mz_qa (.iload_n 1) 1 [1],
  mz_qa (.ifCond .ne 14) 3 [15],
  none,
  none,
  mz_qa (.aload_n 2) 1 [2],
  mz_qa (.aload_n 0) 1 [0],
  mz_qa (.getfield 24) 3 [1, 4, 0, 210],
  none,
  none,
  mz_qa (.invokevirtual 54) 3 [3, 34, 2, 0, 0, 2, 1, 521],
  none,
  none,
  mz_qa (.goto 14) 3 [26],
  none,
  none,
  mz_qa (.aload_n 0) 1 [0],
  mz_qa (.iload 4) 2 [4],
  none,
  mz_qa (.putfield 39) 3 [1, 8, 0, 0, 214],
  none,
  none,
  mz_qa (.aload_n 0) 1 [0],
  mz_qa (.iload_n 3) 1 [3],
  mz_qa (.putfield 42) 3 [1, 9, 0, 0, 216],
  none,
  none,
  mz_qa (.iload_n 1) 1 [1],
  mz_qa .ireturn 1 [0]]
def tb_Mill_actOf : mz_T := [mz_qa (.iload_n 0) 1 [0],
  mz_qk (.tableswitch 37 42 45 #[35, 31, 37, 33]) 31 (0) [38] [(42, 36), (43, 32), (44, 38), (45, 34)] (none) (none),
  none,
  none,
  none,
  none,
  none,
  none,
  none,
  none,
  none,
  none,
  none,
  none,
  none,
  none,
  none,
  none,
  none,
  none,
  none,
  none,
  none,
  none,
  none,
  none,
  none,
  none,
  none,
  none,
  none,
  none,
  mz_qc (.iconst 0) 1 (0),
  mz_qa .ireturn 1 [0],
  mz_qc (.iconst 1) 1 (1),
  mz_qa .ireturn 1 [0],
  mz_qc (.iconst 2) 1 (2),
  mz_qa .ireturn 1 [0],
  mz_qc (.iconst 3) 1 (3),
  mz_qa .ireturn 1 [0]]
def tb_Mill_workQuotient : mz_T := [mz_qa (.aload_n 0) 1 [0],
  mz_qa (.getfield 11) 3 [1, 1, 0, 207],
  none,
  none,
  mz_qc (.iconst 0) 1 (0),
  mz_q .aaload 1,
  mz_qa (.astore 5) 2 [5],
  none,
  mz_qa (.aload_n 0) 1 [0],
  mz_qa (.getfield 20) 3 [1, 3, 0, 209],
  none,
  none,
  mz_qc (.iconst 0) 1 (0),
  mz_q .aaload 1,
  mz_qa (.astore 6) 2 [6],
  none,
  mz_qa (.aload 5) 2 [5],
  none,
  mz_qc (.iconst 0) 1 (0),
  mz_qc (.iconst 0) 1 (0),
  mz_qa (.iload 4) 2 [4],
  none,
  mz_qa (.invokevirtual 98) 3 [3, 35, 4, 0, 0, 6, 1, 525],
  none,
  none,
  mz_qc (.iconst 0) 1 (0),
  mz_qk (.istore 7) 2 (0) [7] [] (none) (some [0, 1, 2, 3, 4, 5, 6, 7]),
  none,
  mz_qa (.iload 7) 2 [7],
  none,
  mz_qa (.iload_n 3) 1 [3],
  mz_qa (.if_icmp .ge 92) 3 [123],
  none,
  none,
  mz_qa (.aload_n 1) 1 [1],
  mz_qa (.iload_n 2) 1 [2],
  mz_qa (.iload 7) 2 [7],
  none,
  mz_qa (.invokevirtual 109) 3 [0, 12, 3, 1, 0, 3, 1, 693],
  none,
  none,
  mz_qa (.istore 8) 2 [8],
  none,
  mz_qa (.aload 6) 2 [6],
  none,
  mz_qc (.iconst 3) 1 (3),
  mz_qa (.aload_n 1) 1 [1],
  mz_qa (.iload_n 2) 1 [2],
  mz_qa (.iload 7) 2 [7],
  none,
  mz_qa (.invokevirtual 115) 3 [0, 11, 3, 1, 0, 3, 1, 694],
  none,
  none,
  mz_qa (.iload 4) 2 [4],
  none,
  mz_qa (.invokevirtual 98) 3 [3, 35, 4, 0, 0, 6, 1, 525],
  none,
  none,
  mz_qc (.iconst 0) 1 (0),
  mz_qk (.istore 9) 2 (0) [9] [] (none) (some [0, 1, 2, 3, 4, 5, 6, 7, 8, 9]),
  none,
  mz_qa (.iload 9) 2 [9],
  none,
  mz_qa (.iload 8) 2 [8],
  none,
  mz_qa (.invokestatic 118) 3 [1, 2, 1, 1, 0, 1, 0, 695],
  none,
  none,
  mz_qa (.if_icmp .ge 49) 3 [117],
  none,
  none,
  mz_qa (.aload_n 0) 1 [0],
  mz_qa (.getfield 24) 3 [1, 4, 0, 210],
  none,
  none,
  mz_qa (.iload 8) 2 [8],
  none,
  mz_qa (.ifCond .le 7) 3 [84],
  none,
  none,
  mz_qc (.iconst 2) 1 (2),
  mz_qa (.goto 4) 3 [85],
  none,
  none,
  mz_qc (.iconst 3) 1 (3),
  mz_qa (.aload 5) 2 [5],
  none,
  mz_qa (.aload 6) 2 [6],
  none,
  mz_qa (.invokevirtual 105) 3 [3, 36, 4, 1, 0, 4, 1, 538],
  none,
  none,
  mz_qa (.istore 10) 2 [10],
  none,
  mz_qa (.iload 10) 2 [10],
  none,
  mz_qa (.ifCond .eq 6) 3 [102],
  none,
  none,
  mz_qa (.iload 10) 2 [10],
  none,
  mz_qa .ireturn 1 [0],
  mz_qa (.aload 5) 2 [5],
  none,
  mz_qa (.aload_n 0) 1 [0],
  mz_qa (.getfield 24) 3 [1, 4, 0, 210],
  none,
  none,
  mz_qa (.invokevirtual 54) 3 [3, 34, 2, 0, 0, 2, 1, 521],
  none,
  none,
  mz_qk (.iinc 9 1) 3 (1) [9] [] (none) (none),
  none,
  none,
  mz_qk (.goto (-53)) 3 (0) [61] [] (some [0, 1, 2, 3, 4, 5, 6, 7, 8, 9]) (none),
  none,
  none,
  mz_qk (.iinc 7 1) 3 (1) [7] [] (none) (none),
  none,
  none,
  mz_qk (.goto (-92)) 3 (0) [28] [] (some [0, 1, 2, 3, 4, 5, 6, 7]) (none),
  none,
  none,
  mz_qc (.iconst 0) 1 (0),
  mz_qa .ireturn 1 [0]]
def tb_Past_remember : mz_T := [mz_qa (.aload_n 0) 1 [0],
  mz_qa (.getfield 11) 3 [2, 0, 0, 157],
  none,
  none,
  mz_qa (.aload_n 0) 1 [0],
  mz_qa (.getfield 21) 3 [2, 2, 0, 160],
  none,
  none,
  mz_qc (.bipush 6) 2 (6),
  none,
  mz_qa (.invokestatic 25) 3 [1, 3, 2, 1, 0, 3, 0, 335],
  none,
  none,
  mz_q .aaload 1,
  mz_qa (.aload_n 1) 1 [1],
  mz_qa (.invokevirtual 31) 3 [4, 43, 2, 0, 0, 3, 1, 338],
  none,
  none,
  mz_qa (.aload_n 0) 1 [0],
  mz_qa (.aload_n 0) 1 [0],
  mz_qa (.getfield 21) 3 [2, 2, 0, 160],
  none,
  none,
  mz_qc (.iconst 1) 1 (1),
  mz_q .iadd 1,
  mz_qc (.bipush 6) 2 (6),
  none,
  mz_qa (.invokestatic 25) 3 [1, 3, 2, 1, 0, 3, 0, 335],
  none,
  none,
  mz_qa (.putfield 21) 3 [2, 2, 0, 0, 160],
  none,
  none,
  mz_qa (.aload_n 0) 1 [0],
  mz_qa (.aload_n 0) 1 [0],
  mz_qa (.getfield 17) 3 [2, 1, 0, 158],
  none,
  none,
  mz_qc (.iconst 1) 1 (1),
  mz_q .iadd 1,
  mz_qc (.bipush 6) 2 (6),
  none,
  mz_qa (.invokestatic 35) 3 [1, 1, 2, 1, 0, 2, 0, 349],
  none,
  none,
  mz_qa (.putfield 17) 3 [2, 1, 0, 0, 158],
  none,
  none,
  mz_q .return_ 1]
def tb_Past_bringBack : mz_T := [mz_qa (.aload_n 0) 1 [0],
  mz_qa (.getfield 17) 3 [2, 1, 0, 158],
  none,
  none,
  mz_qc (.iconst 1) 1 (1),
  mz_qa (.if_icmp .ge 5) 3 [10],
  none,
  none,
  mz_qc (.iconst 0) 1 (0),
  mz_qa .ireturn 1 [1],
  mz_qa (.aload_n 0) 1 [0],
  mz_qa (.aload_n 0) 1 [0],
  mz_qa (.getfield 21) 3 [2, 2, 0, 160],
  none,
  none,
  mz_qc (.iconst 1) 1 (1),
  mz_q .isub 1,
  mz_qc (.bipush 6) 2 (6),
  none,
  mz_qa (.invokestatic 25) 3 [1, 3, 2, 1, 0, 3, 0, 335],
  none,
  none,
  mz_qa (.putfield 21) 3 [2, 2, 0, 0, 160],
  none,
  none,
  mz_qa (.aload_n 1) 1 [1],
  mz_qa (.aload_n 0) 1 [0],
  mz_qa (.getfield 11) 3 [2, 0, 0, 157],
  none,
  none,
  mz_qa (.aload_n 0) 1 [0],
  mz_qa (.getfield 21) 3 [2, 2, 0, 160],
  none,
  none,
  mz_q .aaload 1,
  mz_qa (.invokevirtual 31) 3 [4, 43, 2, 0, 0, 3, 1, 338],
  none,
  none,
  mz_qa (.aload_n 0) 1 [0],
  mz_q .dup 1,
  mz_qa (.getfield 17) 3 [2, 1, 0, 158],
  none,
  none,
  mz_qc (.iconst 1) 1 (1),
  mz_q .isub 1,
  mz_qa (.putfield 17) 3 [2, 1, 0, 0, 158],
  none,
  none,
  mz_qc (.iconst 1) 1 (1),
  mz_qa .ireturn 1 [1]]
def tb_Past_takeAll : mz_T := [mz_qc (.iconst 0) 1 (0),
  mz_qk (.istore_n 2) 1 (0) [2] [] (none) (some [0, 1, 2]),
  mz_qa (.iload_n 2) 1 [2],
  mz_qa (.aload_n 0) 1 [0],
  mz_qa (.getfield 11) 3 [2, 0, 0, 157],
  none,
  none,
  mz_q .arraylength 1,
  mz_qa (.if_icmp .ge 24) 3 [32],
  none,
  none,
  mz_qa (.aload_n 0) 1 [0],
  mz_qa (.getfield 11) 3 [2, 0, 0, 157],
  none,
  none,
  mz_qa (.iload_n 2) 1 [2],
  mz_q .aaload 1,
  mz_qa (.aload_n 1) 1 [1],
  mz_qa (.getfield 11) 3 [2, 0, 0, 157],
  none,
  none,
  mz_qa (.iload_n 2) 1 [2],
  mz_q .aaload 1,
  mz_qa (.invokevirtual 31) 3 [4, 43, 2, 0, 0, 3, 1, 338],
  none,
  none,
  mz_qk (.iinc 2 1) 3 (1) [2] [] (none) (none),
  none,
  none,
  mz_qk (.goto (-27)) 3 (0) [2] [] (some [0, 1, 2]) (none),
  none,
  none,
  mz_qa (.aload_n 0) 1 [0],
  mz_qa (.aload_n 1) 1 [1],
  mz_qa (.getfield 17) 3 [2, 1, 0, 158],
  none,
  none,
  mz_qa (.putfield 17) 3 [2, 1, 0, 0, 158],
  none,
  none,
  mz_qa (.aload_n 0) 1 [0],
  mz_qa (.aload_n 1) 1 [1],
  mz_qa (.getfield 21) 3 [2, 2, 0, 160],
  none,
  none,
  mz_qa (.putfield 21) 3 [2, 2, 0, 0, 160],
  none,
  none,
  mz_q .return_ 1]
def tb_Row_begin : mz_T := [mz_qa (.aload_n 0) 1 [0],
  mz_qc (.iconst 0) 1 (0),
  mz_qa (.iload_n 1) 1 [1],
  mz_qa (.aload_n 0) 1 [0],
  mz_qa (.getfield 9) 3 [3, 0, 0, 124],
  none,
  none,
  mz_q .arraylength 1,
  mz_qa (.invokestatic 19) 3 [1, 1, 2, 1, 0, 2, 0, 316],
  none,
  none,
  mz_qa (.invokestatic 25) 3 [1, 0, 2, 1, 0, 2, 0, 319],
  none,
  none,
  mz_qa (.putfield 15) 3 [3, 1, 0, 0, 125],
  none,
  none,
  mz_qc (.iconst 0) 1 (0),
  mz_qk (.istore_n 2) 1 (0) [2] [] (none) (some [0, 2]),
  mz_qa (.iload_n 2) 1 [2],
  mz_qa (.aload_n 0) 1 [0],
  mz_qa (.getfield 15) 3 [3, 1, 0, 125],
  none,
  none,
  mz_qa (.if_icmp .ge 16) 3 [40],
  none,
  none,
  mz_qa (.aload_n 0) 1 [0],
  mz_qa (.getfield 9) 3 [3, 0, 0, 124],
  none,
  none,
  mz_qa (.iload_n 2) 1 [2],
  mz_qc (.iconst 0) 1 (0),
  mz_q .iastore 1,
  mz_qk (.iinc 2 1) 3 (1) [2] [] (none) (none),
  none,
  none,
  mz_qk (.goto (-18)) 3 (0) [19] [] (some [0, 2]) (none),
  none,
  none,
  mz_q .return_ 1]
def tb_Row_at : mz_T := [mz_qa (.iload_n 1) 1 [1],
  mz_qa (.ifCond .lt 20) 3 [21],
  none,
  none,
  mz_qa (.iload_n 1) 1 [1],
  mz_qa (.aload_n 0) 1 [0],
  mz_qa (.getfield 15) 3 [3, 1, 0, 125],
  none,
  none,
  mz_qa (.if_icmp .ge 12) 3 [21],
  none,
  none,
  mz_qa (.aload_n 0) 1 [0],
  mz_qa (.getfield 9) 3 [3, 0, 0, 124],
  none,
  none,
  mz_qa (.iload_n 1) 1 [1],
  mz_q .iaload 1,
  mz_qa (.goto 4) 3 [22],
  none,
  none,
  mz_qc (.iconst 0) 1 (0),
  mz_qa .ireturn 1 [0]]
def tb_Row_put : mz_T := [mz_qa (.iload_n 1) 1 [1],
  mz_qa (.ifCond .lt 19) 3 [20],
  none,
  none,
  mz_qa (.iload_n 1) 1 [1],
  mz_qa (.aload_n 0) 1 [0],
  mz_qa (.getfield 15) 3 [3, 1, 0, 125],
  none,
  none,
  mz_qa (.if_icmp .ge 11) 3 [20],
  none,
  none,
  mz_qa (.aload_n 0) 1 [0],
  mz_qa (.getfield 9) 3 [3, 0, 0, 124],
  none,
  none,
  mz_qa (.iload_n 1) 1 [1],
  mz_qa (.lload_n 2) 1 [2],
  mz_q .l2i 1,
  mz_q .iastore 1,
  mz_q .return_ 1]
def tb_Row_take : mz_T := [mz_qa (.aload_n 0) 1 [0],
  mz_qa (.aload_n 1) 1 [1],
  mz_qa (.getfield 15) 3 [3, 1, 0, 125],
  none,
  none,
  mz_qa (.putfield 15) 3 [3, 1, 0, 0, 125],
  none,
  none,
  mz_qa (.aload_n 1) 1 [1],
  mz_qa (.getfield 9) 3 [3, 0, 0, 124],
  none,
  none,
  mz_qc (.iconst 0) 1 (0),
  mz_qa (.aload_n 0) 1 [0],
  mz_qa (.getfield 9) 3 [3, 0, 0, 124],
  none,
  none,
  mz_qc (.iconst 0) 1 (0),
  mz_qa (.aload_n 0) 1 [0],
  mz_qa (.getfield 9) 3 [3, 0, 0, 124],
  none,
  none,
  mz_q .arraylength 1,
  mz_qa (.invokestatic 28) 3 [0, 346, 348, 347, 102],
  none,
  none,
  mz_q .return_ 1]
def tb_Row_become : mz_T := [mz_qa (.aload_n 0) 1 [0],
  mz_qa (.iload_n 3) 1 [3],
  mz_qa (.invokevirtual 34) 3 [3, 31, 2, 0, 0, 3, 0, 312],
  none,
  none,
  mz_qa (.aload_n 0) 1 [0],
  mz_qa (.iload_n 1) 1 [1],
  mz_qc (.iconst 4) 1 (4),
  mz_qa (.if_icmp .ne 7) 3 [15],
  none,
  none,
  mz_qa (.iload_n 2) 1 [2],
  mz_qa (.goto 4) 3 [16],
  none,
  none,
  mz_qc (.iconst 0) 1 (0),
  mz_ql (.lconst 1) 1 (1) [],
  mz_qa (.invokevirtual 38) 3 [3, 33, 3, 0, 0, 4, 0, 322],
  none,
  none,
  mz_qc (.iconst 1) 1 (1),
  mz_qk (.istore 4) 2 (0) [4] [] (none) (some [0, 1, 2, 4]),
  none,
  mz_qa (.iload 4) 2 [4],
  none,
  mz_qa (.aload_n 0) 1 [0],
  mz_qa (.getfield 15) 3 [3, 1, 0, 125],
  none,
  none,
  mz_qa (.if_icmp .ge 114) 3 [143],
  none,
  none,
  mz_qa (.iload_n 1) 1 [1],
  mz_qc (.iconst 1) 1 (1),
  mz_qa (.if_icmp .ne 20) 3 [54],
  none,
  none,
  mz_qa (.aload_n 0) 1 [0],
  mz_qa (.iload_n 2) 1 [2],
  mz_qa (.iload 4) 2 [4],
  none,
  mz_q .imul 1,
  mz_qa (.iload 4) 2 [4],
  none,
  mz_q .imul 1,
  mz_ql (.ldc2_w 42) 3 (2) [326],
  none,
  none,
  mz_qa (.invokevirtual 38) 3 [3, 33, 3, 0, 0, 4, 0, 322],
  none,
  none,
  mz_qa (.goto 86) 3 [137],
  none,
  none,
  mz_qa (.iload_n 1) 1 [1],
  mz_qc (.iconst 2) 1 (2),
  mz_qa (.if_icmp .ne 22) 3 [78],
  none,
  none,
  mz_qa (.aload_n 0) 1 [0],
  mz_qa (.iload_n 2) 1 [2],
  mz_qa (.iload 4) 2 [4],
  none,
  mz_q .imul 1,
  mz_qa (.iload 4) 2 [4],
  none,
  mz_qc (.iconst 1) 1 (1),
  mz_q .iadd 1,
  mz_q .imul 1,
  mz_qc (.iconst 2) 1 (2),
  mz_q .idiv 1,
  mz_ql (.lconst 1) 1 (1) [],
  mz_qa (.invokevirtual 38) 3 [3, 33, 3, 0, 0, 4, 0, 322],
  none,
  none,
  mz_qa (.goto 62) 3 [137],
  none,
  none,
  mz_qa (.iload_n 1) 1 [1],
  mz_qc (.iconst 3) 1 (3),
  mz_qa (.if_icmp .ne 57) 3 [137],
  none,
  none,
  mz_qa (.iload 4) 2 [4],
  none,
  mz_qc (.iconst 1) 1 (1),
  mz_q .iand 1,
  mz_qa (.ifCond .ne 7) 3 [94],
  none,
  none,
  mz_qc (.iconst 1) 1 (1),
  mz_qa (.goto 4) 3 [95],
  none,
  none,
  mz_qc (.iconst (-1)) 1 (-1),
  mz_qa (.istore 5) 2 [5],
  none,
  mz_qa (.aload_n 0) 1 [0],
  mz_qa (.iload_n 2) 1 [2],
  mz_qa (.iload 4) 2 [4],
  none,
  mz_qc (.iconst 3) 1 (3),
  mz_qa (.iload 4) 2 [4],
  none,
  mz_q .imul 1,
  mz_qc (.iconst 1) 1 (1),
  mz_q .isub 1,
  mz_q .imul 1,
  mz_qc (.iconst 2) 1 (2),
  mz_q .idiv 1,
  mz_q .imul 1,
  mz_qa (.iload 5) 2 [5],
  none,
  mz_q .i2l 1,
  mz_qa (.invokevirtual 38) 3 [3, 33, 3, 0, 0, 4, 0, 322],
  none,
  none,
  mz_qa (.aload_n 0) 1 [0],
  mz_qa (.iload_n 2) 1 [2],
  mz_qa (.iload 4) 2 [4],
  none,
  mz_qc (.iconst 3) 1 (3),
  mz_qa (.iload 4) 2 [4],
  none,
  mz_q .imul 1,
  mz_qc (.iconst 1) 1 (1),
  mz_q .iadd 1,
  mz_q .imul 1,
  mz_qc (.iconst 2) 1 (2),
  mz_q .idiv 1,
  mz_q .imul 1,
  mz_qa (.iload 5) 2 [5],
  none,
  mz_q .i2l 1,
  mz_qa (.invokevirtual 38) 3 [3, 33, 3, 0, 0, 4, 0, 322],
  none,
  none,
  mz_qk (.iinc 4 1) 3 (1) [4] [] (none) (none),
  none,
  none,
  mz_qk (.goto (-117)) 3 (0) [23] [] (some [0, 1, 2, 4]) (none),
  none,
  none,
  mz_q .return_ 1]
def tb_Row_becomeJoined : mz_T := [mz_qa (.iload_n 1) 1 [1],
  mz_qk (.tableswitch 50 0 2 #[27, 35, 43]) 27 (0) [51] [(0, 28), (1, 36), (2, 44)] (none) (none),
  none,
  none,
  none,
  none,
  none,
  none,
  none,
  none,
  none,
  none,
  none,
  none,
  none,
  none,
  none,
  none,
  none,
  none,
  none,
  none,
  none,
  none,
  none,
  none,
  none,
  none,
  mz_qa (.aload_n 0) 1 [0],
  mz_qa (.aload_n 2) 1 [2],
  mz_qa (.aload_n 3) 1 [3],
  mz_qc (.iconst 1) 1 (1),
  mz_qa (.invokevirtual 44) 3 [3, 37, 4, 1, 0, 7, 0, 365],
  none,
  none,
  mz_qa .ireturn 1 [0],
  mz_qa (.aload_n 0) 1 [0],
  mz_qa (.aload_n 2) 1 [2],
  mz_qa (.aload_n 3) 1 [3],
  mz_qc (.iconst (-1)) 1 (-1),
  mz_qa (.invokevirtual 44) 3 [3, 37, 4, 1, 0, 7, 0, 365],
  none,
  none,
  mz_qa .ireturn 1 [0],
  mz_qa (.aload_n 0) 1 [0],
  mz_qa (.aload_n 2) 1 [2],
  mz_qa (.aload_n 3) 1 [3],
  mz_qa (.invokevirtual 48) 3 [3, 38, 3, 1, 0, 7, 0, 379],
  none,
  none,
  mz_qa .ireturn 1 [0],
  mz_qa (.aload_n 0) 1 [0],
  mz_qa (.aload_n 2) 1 [2],
  mz_qa (.aload_n 3) 1 [3],
  mz_qa (.invokevirtual 52) 3 [3, 39, 3, 1, 0, 8, 0, 383],
  none,
  none,
  mz_qa .ireturn 1 [0]]
def tb_Row_sum : mz_T := [mz_qa (.aload_n 0) 1 [0],
  mz_qa (.aload_n 1) 1 [1],
  mz_qa (.getfield 15) 3 [3, 1, 0, 125],
  none,
  none,
  mz_qa (.aload_n 2) 1 [2],
  mz_qa (.getfield 15) 3 [3, 1, 0, 125],
  none,
  none,
  mz_qa (.invokestatic 19) 3 [1, 1, 2, 1, 0, 2, 0, 316],
  none,
  none,
  mz_qa (.invokevirtual 34) 3 [3, 31, 2, 0, 0, 3, 0, 312],
  none,
  none,
  mz_qc (.iconst 0) 1 (0),
  mz_qk (.istore 4) 2 (0) [4] [] (none) (some [0, 1, 2, 3, 4]),
  none,
  mz_qa (.iload 4) 2 [4],
  none,
  mz_qa (.aload_n 0) 1 [0],
  mz_qa (.getfield 15) 3 [3, 1, 0, 125],
  none,
  none,
  mz_qa (.if_icmp .ge 48) 3 [72],
  none,
  none,
  mz_qa (.aload_n 1) 1 [1],
  mz_qa (.iload 4) 2 [4],
  none,
  mz_qa (.invokevirtual 55) 3 [3, 32, 2, 1, 0, 2, 0, 369],
  none,
  none,
  mz_q .i2l 1,
  mz_qa (.iload_n 3) 1 [3],
  mz_q .i2l 1,
  mz_qa (.aload_n 2) 1 [2],
  mz_qa (.iload 4) 2 [4],
  none,
  mz_qa (.invokevirtual 55) 3 [3, 32, 2, 1, 0, 2, 0, 369],
  none,
  none,
  mz_q .i2l 1,
  mz_q .lmul 1,
  mz_q .ladd 1,
  mz_qa (.lstore 5) 2 [5],
  none,
  mz_qa (.lload 5) 2 [5],
  none,
  mz_qa (.invokestatic 59) 3 [1, 95, 1, 1, 0, 2, 1, 373],
  none,
  none,
  mz_qa (.ifCond .eq 6) 3 [58],
  none,
  none,
  mz_qk (.ldc 63) 2 (-1000005) [378] [] (none) (none),
  none,
  mz_qa .ireturn 1 [0],
  mz_qa (.aload_n 0) 1 [0],
  mz_qa (.iload 4) 2 [4],
  none,
  mz_qa (.lload 5) 2 [5],
  none,
  mz_qa (.invokevirtual 38) 3 [3, 33, 3, 0, 0, 4, 0, 322],
  none,
  none,
  mz_qk (.iinc 4 1) 3 (1) [4] [] (none) (none),
  none,
  none,
  mz_qk (.goto (-51)) 3 (0) [18] [] (some [0, 1, 2, 3, 4]) (none),
  none,
  none,
  mz_qc (.iconst 0) 1 (0),
  mz_qa .ireturn 1 [0]]
def tb_Row_product : mz_T := [mz_qa (.aload_n 0) 1 [0],
  mz_qa (.aload_n 1) 1 [1],
  mz_qa (.getfield 15) 3 [3, 1, 0, 125],
  none,
  none,
  mz_qa (.aload_n 2) 1 [2],
  mz_qa (.getfield 15) 3 [3, 1, 0, 125],
  none,
  none,
  mz_qa (.invokestatic 19) 3 [1, 1, 2, 1, 0, 2, 0, 316],
  none,
  none,
  mz_qa (.invokevirtual 34) 3 [3, 31, 2, 0, 0, 3, 0, 312],
  none,
  none,
  mz_qc (.iconst 0) 1 (0),
  mz_qk (.istore_n 3) 1 (0) [3] [] (none) (some [0, 1, 2, 3]),
  mz_qa (.iload_n 3) 1 [3],
  mz_qa (.aload_n 0) 1 [0],
  mz_qa (.getfield 15) 3 [3, 1, 0, 125],
  none,
  none,
  mz_qa (.if_icmp .ge 69) 3 [91],
  none,
  none,
  mz_ql (.lconst 0) 1 (0) [],
  mz_qa (.lstore 4) 2 [4],
  none,
  mz_qc (.iconst 0) 1 (0),
  mz_qk (.istore 6) 2 (0) [6] [] (none) (some [0, 1, 2, 3, 4, 6]),
  none,
  mz_qa (.iload 6) 2 [6],
  none,
  mz_qa (.iload_n 3) 1 [3],
  mz_qa (.if_icmp .gt 33) 3 [67],
  none,
  none,
  mz_qa (.lload 4) 2 [4],
  none,
  mz_qa (.aload_n 1) 1 [1],
  mz_qa (.getfield 9) 3 [3, 0, 0, 124],
  none,
  none,
  mz_qa (.iload 6) 2 [6],
  none,
  mz_q .iaload 1,
  mz_q .i2l 1,
  mz_qa (.aload_n 2) 1 [2],
  mz_qa (.getfield 9) 3 [3, 0, 0, 124],
  none,
  none,
  mz_qa (.iload_n 3) 1 [3],
  mz_qa (.iload 6) 2 [6],
  none,
  mz_q .isub 1,
  mz_q .iaload 1,
  mz_q .i2l 1,
  mz_q .lmul 1,
  mz_q .ladd 1,
  mz_qa (.lstore 4) 2 [4],
  none,
  mz_qk (.iinc 6 1) 3 (1) [6] [] (none) (none),
  none,
  none,
  mz_qk (.goto (-33)) 3 (0) [31] [] (some [0, 1, 2, 3, 4, 6]) (none),
  none,
  none,
  mz_qa (.lload 4) 2 [4],
  none,
  mz_qa (.invokestatic 59) 3 [1, 95, 1, 1, 0, 2, 1, 373],
  none,
  none,
  mz_qa (.ifCond .eq 6) 3 [78],
  none,
  none,
  mz_qk (.ldc 63) 2 (-1000005) [378] [] (none) (none),
  none,
  mz_qa .ireturn 1 [0],
  mz_qa (.aload_n 0) 1 [0],
  mz_qa (.iload_n 3) 1 [3],
  mz_qa (.lload 4) 2 [4],
  none,
  mz_qa (.invokevirtual 38) 3 [3, 33, 3, 0, 0, 4, 0, 322],
  none,
  none,
  mz_qk (.iinc 3 1) 3 (1) [3] [] (none) (none),
  none,
  none,
  mz_qk (.goto (-71)) 3 (0) [17] [] (some [0, 1, 2, 3]) (none),
  none,
  none,
  mz_qc (.iconst 0) 1 (0),
  mz_qa .ireturn 1 [0]]
def tb_Row_ratio : mz_T := [mz_qa (.aload_n 2) 1 [2],
  mz_qc (.iconst 0) 1 (0),
  mz_qa (.invokevirtual 55) 3 [3, 32, 2, 1, 0, 2, 0, 369],
  none,
  none,
  mz_qa (.istore_n 3) 1 [3],
  mz_qa (.iload_n 3) 1 [3],
  mz_qc (.iconst 1) 1 (1),
  mz_qa (.if_icmp .eq 11) 3 [19],
  none,
  none,
  mz_qa (.iload_n 3) 1 [3],
  mz_qc (.iconst (-1)) 1 (-1),
  mz_qa (.if_icmp .eq 6) 3 [19],
  none,
  none,
  mz_qk (.ldc 64) 2 (-1000006) [387] [] (none) (none),
  none,
  mz_qa .ireturn 1 [0],
  mz_qa (.aload_n 0) 1 [0],
  mz_qa (.aload_n 1) 1 [1],
  mz_qa (.getfield 15) 3 [3, 1, 0, 125],
  none,
  none,
  mz_qa (.aload_n 2) 1 [2],
  mz_qa (.getfield 15) 3 [3, 1, 0, 125],
  none,
  none,
  mz_qa (.invokestatic 19) 3 [1, 1, 2, 1, 0, 2, 0, 316],
  none,
  none,
  mz_qa (.invokevirtual 34) 3 [3, 31, 2, 0, 0, 3, 0, 312],
  none,
  none,
  mz_qc (.iconst 0) 1 (0),
  mz_qk (.istore 4) 2 (0) [4] [] (none) (some [0, 1, 2, 3, 4]),
  none,
  mz_qa (.iload 4) 2 [4],
  none,
  mz_qa (.aload_n 0) 1 [0],
  mz_qa (.getfield 15) 3 [3, 1, 0, 125],
  none,
  none,
  mz_qa (.if_icmp .ge 86) 3 [129],
  none,
  none,
  mz_qa (.aload_n 1) 1 [1],
  mz_qa (.getfield 9) 3 [3, 0, 0, 124],
  none,
  none,
  mz_qa (.iload 4) 2 [4],
  none,
  mz_q .iaload 1,
  mz_q .i2l 1,
  mz_qa (.lstore 5) 2 [5],
  none,
  mz_qc (.iconst 1) 1 (1),
  mz_qk (.istore 7) 2 (0) [7] [] (none) (some [0, 1, 2, 3, 4, 5, 7]),
  none,
  mz_qa (.iload 7) 2 [7],
  none,
  mz_qa (.iload 4) 2 [4],
  none,
  mz_qa (.if_icmp .gt 34) 3 [97],
  none,
  none,
  mz_qa (.lload 5) 2 [5],
  none,
  mz_qa (.aload_n 2) 1 [2],
  mz_qa (.getfield 9) 3 [3, 0, 0, 124],
  none,
  none,
  mz_qa (.iload 7) 2 [7],
  none,
  mz_q .iaload 1,
  mz_q .i2l 1,
  mz_qa (.aload_n 0) 1 [0],
  mz_qa (.getfield 9) 3 [3, 0, 0, 124],
  none,
  none,
  mz_qa (.iload 4) 2 [4],
  none,
  mz_qa (.iload 7) 2 [7],
  none,
  mz_q .isub 1,
  mz_q .iaload 1,
  mz_q .i2l 1,
  mz_q .lmul 1,
  mz_q .lsub 1,
  mz_qa (.lstore 5) 2 [5],
  none,
  mz_qk (.iinc 7 1) 3 (1) [7] [] (none) (none),
  none,
  none,
  mz_qk (.goto (-35)) 3 (0) [59] [] (some [0, 1, 2, 3, 4, 5, 7]) (none),
  none,
  none,
  mz_qa (.lload 5) 2 [5],
  none,
  mz_qa (.iload_n 3) 1 [3],
  mz_q .i2l 1,
  mz_q .lmul 1,
  mz_qa (.lstore 5) 2 [5],
  none,
  mz_qa (.lload 5) 2 [5],
  none,
  mz_qa (.invokestatic 59) 3 [1, 95, 1, 1, 0, 2, 1, 373],
  none,
  none,
  mz_qa (.ifCond .eq 6) 3 [115],
  none,
  none,
  mz_qk (.ldc 63) 2 (-1000005) [378] [] (none) (none),
  none,
  mz_qa .ireturn 1 [0],
  mz_qa (.aload_n 0) 1 [0],
  mz_qa (.iload 4) 2 [4],
  none,
  mz_qa (.lload 5) 2 [5],
  none,
  mz_qa (.invokevirtual 38) 3 [3, 33, 3, 0, 0, 4, 0, 322],
  none,
  none,
  mz_qk (.iinc 4 1) 3 (1) [4] [] (none) (none),
  none,
  none,
  mz_qk (.goto (-89)) 3 (0) [37] [] (some [0, 1, 2, 3, 4]) (none),
  none,
  none,
  mz_qc (.iconst 0) 1 (0),
  mz_qa .ireturn 1 [0]]
def tb_Row_becomePower : mz_T := [mz_qa (.aload_n 0) 1 [0],
  mz_qa (.aload_n 1) 1 [1],
  mz_qa (.getfield 15) 3 [3, 1, 0, 125],
  none,
  none,
  mz_qa (.invokevirtual 34) 3 [3, 31, 2, 0, 0, 3, 0, 312],
  none,
  none,
  mz_qa (.aload_n 0) 1 [0],
  mz_qc (.iconst 0) 1 (0),
  mz_ql (.lconst 1) 1 (1) [],
  mz_qa (.invokevirtual 38) 3 [3, 33, 3, 0, 0, 4, 0, 322],
  none,
  none,
  mz_qc (.iconst 0) 1 (0),
  mz_qk (.istore 4) 2 (0) [4] [] (none) (some [0, 1, 2, 3, 4]),
  none,
  mz_qa (.iload 4) 2 [4],
  none,
  mz_qa (.iload_n 2) 1 [2],
  mz_qa (.if_icmp .ge 30) 3 [50],
  none,
  none,
  mz_qa (.aload_n 3) 1 [3],
  mz_qa (.aload_n 0) 1 [0],
  mz_qa (.aload_n 1) 1 [1],
  mz_qa (.invokevirtual 48) 3 [3, 38, 3, 1, 0, 7, 0, 379],
  none,
  none,
  mz_qa (.istore 5) 2 [5],
  none,
  mz_qa (.iload 5) 2 [5],
  none,
  mz_qa (.ifCond .eq 6) 3 [39],
  none,
  none,
  mz_qa (.iload 5) 2 [5],
  none,
  mz_qa .ireturn 1 [0],
  mz_qa (.aload_n 0) 1 [0],
  mz_qa (.aload_n 3) 1 [3],
  mz_qa (.invokevirtual 65) 3 [3, 34, 2, 0, 0, 2, 0, 405],
  none,
  none,
  mz_qk (.iinc 4 1) 3 (1) [4] [] (none) (none),
  none,
  none,
  mz_qk (.goto (-30)) 3 (0) [17] [] (some [0, 1, 2, 3, 4]) (none),
  none,
  none,
  mz_qc (.iconst 0) 1 (0),
  mz_qa .ireturn 1 [0]]
def tb_Row_becomeChanged : mz_T := [mz_qa (.iload_n 1) 1 [1],
  mz_qc (.iconst 3) 1 (3),
  mz_qa (.if_icmp .ne 17) 3 [19],
  none,
  none,
  mz_qa (.aload_n 0) 1 [0],
  mz_qa (.iload_n 2) 1 [2],
  mz_qc (.bipush 10) 2 (10),
  none,
  mz_q .idiv 1,
  mz_qa (.iload_n 2) 1 [2],
  mz_qc (.bipush 10) 2 (10),
  none,
  mz_q .irem 1,
  mz_qa (.aload_n 3) 1 [3],
  mz_qa (.invokevirtual 69) 3 [3, 42, 4, 1, 0, 5, 0, 410],
  none,
  none,
  mz_qa .ireturn 1 [0],
  mz_qa (.aload_n 0) 1 [0],
  mz_qa (.iload_n 1) 1 [1],
  mz_qc (.iconst 4) 1 (4),
  mz_qa (.if_icmp .ne 7) 3 [29],
  none,
  none,
  mz_qa (.iload_n 2) 1 [2],
  mz_qa (.goto 7) 3 [33],
  none,
  none,
  mz_qa (.aload_n 3) 1 [3],
  mz_qa (.getfield 15) 3 [3, 1, 0, 125],
  none,
  none,
  mz_qa (.invokevirtual 34) 3 [3, 31, 2, 0, 0, 3, 0, 312],
  none,
  none,
  mz_qc (.iconst 0) 1 (0),
  mz_qk (.istore 4) 2 (0) [4] [] (none) (some [0, 1, 2, 3, 4]),
  none,
  mz_qa (.iload 4) 2 [4],
  none,
  mz_qa (.aload_n 3) 1 [3],
  mz_qa (.getfield 15) 3 [3, 1, 0, 125],
  none,
  none,
  mz_qa (.if_icmp .ge 123) 3 [168],
  none,
  none,
  mz_qa (.aload_n 3) 1 [3],
  mz_qa (.iload 4) 2 [4],
  none,
  mz_qa (.invokevirtual 55) 3 [3, 32, 2, 1, 0, 2, 0, 369],
  none,
  none,
  mz_q .i2l 1,
  mz_qa (.lstore 5) 2 [5],
  none,
  mz_qa (.iload_n 1) 1 [1],
  mz_qa (.ifCond .ne 16) 3 [74],
  none,
  none,
  mz_qa (.aload_n 0) 1 [0],
  mz_qa (.iload 4) 2 [4],
  none,
  mz_qa (.iload_n 2) 1 [2],
  mz_q .iadd 1,
  mz_qa (.lload 5) 2 [5],
  none,
  mz_qa (.invokevirtual 38) 3 [3, 33, 3, 0, 0, 4, 0, 322],
  none,
  none,
  mz_qa (.goto 91) 3 [162],
  none,
  none,
  mz_qa (.iload_n 1) 1 [1],
  mz_qc (.iconst 1) 1 (1),
  mz_qa (.if_icmp .ne 16) 3 [92],
  none,
  none,
  mz_qa (.aload_n 0) 1 [0],
  mz_qa (.iload 4) 2 [4],
  none,
  mz_qa (.iload_n 2) 1 [2],
  mz_q .imul 1,
  mz_qa (.lload 5) 2 [5],
  none,
  mz_qa (.invokevirtual 38) 3 [3, 33, 3, 0, 0, 4, 0, 322],
  none,
  none,
  mz_qa (.goto 73) 3 [162],
  none,
  none,
  mz_qa (.iload_n 1) 1 [1],
  mz_qc (.iconst 2) 1 (2),
  mz_qa (.if_icmp .ne 27) 3 [121],
  none,
  none,
  mz_qa (.aload_n 0) 1 [0],
  mz_qa (.iload 4) 2 [4],
  none,
  mz_qa (.iload 4) 2 [4],
  none,
  mz_qc (.iconst 1) 1 (1),
  mz_q .iand 1,
  mz_qa (.ifCond .ne 8) 3 [112],
  none,
  none,
  mz_qa (.lload 5) 2 [5],
  none,
  mz_qa (.goto 6) 3 [115],
  none,
  none,
  mz_qa (.lload 5) 2 [5],
  none,
  mz_q .lneg 1,
  mz_qa (.invokevirtual 38) 3 [3, 33, 3, 0, 0, 4, 0, 322],
  none,
  none,
  mz_qa (.goto 44) 3 [162],
  none,
  none,
  mz_qa (.iload_n 1) 1 [1],
  mz_qc (.iconst 4) 1 (4),
  mz_qa (.if_icmp .ne 14) 3 [137],
  none,
  none,
  mz_qa (.aload_n 0) 1 [0],
  mz_qa (.iload 4) 2 [4],
  none,
  mz_qa (.lload 5) 2 [5],
  none,
  mz_qa (.invokevirtual 38) 3 [3, 33, 3, 0, 0, 4, 0, 322],
  none,
  none,
  mz_qa (.goto 28) 3 [162],
  none,
  none,
  mz_qa (.lload 5) 2 [5],
  none,
  mz_qa (.iload_n 2) 1 [2],
  mz_q .i2l 1,
  mz_q .lmul 1,
  mz_qa (.invokestatic 59) 3 [1, 95, 1, 1, 0, 2, 1, 373],
  none,
  none,
  mz_qa (.ifCond .eq 6) 3 [151],
  none,
  none,
  mz_qk (.ldc 63) 2 (-1000005) [378] [] (none) (none),
  none,
  mz_qa .ireturn 1 [0],
  mz_qa (.aload_n 0) 1 [0],
  mz_qa (.iload 4) 2 [4],
  none,
  mz_qa (.lload 5) 2 [5],
  none,
  mz_qa (.iload_n 2) 1 [2],
  mz_q .i2l 1,
  mz_q .lmul 1,
  mz_qa (.invokevirtual 38) 3 [3, 33, 3, 0, 0, 4, 0, 322],
  none,
  none,
  mz_qk (.iinc 4 1) 3 (1) [4] [] (none) (none),
  none,
  none,
  mz_qk (.goto (-126)) 3 (0) [39] [] (some [0, 1, 2, 3, 4]) (none),
  none,
  none,
  mz_qc (.iconst 0) 1 (0),
  mz_qa .ireturn 1 [0]]
def tb_Row_pick : mz_T := [mz_qa (.iload_n 1) 1 [1],
  mz_qc (.iconst 1) 1 (1),
  mz_qa (.if_icmp .lt 11) 3 [13],
  none,
  none,
  mz_qa (.iload_n 2) 1 [2],
  mz_qa (.aload_n 3) 1 [3],
  mz_qa (.getfield 15) 3 [3, 1, 0, 125],
  none,
  none,
  mz_qa (.if_icmp .lt 6) 3 [16],
  none,
  none,
  mz_qk (.ldc 73) 2 (-1000002) [414] [] (none) (none),
  none,
  mz_qa .ireturn 1 [0],
  mz_qa (.aload_n 0) 1 [0],
  mz_qa (.aload_n 3) 1 [3],
  mz_qa (.getfield 15) 3 [3, 1, 0, 125],
  none,
  none,
  mz_qa (.iload_n 2) 1 [2],
  mz_q .isub 1,
  mz_qa (.iload_n 1) 1 [1],
  mz_q .iadd 1,
  mz_qc (.iconst 1) 1 (1),
  mz_q .isub 1,
  mz_qa (.iload_n 1) 1 [1],
  mz_q .idiv 1,
  mz_qa (.invokevirtual 34) 3 [3, 31, 2, 0, 0, 3, 0, 312],
  none,
  none,
  mz_qc (.iconst 0) 1 (0),
  mz_qk (.istore 4) 2 (0) [4] [] (none) (some [0, 1, 2, 3, 4]),
  none,
  mz_qa (.iload 4) 2 [4],
  none,
  mz_qa (.aload_n 0) 1 [0],
  mz_qa (.getfield 15) 3 [3, 1, 0, 125],
  none,
  none,
  mz_qa (.if_icmp .ge 26) 3 [67],
  none,
  none,
  mz_qa (.aload_n 0) 1 [0],
  mz_qa (.iload 4) 2 [4],
  none,
  mz_qa (.aload_n 3) 1 [3],
  mz_qa (.iload_n 2) 1 [2],
  mz_qa (.iload 4) 2 [4],
  none,
  mz_qa (.iload_n 1) 1 [1],
  mz_q .imul 1,
  mz_q .iadd 1,
  mz_qa (.invokevirtual 55) 3 [3, 32, 2, 1, 0, 2, 0, 369],
  none,
  none,
  mz_q .i2l 1,
  mz_qa (.invokevirtual 38) 3 [3, 33, 3, 0, 0, 4, 0, 322],
  none,
  none,
  mz_qk (.iinc 4 1) 3 (1) [4] [] (none) (none),
  none,
  none,
  mz_qk (.goto (-29)) 3 (0) [35] [] (some [0, 1, 2, 3, 4]) (none),
  none,
  none,
  mz_qc (.iconst 0) 1 (0),
  mz_qa .ireturn 1 [0]]
def tb_Shelf_take : mz_T := [mz_qc (.iconst 0) 1 (0),
  mz_qk (.istore_n 2) 1 (0) [2] [] (none) (some [0, 1, 2]),
  mz_qa (.iload_n 2) 1 [2],
  mz_qa (.aload_n 0) 1 [0],
  mz_qa (.getfield 11) 3 [4, 0, 0, 135],
  none,
  none,
  mz_q .arraylength 1,
  mz_qa (.if_icmp .ge 24) 3 [32],
  none,
  none,
  mz_qa (.aload_n 0) 1 [0],
  mz_qa (.getfield 11) 3 [4, 0, 0, 135],
  none,
  none,
  mz_qa (.iload_n 2) 1 [2],
  mz_q .aaload 1,
  mz_qa (.aload_n 1) 1 [1],
  mz_qa (.getfield 11) 3 [4, 0, 0, 135],
  none,
  none,
  mz_qa (.iload_n 2) 1 [2],
  mz_q .aaload 1,
  mz_qa (.invokevirtual 25) 3 [3, 34, 2, 0, 0, 2, 1, 342],
  none,
  none,
  mz_qk (.iinc 2 1) 3 (1) [2] [] (none) (none),
  none,
  none,
  mz_qk (.goto (-27)) 3 (0) [2] [] (some [0, 1, 2]) (none),
  none,
  none,
  mz_qa (.aload_n 0) 1 [0],
  mz_qa (.aload_n 1) 1 [1],
  mz_qa (.getfield 17) 3 [4, 1, 0, 137],
  none,
  none,
  mz_qa (.putfield 17) 3 [4, 1, 0, 0, 137],
  none,
  none,
  mz_qa (.aload_n 0) 1 [0],
  mz_qa (.aload_n 1) 1 [1],
  mz_qa (.getfield 21) 3 [4, 2, 0, 139],
  none,
  none,
  mz_qa (.putfield 21) 3 [4, 2, 0, 0, 139],
  none,
  none,
  mz_q .return_ 1]
def tb_Shelf_isMissing : mz_T := [mz_qa (.iload_n 1) 1 [1],
  mz_qa (.invokestatic 29) 3 [1, 89, 1, 1, 0, 1, 1, 359],
  none,
  none,
  mz_qa (.ifCond .eq 15) 3 [19],
  none,
  none,
  mz_qa (.aload_n 0) 1 [0],
  mz_qa (.getfield 11) 3 [4, 0, 0, 135],
  none,
  none,
  mz_qa (.iload_n 1) 1 [1],
  mz_q .aaload 1,
  mz_qa (.getfield 33) 3 [3, 1, 1, 126],
  none,
  none,
  mz_qa (.ifCond .ne 7) 3 [23],
  none,
  none,
  mz_qc (.iconst 1) 1 (1),
  mz_qa (.goto 4) 3 [24],
  none,
  none,
  mz_qc (.iconst 0) 1 (0),
  mz_qa .ireturn 1 [1]]
def tb_Shelf_present : mz_T := [mz_qc (.iconst 0) 1 (0),
  mz_qa (.istore_n 1) 1 [1],
  mz_qc (.iconst 0) 1 (0),
  mz_qk (.istore_n 2) 1 (0) [2] [] (none) (some [0, 1, 2]),
  mz_qa (.iload_n 2) 1 [2],
  mz_qa (.aload_n 0) 1 [0],
  mz_qa (.getfield 11) 3 [4, 0, 0, 135],
  none,
  none,
  mz_q .arraylength 1,
  mz_qa (.if_icmp .ge 27) 3 [37],
  none,
  none,
  mz_qa (.aload_n 0) 1 [0],
  mz_qa (.getfield 11) 3 [4, 0, 0, 135],
  none,
  none,
  mz_qa (.iload_n 2) 1 [2],
  mz_q .aaload 1,
  mz_qa (.getfield 33) 3 [3, 1, 1, 126],
  none,
  none,
  mz_qa (.ifCond .le 9) 3 [31],
  none,
  none,
  mz_qa (.iload_n 1) 1 [1],
  mz_qc (.iconst 1) 1 (1),
  mz_qa (.iload_n 2) 1 [2],
  mz_q .ishl 1,
  mz_q .ior 1,
  mz_qa (.istore_n 1) 1 [1],
  mz_qk (.iinc 2 1) 3 (1) [2] [] (none) (none),
  none,
  none,
  mz_qk (.goto (-30)) 3 (0) [4] [] (some [0, 1, 2]) (none),
  none,
  none,
  mz_qa (.iload_n 1) 1 [1],
  mz_qa .ireturn 1 [0]]
def tb_Shelf_turnDraw : mz_T := [mz_qa (.aload_n 0) 1 [0],
  mz_qa (.aload_n 0) 1 [0],
  mz_qa (.getfield 21) 3 [4, 2, 0, 139],
  none,
  none,
  mz_q .i2l 1,
  mz_ql (.ldc2_w 36) 3 (1103515245) [551],
  none,
  none,
  mz_q .lmul 1,
  mz_ql (.ldc2_w 38) 3 (12345) [552],
  none,
  none,
  mz_q .ladd 1,
  mz_ql (.ldc2_w 40) 3 (2147483647) [553],
  none,
  none,
  mz_q .land 1,
  mz_q .l2i 1,
  mz_qa (.putfield 21) 3 [4, 2, 0, 0, 139],
  none,
  none,
  mz_qa (.aload_n 0) 1 [0],
  mz_qa (.getfield 21) 3 [4, 2, 0, 139],
  none,
  none,
  mz_qk (.ldc 42) 2 (65536) [554] [] (none) (none),
  none,
  mz_q .idiv 1,
  mz_qa (.istore_n 1) 1 [1],
  mz_qa (.aload_n 0) 1 [0],
  mz_qa (.getfield 11) 3 [4, 0, 0, 135],
  none,
  none,
  mz_qa (.iload_n 1) 1 [1],
  mz_qc (.iconst 4) 1 (4),
  mz_qa (.invokestatic 43) 3 [1, 3, 2, 1, 0, 3, 0, 555],
  none,
  none,
  mz_q .aaload 1,
  mz_qc (.iconst 1) 1 (1),
  mz_qa (.iload_n 1) 1 [1],
  mz_qc (.iconst 4) 1 (4),
  mz_q .idiv 1,
  mz_qc (.iconst 3) 1 (3),
  mz_q .irem 1,
  mz_q .iadd 1,
  mz_qa (.iload_n 1) 1 [1],
  mz_qc (.bipush 16) 2 (16),
  none,
  mz_q .idiv 1,
  mz_qc (.bipush 9) 2 (9),
  none,
  mz_q .irem 1,
  mz_qc (.iconst 1) 1 (1),
  mz_q .iadd 1,
  mz_qa (.aload_n 0) 1 [0],
  mz_qa (.getfield 17) 3 [4, 1, 0, 137],
  none,
  none,
  mz_qa (.invokevirtual 49) 3 [3, 35, 4, 0, 0, 6, 1, 556],
  none,
  none,
  mz_q .return_ 1]
def tb_Tape_write : mz_T := [mz_qa (.aload_n 0) 1 [0],
  mz_qa (.getfield 15) 3 [5, 1, 0, 175],
  none,
  none,
  mz_qa (.ifCond .lt 15) 3 [19],
  none,
  none,
  mz_qa (.aload_n 0) 1 [0],
  mz_qa (.getfield 15) 3 [5, 1, 0, 175],
  none,
  none,
  mz_qa (.aload_n 0) 1 [0],
  mz_qa (.getfield 9) 3 [5, 0, 0, 174],
  none,
  none,
  mz_q .arraylength 1,
  mz_qa (.if_icmp .lt 5) 3 [21],
  none,
  none,
  mz_qc (.iconst 0) 1 (0),
  mz_qa .ireturn 1 [1],
  mz_qa (.aload_n 0) 1 [0],
  mz_qa (.getfield 9) 3 [5, 0, 0, 174],
  none,
  none,
  mz_qa (.aload_n 0) 1 [0],
  mz_qa (.getfield 15) 3 [5, 1, 0, 175],
  none,
  none,
  mz_qa (.iload_n 1) 1 [1],
  mz_q .iastore 1,
  mz_qa (.aload_n 0) 1 [0],
  mz_q .dup 1,
  mz_qa (.getfield 15) 3 [5, 1, 0, 175],
  none,
  none,
  mz_qc (.iconst 1) 1 (1),
  mz_q .iadd 1,
  mz_qa (.putfield 15) 3 [5, 1, 0, 0, 175],
  none,
  none,
  mz_qc (.iconst 1) 1 (1),
  mz_qa .ireturn 1 [1]]
def tb_Tape_parse : mz_T := [mz_qa (.aload_n 0) 1 [0],
  mz_qc (.iconst 0) 1 (0),
  mz_qa (.putfield 19) 3 [5, 2, 0, 0, 177],
  none,
  none,
  mz_qa (.aload_n 0) 1 [0],
  mz_qc (.iconst 0) 1 (0),
  mz_qa (.putfield 22) 3 [5, 3, 0, 0, 178],
  none,
  none,
  mz_qa (.aload_n 0) 1 [0],
  mz_qc (.iconst 0) 1 (0),
  mz_qa (.putfield 31) 3 [5, 6, 0, 0, 181],
  none,
  none,
  mz_qc (.iconst 1) 1 (1),
  mz_qa (.istore_n 1) 1 [1],
  mz_qc (.iconst 0) 1 (0),
  mz_qk (.istore_n 2) 1 (0) [2] [] (none) (some [0, 1, 2]),
  mz_qa (.iload_n 2) 1 [2],
  mz_qa (.aload_n 0) 1 [0],
  mz_qa (.getfield 15) 3 [5, 1, 0, 175],
  none,
  none,
  mz_qa (.if_icmp .gt 68) 3 [92],
  none,
  none,
  mz_qa (.aload_n 0) 1 [0],
  mz_qa (.invokevirtual 34) 3 [5, 50, 1, 0, 0, 2, 0, 442],
  none,
  none,
  mz_qa (.iload_n 1) 1 [1],
  mz_qc (.iconst 1) 1 (1),
  mz_qa (.if_icmp .eq 23) 3 [56],
  none,
  none,
  mz_qa (.aload_n 0) 1 [0],
  mz_qa (.getfield 22) 3 [5, 3, 0, 178],
  none,
  none,
  mz_qa (.ifCond .ne 16) 3 [56],
  none,
  none,
  mz_qa (.aload_n 0) 1 [0],
  mz_qa (.getfield 19) 3 [5, 2, 0, 177],
  none,
  none,
  mz_qa (.aload_n 0) 1 [0],
  mz_qa (.getfield 15) 3 [5, 1, 0, 175],
  none,
  none,
  mz_qa (.if_icmp .lt 5) 3 [56],
  none,
  none,
  mz_qc (.iconst 0) 1 (0),
  mz_qa .ireturn 1 [0],
  mz_qa (.iload_n 1) 1 [1],
  mz_qc (.iconst 1) 1 (1),
  mz_qa (.if_icmp .ne 10) 3 [68],
  none,
  none,
  mz_qa (.aload_n 0) 1 [0],
  mz_qa (.invokevirtual 37) 3 [5, 52, 1, 1, 0, 2, 0, 450],
  none,
  none,
  mz_qa (.goto 8) 3 [73],
  none,
  none,
  mz_qa (.aload_n 0) 1 [0],
  mz_qa (.iload_n 1) 1 [1],
  mz_qa (.invokevirtual 41) 3 [5, 55, 2, 1, 0, 3, 0, 482],
  none,
  none,
  mz_qa (.istore_n 1) 1 [1],
  mz_qa (.iload_n 1) 1 [1],
  mz_qa (.ifCond .ne 11) 3 [86],
  none,
  none,
  mz_qk (.ldc 45) 2 (-1000020) [490] [] (none) (none),
  none,
  mz_qa (.aload_n 0) 1 [0],
  mz_qa (.getfield 19) 3 [5, 2, 0, 177],
  none,
  none,
  mz_q .isub 1,
  mz_qa .ireturn 1 [0],
  mz_qk (.iinc 2 1) 3 (1) [2] [] (none) (none),
  none,
  none,
  mz_qk (.goto (-70)) 3 (0) [19] [] (some [0, 1, 2]) (none),
  none,
  none,
  mz_qk (.ldc 45) 2 (-1000020) [490] [] (none) (none),
  none,
  mz_qa (.aload_n 0) 1 [0],
  mz_qa (.getfield 19) 3 [5, 2, 0, 177],
  none,
  none,
  mz_q .isub 1,
  mz_qa .ireturn 1 [0]]
def tb_Tape_here : mz_T := [mz_qa (.aload_n 0) 1 [0],
  mz_qa (.getfield 19) 3 [5, 2, 0, 177],
  none,
  none,
  mz_qa (.ifCond .lt 38) 3 [42],
  none,
  none,
  mz_qa (.aload_n 0) 1 [0],
  mz_qa (.getfield 19) 3 [5, 2, 0, 177],
  none,
  none,
  mz_qa (.aload_n 0) 1 [0],
  mz_qa (.getfield 15) 3 [5, 1, 0, 175],
  none,
  none,
  mz_qa (.if_icmp .ge 27) 3 [42],
  none,
  none,
  mz_qa (.aload_n 0) 1 [0],
  mz_qa (.getfield 19) 3 [5, 2, 0, 177],
  none,
  none,
  mz_qa (.aload_n 0) 1 [0],
  mz_qa (.getfield 9) 3 [5, 0, 0, 174],
  none,
  none,
  mz_q .arraylength 1,
  mz_qa (.if_icmp .ge 15) 3 [42],
  none,
  none,
  mz_qa (.aload_n 0) 1 [0],
  mz_qa (.getfield 9) 3 [5, 0, 0, 174],
  none,
  none,
  mz_qa (.aload_n 0) 1 [0],
  mz_qa (.getfield 19) 3 [5, 2, 0, 177],
  none,
  none,
  mz_q .iaload 1,
  mz_qa (.goto 4) 3 [43],
  none,
  none,
  mz_qc (.iconst 0) 1 (0),
  mz_qa .ireturn 1 [0]]
def tb_Tape_skipBlanks : mz_T := [mz_qc (.iconst 0) 1 (0),
  mz_qk (.istore_n 1) 1 (0) [1] [] (none) (some [0, 1]),
  mz_qa (.iload_n 1) 1 [1],
  mz_qc (.bipush 60) 2 (60),
  none,
  mz_qa (.if_icmp .ge 28) 3 [33],
  none,
  none,
  mz_qa (.aload_n 0) 1 [0],
  mz_qa (.invokevirtual 46) 3 [5, 49, 1, 1, 0, 1, 0, 446],
  none,
  none,
  mz_qc (.bipush 32) 2 (32),
  none,
  mz_qa (.if_icmp .ne 19) 3 [33],
  none,
  none,
  mz_qa (.aload_n 0) 1 [0],
  mz_q .dup 1,
  mz_qa (.getfield 19) 3 [5, 2, 0, 177],
  none,
  none,
  mz_qc (.iconst 1) 1 (1),
  mz_q .iadd 1,
  mz_qa (.putfield 19) 3 [5, 2, 0, 0, 177],
  none,
  none,
  mz_qk (.iinc 1 1) 3 (1) [1] [] (none) (none),
  none,
  none,
  mz_qk (.goto (-28)) 3 (0) [2] [] (some [0, 1]) (none),
  none,
  none,
  mz_q .return_ 1]
def tb_Tape_digitIsHere : mz_T := [mz_qa (.aload_n 0) 1 [0],
  mz_qa (.invokevirtual 46) 3 [5, 49, 1, 1, 0, 1, 0, 446],
  none,
  none,
  mz_qc (.bipush 48) 2 (48),
  none,
  mz_qa (.if_icmp .lt 16) 3 [22],
  none,
  none,
  mz_qa (.aload_n 0) 1 [0],
  mz_qa (.invokevirtual 46) 3 [5, 49, 1, 1, 0, 1, 0, 446],
  none,
  none,
  mz_qc (.bipush 57) 2 (57),
  none,
  mz_qa (.if_icmp .gt 7) 3 [22],
  none,
  none,
  mz_qc (.iconst 1) 1 (1),
  mz_qa (.goto 4) 3 [23],
  none,
  none,
  mz_qc (.iconst 0) 1 (0),
  mz_qa .ireturn 1 [1]]
def tb_Tape_readAtom : mz_T := [mz_qa (.aload_n 0) 1 [0],
  mz_qa (.invokevirtual 46) 3 [5, 49, 1, 1, 0, 1, 0, 446],
  none,
  none,
  mz_qa (.istore_n 1) 1 [1],
  mz_qa (.iload_n 1) 1 [1],
  mz_qc (.bipush 40) 2 (40),
  none,
  mz_qa (.if_icmp .ne 8) 3 [16],
  none,
  none,
  mz_qa (.aload_n 0) 1 [0],
  mz_qa (.invokevirtual 49) 3 [5, 53, 1, 1, 0, 1, 0, 454],
  none,
  none,
  mz_qa .ireturn 1 [0],
  mz_qa (.iload_n 1) 1 [1],
  mz_qc (.bipush 101) 2 (101),
  none,
  mz_qa (.if_icmp .eq 21) 3 [40],
  none,
  none,
  mz_qa (.iload_n 1) 1 [1],
  mz_qc (.bipush 116) 2 (116),
  none,
  mz_qa (.if_icmp .eq 15) 3 [40],
  none,
  none,
  mz_qa (.iload_n 1) 1 [1],
  mz_qc (.bipush 115) 2 (115),
  none,
  mz_qa (.if_icmp .eq 9) 3 [40],
  none,
  none,
  mz_qa (.iload_n 1) 1 [1],
  mz_qc (.bipush 113) 2 (113),
  none,
  mz_qa (.if_icmp .ne 9) 3 [46],
  none,
  none,
  mz_qa (.aload_n 0) 1 [0],
  mz_qa (.iload_n 1) 1 [1],
  mz_qa (.invokevirtual 52) 3 [5, 54, 2, 1, 0, 4, 0, 466],
  none,
  none,
  mz_qa .ireturn 1 [0],
  mz_qa (.aload_n 0) 1 [0],
  mz_qa (.invokevirtual 55) 3 [5, 51, 1, 1, 0, 1, 0, 470],
  none,
  none,
  mz_qa (.ifCond .ne 5) 3 [55],
  none,
  none,
  mz_qc (.iconst 0) 1 (0),
  mz_qa .ireturn 1 [0],
  mz_qa (.aload_n 0) 1 [0],
  mz_qc (.bipush 48) 2 (48),
  none,
  mz_qa (.aload_n 0) 1 [0],
  mz_qa (.invokevirtual 59) 3 [5, 57, 1, 1, 0, 3, 0, 474],
  none,
  none,
  mz_qa (.invokevirtual 62) 3 [5, 59, 3, 0, 0, 3, 0, 462],
  none,
  none,
  mz_qc (.iconst 2) 1 (2),
  mz_qa .ireturn 1 [0]]
def tb_Tape_readOpen : mz_T := [mz_qa (.aload_n 0) 1 [0],
  mz_qa (.getfield 22) 3 [5, 3, 0, 178],
  none,
  none,
  mz_qc (.bipush 6) 2 (6),
  none,
  mz_qa (.if_icmp .lt 5) 3 [11],
  none,
  none,
  mz_qc (.iconst 0) 1 (0),
  mz_qa .ireturn 1 [0],
  mz_qa (.aload_n 0) 1 [0],
  mz_q .dup 1,
  mz_qa (.getfield 22) 3 [5, 3, 0, 178],
  none,
  none,
  mz_qc (.iconst 1) 1 (1),
  mz_q .iadd 1,
  mz_qa (.putfield 22) 3 [5, 3, 0, 0, 178],
  none,
  none,
  mz_qa (.aload_n 0) 1 [0],
  mz_qc (.bipush 40) 2 (40),
  none,
  mz_qc (.iconst 1) 1 (1),
  mz_qa (.invokevirtual 66) 3 [5, 58, 3, 1, 0, 3, 0, 458],
  none,
  none,
  mz_qa .ireturn 1 [0]]
def tb_Tape_readFamily : mz_T := [mz_qa (.aload_n 0) 1 [0],
  mz_q .dup 1,
  mz_qa (.getfield 19) 3 [5, 2, 0, 177],
  none,
  none,
  mz_qc (.iconst 1) 1 (1),
  mz_q .iadd 1,
  mz_qa (.putfield 19) 3 [5, 2, 0, 0, 177],
  none,
  none,
  mz_qa (.aload_n 0) 1 [0],
  mz_qa (.invokevirtual 34) 3 [5, 50, 1, 0, 0, 2, 0, 442],
  none,
  none,
  mz_qa (.aload_n 0) 1 [0],
  mz_qa (.invokevirtual 46) 3 [5, 49, 1, 1, 0, 1, 0, 446],
  none,
  none,
  mz_qc (.bipush 40) 2 (40),
  none,
  mz_qa (.if_icmp .eq 5) 3 [25],
  none,
  none,
  mz_qc (.iconst 0) 1 (0),
  mz_qa .ireturn 1 [0],
  mz_qa (.aload_n 0) 1 [0],
  mz_q .dup 1,
  mz_qa (.getfield 19) 3 [5, 2, 0, 177],
  none,
  none,
  mz_qc (.iconst 1) 1 (1),
  mz_q .iadd 1,
  mz_qa (.putfield 19) 3 [5, 2, 0, 0, 177],
  none,
  none,
  mz_qa (.aload_n 0) 1 [0],
  mz_qa (.invokevirtual 34) 3 [5, 50, 1, 0, 0, 2, 0, 442],
  none,
  none,
  mz_qa (.aload_n 0) 1 [0],
  mz_qa (.invokevirtual 55) 3 [5, 51, 1, 1, 0, 1, 0, 470],
  none,
  none,
  mz_qa (.ifCond .ne 5) 3 [48],
  none,
  none,
  mz_qc (.iconst 0) 1 (0),
  mz_qa .ireturn 1 [0],
  mz_qa (.aload_n 0) 1 [0],
  mz_qa (.getfield 19) 3 [5, 2, 0, 177],
  none,
  none,
  mz_qa (.istore_n 2) 1 [2],
  mz_qa (.aload_n 0) 1 [0],
  mz_qa (.invokevirtual 59) 3 [5, 57, 1, 1, 0, 3, 0, 474],
  none,
  none,
  mz_qa (.istore_n 3) 1 [3],
  mz_qa (.iload_n 1) 1 [1],
  mz_qa (.invokestatic 70) 3 [1, 62, 1, 1, 0, 1, 0, 478],
  none,
  none,
  mz_qa (.iload_n 3) 1 [3],
  mz_qa (.invokestatic 73) 3 [1, 93, 2, 1, 0, 2, 1, 481],
  none,
  none,
  mz_qa (.ifCond .ne 10) 3 [76],
  none,
  none,
  mz_qa (.aload_n 0) 1 [0],
  mz_qa (.iload_n 2) 1 [2],
  mz_qa (.putfield 19) 3 [5, 2, 0, 0, 177],
  none,
  none,
  mz_qc (.iconst 0) 1 (0),
  mz_qa .ireturn 1 [0],
  mz_qa (.aload_n 0) 1 [0],
  mz_qa (.invokevirtual 34) 3 [5, 50, 1, 0, 0, 2, 0, 442],
  none,
  none,
  mz_qa (.aload_n 0) 1 [0],
  mz_qa (.invokevirtual 46) 3 [5, 49, 1, 1, 0, 1, 0, 446],
  none,
  none,
  mz_qc (.bipush 41) 2 (41),
  none,
  mz_qa (.if_icmp .eq 5) 3 [91],
  none,
  none,
  mz_qc (.iconst 0) 1 (0),
  mz_qa .ireturn 1 [0],
  mz_qa (.aload_n 0) 1 [0],
  mz_q .dup 1,
  mz_qa (.getfield 19) 3 [5, 2, 0, 177],
  none,
  none,
  mz_qc (.iconst 1) 1 (1),
  mz_q .iadd 1,
  mz_qa (.putfield 19) 3 [5, 2, 0, 0, 177],
  none,
  none,
  mz_qa (.aload_n 0) 1 [0],
  mz_qa (.iload_n 1) 1 [1],
  mz_qa (.iload_n 3) 1 [3],
  mz_qa (.invokevirtual 62) 3 [5, 59, 3, 0, 0, 3, 0, 462],
  none,
  none,
  mz_qc (.iconst 2) 1 (2),
  mz_qa .ireturn 1 [0]]
def tb_Tape_readBehindAtom : mz_T := [mz_qa (.aload_n 0) 1 [0],
  mz_qa (.invokevirtual 46) 3 [5, 49, 1, 1, 0, 1, 0, 446],
  none,
  none,
  mz_qa (.istore_n 2) 1 [2],
  mz_qa (.iload_n 2) 1 [2],
  mz_qc (.bipush 94) 2 (94),
  none,
  mz_qa (.if_icmp .ne 13) 3 [21],
  none,
  none,
  mz_qa (.iload_n 1) 1 [1],
  mz_qc (.iconst 2) 1 (2),
  mz_qa (.if_icmp .ne 8) 3 [21],
  none,
  none,
  mz_qa (.aload_n 0) 1 [0],
  mz_qa (.invokevirtual 77) 3 [5, 56, 1, 1, 0, 2, 0, 486],
  none,
  none,
  mz_qa .ireturn 1 [0],
  mz_qa (.iload_n 2) 1 [2],
  mz_qc (.bipush 43) 2 (43),
  none,
  mz_qa (.if_icmp .eq 21) 3 [45],
  none,
  none,
  mz_qa (.iload_n 2) 1 [2],
  mz_qc (.bipush 45) 2 (45),
  none,
  mz_qa (.if_icmp .eq 15) 3 [45],
  none,
  none,
  mz_qa (.iload_n 2) 1 [2],
  mz_qc (.bipush 42) 2 (42),
  none,
  mz_qa (.if_icmp .eq 9) 3 [45],
  none,
  none,
  mz_qa (.iload_n 2) 1 [2],
  mz_qc (.bipush 47) 2 (47),
  none,
  mz_qa (.if_icmp .ne 10) 3 [52],
  none,
  none,
  mz_qa (.aload_n 0) 1 [0],
  mz_qa (.iload_n 2) 1 [2],
  mz_qc (.iconst 1) 1 (1),
  mz_qa (.invokevirtual 66) 3 [5, 58, 3, 1, 0, 3, 0, 458],
  none,
  none,
  mz_qa .ireturn 1 [0],
  mz_qa (.iload_n 2) 1 [2],
  mz_qc (.bipush 41) 2 (41),
  none,
  mz_qa (.if_icmp .ne 27) 3 [82],
  none,
  none,
  mz_qa (.aload_n 0) 1 [0],
  mz_qa (.getfield 22) 3 [5, 3, 0, 178],
  none,
  none,
  mz_qa (.ifCond .le 20) 3 [82],
  none,
  none,
  mz_qa (.aload_n 0) 1 [0],
  mz_q .dup 1,
  mz_qa (.getfield 22) 3 [5, 3, 0, 178],
  none,
  none,
  mz_qc (.iconst 1) 1 (1),
  mz_q .isub 1,
  mz_qa (.putfield 22) 3 [5, 3, 0, 0, 178],
  none,
  none,
  mz_qa (.aload_n 0) 1 [0],
  mz_qa (.iload_n 2) 1 [2],
  mz_qc (.iconst 2) 1 (2),
  mz_qa (.invokevirtual 66) 3 [5, 58, 3, 1, 0, 3, 0, 458],
  none,
  none,
  mz_qa .ireturn 1 [0],
  mz_qc (.iconst 0) 1 (0),
  mz_qa .ireturn 1 [0]]
def tb_Tape_readFigure : mz_T := [mz_qa (.aload_n 0) 1 [0],
  mz_q .dup 1,
  mz_qa (.getfield 19) 3 [5, 2, 0, 177],
  none,
  none,
  mz_qc (.iconst 1) 1 (1),
  mz_q .iadd 1,
  mz_qa (.putfield 19) 3 [5, 2, 0, 0, 177],
  none,
  none,
  mz_qa (.aload_n 0) 1 [0],
  mz_qa (.invokevirtual 34) 3 [5, 50, 1, 0, 0, 2, 0, 442],
  none,
  none,
  mz_qa (.aload_n 0) 1 [0],
  mz_qa (.invokevirtual 46) 3 [5, 49, 1, 1, 0, 1, 0, 446],
  none,
  none,
  mz_qa (.istore_n 1) 1 [1],
  mz_qa (.iload_n 1) 1 [1],
  mz_qc (.bipush 48) 2 (48),
  none,
  mz_qa (.if_icmp .lt 9) 3 [31],
  none,
  none,
  mz_qa (.iload_n 1) 1 [1],
  mz_qc (.bipush 56) 2 (56),
  none,
  mz_qa (.if_icmp .le 5) 3 [33],
  none,
  none,
  mz_qc (.iconst 0) 1 (0),
  mz_qa .ireturn 1 [0],
  mz_qa (.aload_n 0) 1 [0],
  mz_q .dup 1,
  mz_qa (.getfield 19) 3 [5, 2, 0, 177],
  none,
  none,
  mz_qc (.iconst 1) 1 (1),
  mz_q .iadd 1,
  mz_qa (.putfield 19) 3 [5, 2, 0, 0, 177],
  none,
  none,
  mz_qa (.aload_n 0) 1 [0],
  mz_qc (.bipush 94) 2 (94),
  none,
  mz_qa (.iload_n 1) 1 [1],
  mz_qc (.bipush 48) 2 (48),
  none,
  mz_q .isub 1,
  mz_qa (.invokevirtual 62) 3 [5, 59, 3, 0, 0, 3, 0, 462],
  none,
  none,
  mz_qc (.iconst 3) 1 (3),
  mz_qa .ireturn 1 [0]]
def tb_Tape_readNumber : mz_T := [mz_qc (.iconst 0) 1 (0),
  mz_qa (.istore_n 1) 1 [1],
  mz_qc (.iconst 0) 1 (0),
  mz_qk (.istore_n 2) 1 (0) [2] [] (none) (some [0, 1, 2]),
  mz_qa (.iload_n 2) 1 [2],
  mz_qc (.iconst 2) 1 (2),
  mz_qa (.if_icmp .ge 39) 3 [45],
  none,
  none,
  mz_qa (.aload_n 0) 1 [0],
  mz_qa (.invokevirtual 55) 3 [5, 51, 1, 1, 0, 1, 0, 470],
  none,
  none,
  mz_qa (.ifCond .eq 32) 3 [45],
  none,
  none,
  mz_qc (.bipush 10) 2 (10),
  none,
  mz_qa (.iload_n 1) 1 [1],
  mz_q .imul 1,
  mz_qa (.aload_n 0) 1 [0],
  mz_qa (.invokevirtual 46) 3 [5, 49, 1, 1, 0, 1, 0, 446],
  none,
  none,
  mz_q .iadd 1,
  mz_qc (.bipush 48) 2 (48),
  none,
  mz_q .isub 1,
  mz_qa (.istore_n 1) 1 [1],
  mz_qa (.aload_n 0) 1 [0],
  mz_q .dup 1,
  mz_qa (.getfield 19) 3 [5, 2, 0, 177],
  none,
  none,
  mz_qc (.iconst 1) 1 (1),
  mz_q .iadd 1,
  mz_qa (.putfield 19) 3 [5, 2, 0, 0, 177],
  none,
  none,
  mz_qk (.iinc 2 1) 3 (1) [2] [] (none) (none),
  none,
  none,
  mz_qk (.goto (-38)) 3 (0) [4] [] (some [0, 1, 2]) (none),
  none,
  none,
  mz_qa (.iload_n 1) 1 [1],
  mz_qa .ireturn 1 [0]]
def tb_Tape_pass : mz_T := [mz_qa (.aload_n 0) 1 [0],
  mz_q .dup 1,
  mz_qa (.getfield 19) 3 [5, 2, 0, 177],
  none,
  none,
  mz_qc (.iconst 1) 1 (1),
  mz_q .iadd 1,
  mz_qa (.putfield 19) 3 [5, 2, 0, 0, 177],
  none,
  none,
  mz_qa (.aload_n 0) 1 [0],
  mz_qa (.iload_n 1) 1 [1],
  mz_qc (.iconst 0) 1 (0),
  mz_qa (.invokevirtual 62) 3 [5, 59, 3, 0, 0, 3, 0, 462],
  none,
  none,
  mz_qa (.iload_n 2) 1 [2],
  mz_qa .ireturn 1 [0]]
def tb_Tape_note : mz_T := [mz_qa (.aload_n 0) 1 [0],
  mz_qa (.getfield 31) 3 [5, 6, 0, 181],
  none,
  none,
  mz_qa (.ifCond .lt 45) 3 [49],
  none,
  none,
  mz_qa (.aload_n 0) 1 [0],
  mz_qa (.getfield 31) 3 [5, 6, 0, 181],
  none,
  none,
  mz_qa (.aload_n 0) 1 [0],
  mz_qa (.getfield 25) 3 [5, 4, 0, 179],
  none,
  none,
  mz_q .arraylength 1,
  mz_qa (.if_icmp .ge 33) 3 [49],
  none,
  none,
  mz_qa (.aload_n 0) 1 [0],
  mz_qa (.getfield 25) 3 [5, 4, 0, 179],
  none,
  none,
  mz_qa (.aload_n 0) 1 [0],
  mz_qa (.getfield 31) 3 [5, 6, 0, 181],
  none,
  none,
  mz_qa (.iload_n 1) 1 [1],
  mz_q .iastore 1,
  mz_qa (.aload_n 0) 1 [0],
  mz_qa (.getfield 28) 3 [5, 5, 0, 180],
  none,
  none,
  mz_qa (.aload_n 0) 1 [0],
  mz_qa (.getfield 31) 3 [5, 6, 0, 181],
  none,
  none,
  mz_qa (.iload_n 2) 1 [2],
  mz_q .iastore 1,
  mz_qa (.aload_n 0) 1 [0],
  mz_q .dup 1,
  mz_qa (.getfield 31) 3 [5, 6, 0, 181],
  none,
  none,
  mz_qc (.iconst 1) 1 (1),
  mz_q .iadd 1,
  mz_qa (.putfield 31) 3 [5, 6, 0, 0, 181],
  none,
  none,
  mz_q .return_ 1]
def tb_Tape_signAt : mz_T := [mz_qa (.iload_n 1) 1 [1],
  mz_qa (.ifCond .lt 29) 3 [30],
  none,
  none,
  mz_qa (.iload_n 1) 1 [1],
  mz_qa (.aload_n 0) 1 [0],
  mz_qa (.getfield 31) 3 [5, 6, 0, 181],
  none,
  none,
  mz_qa (.if_icmp .ge 21) 3 [30],
  none,
  none,
  mz_qa (.iload_n 1) 1 [1],
  mz_qa (.aload_n 0) 1 [0],
  mz_qa (.getfield 25) 3 [5, 4, 0, 179],
  none,
  none,
  mz_q .arraylength 1,
  mz_qa (.if_icmp .ge 12) 3 [30],
  none,
  none,
  mz_qa (.aload_n 0) 1 [0],
  mz_qa (.getfield 25) 3 [5, 4, 0, 179],
  none,
  none,
  mz_qa (.iload_n 1) 1 [1],
  mz_q .iaload 1,
  mz_qa (.goto 4) 3 [31],
  none,
  none,
  mz_qc (.iconst 0) 1 (0),
  mz_qa .ireturn 1 [0]]
def tb_Tape_valueAt : mz_T := [mz_qa (.iload_n 1) 1 [1],
  mz_qa (.ifCond .lt 29) 3 [30],
  none,
  none,
  mz_qa (.iload_n 1) 1 [1],
  mz_qa (.aload_n 0) 1 [0],
  mz_qa (.getfield 31) 3 [5, 6, 0, 181],
  none,
  none,
  mz_qa (.if_icmp .ge 21) 3 [30],
  none,
  none,
  mz_qa (.iload_n 1) 1 [1],
  mz_qa (.aload_n 0) 1 [0],
  mz_qa (.getfield 28) 3 [5, 5, 0, 180],
  none,
  none,
  mz_q .arraylength 1,
  mz_qa (.if_icmp .ge 12) 3 [30],
  none,
  none,
  mz_qa (.aload_n 0) 1 [0],
  mz_qa (.getfield 28) 3 [5, 5, 0, 180],
  none,
  none,
  mz_qa (.iload_n 1) 1 [1],
  mz_q .iaload 1,
  mz_qa (.goto 4) 3 [31],
  none,
  none,
  mz_qc (.iconst 0) 1 (0),
  mz_qa .ireturn 1 [0]]
def tb_Tape_kindOf : mz_T := [mz_qa (.iload_n 0) 1 [0],
  mz_qk (.lookupswitch 41 #[(101, 35), (115, 39), (116, 37)]) 35 (0) [42] [(101, 36), (115, 40), (116, 38)] (none) (none),
  none,
  none,
  none,
  none,
  none,
  none,
  none,
  none,
  none,
  none,
  none,
  none,
  none,
  none,
  none,
  none,
  none,
  none,
  none,
  none,
  none,
  none,
  none,
  none,
  none,
  none,
  none,
  none,
  none,
  none,
  none,
  none,
  none,
  none,
  mz_qc (.iconst 3) 1 (3),
  mz_qa .ireturn 1 [0],
  mz_qc (.iconst 1) 1 (1),
  mz_qa .ireturn 1 [0],
  mz_qc (.iconst 2) 1 (2),
  mz_qa .ireturn 1 [0],
  mz_qc (.iconst 4) 1 (4),
  mz_qa .ireturn 1 [0]]
def tb_ES_make : mz_T := [mz_qa (.iload_n 1) 1 [1],
  mz_qa (.invokestatic 66) 3 [1, 89, 1, 1, 0, 1, 0, 301],
  none,
  none,
  mz_qa (.ifCond .eq 11) 3 [15],
  none,
  none,
  mz_qa (.iload_n 2) 1 [2],
  mz_qa (.iload_n 3) 1 [3],
  mz_qa (.invokestatic 70) 3 [1, 93, 2, 1, 0, 2, 0, 304],
  none,
  none,
  mz_qa (.ifCond .ne 6) 3 [18],
  none,
  none,
  mz_qk (.ldc 74) 2 (-1000001) [307] [] (none) (none),
  none,
  mz_qa .ireturn 1 [0],
  mz_qa (.aload_n 0) 1 [0],
  mz_qa (.getfield 58) 3 [6, 8, 0, 274],
  none,
  none,
  mz_qa (.iload_n 2) 1 [2],
  mz_qa (.iload_n 3) 1 [3],
  mz_qa (.aload_n 0) 1 [0],
  mz_qa (.getfield 10) 3 [6, 0, 0, 266],
  none,
  none,
  mz_qa (.getfield 75) 3 [4, 1, 1, 138],
  none,
  none,
  mz_qa (.invokevirtual 79) 3 [3, 35, 4, 0, 0, 6, 1, 308],
  none,
  none,
  mz_qa (.aload_n 0) 1 [0],
  mz_qa (.iload_n 1) 1 [1],
  mz_qa (.aload_n 0) 1 [0],
  mz_qa (.getfield 58) 3 [6, 8, 0, 274],
  none,
  none,
  mz_qa (.invokevirtual 83) 3 [6, 96, 3, 1, 0, 3, 0, 327],
  none,
  none,
  mz_qa .ireturn 1 [0]]
def tb_ES_join : mz_T := [mz_qa (.iload_n 1) 1 [1],
  mz_qa (.invokestatic 66) 3 [1, 89, 1, 1, 0, 1, 0, 301],
  none,
  none,
  mz_qa (.ifCond .eq 25) 3 [29],
  none,
  none,
  mz_qa (.iload_n 2) 1 [2],
  mz_qa (.invokestatic 66) 3 [1, 89, 1, 1, 0, 1, 0, 301],
  none,
  none,
  mz_qa (.ifCond .eq 18) 3 [29],
  none,
  none,
  mz_qa (.iload_n 3) 1 [3],
  mz_qa (.invokestatic 66) 3 [1, 89, 1, 1, 0, 1, 0, 301],
  none,
  none,
  mz_qa (.ifCond .eq 11) 3 [29],
  none,
  none,
  mz_qa (.iload 4) 2 [4],
  none,
  mz_qa (.invokestatic 66) 3 [1, 89, 1, 1, 0, 1, 0, 301],
  none,
  none,
  mz_qa (.ifCond .ne 6) 3 [32],
  none,
  none,
  mz_qk (.ldc 74) 2 (-1000001) [307] [] (none) (none),
  none,
  mz_qa .ireturn 1 [0],
  mz_qa (.aload_n 0) 1 [0],
  mz_qa (.getfield 10) 3 [6, 0, 0, 266],
  none,
  none,
  mz_qa (.iload_n 3) 1 [3],
  mz_qa (.invokevirtual 87) 3 [4, 44, 2, 1, 0, 2, 1, 355],
  none,
  none,
  mz_qa (.ifCond .ne 15) 3 [55],
  none,
  none,
  mz_qa (.aload_n 0) 1 [0],
  mz_qa (.getfield 10) 3 [6, 0, 0, 266],
  none,
  none,
  mz_qa (.iload 4) 2 [4],
  none,
  mz_qa (.invokevirtual 87) 3 [4, 44, 2, 1, 0, 2, 1, 355],
  none,
  none,
  mz_qa (.ifCond .eq 6) 3 [58],
  none,
  none,
  mz_qk (.ldc 90) 2 (-1000011) [360] [] (none) (none),
  none,
  mz_qa .ireturn 1 [0],
  mz_qa (.aload_n 0) 1 [0],
  mz_qa (.getfield 58) 3 [6, 8, 0, 274],
  none,
  none,
  mz_qa (.iload_n 2) 1 [2],
  mz_qa (.aload_n 0) 1 [0],
  mz_qa (.getfield 10) 3 [6, 0, 0, 266],
  none,
  none,
  mz_qa (.getfield 91) 3 [4, 0, 1, 136],
  none,
  none,
  mz_qa (.iload_n 3) 1 [3],
  mz_q .aaload 1,
  mz_qa (.aload_n 0) 1 [0],
  mz_qa (.getfield 10) 3 [6, 0, 0, 266],
  none,
  none,
  mz_qa (.getfield 91) 3 [4, 0, 1, 136],
  none,
  none,
  mz_qa (.iload 4) 2 [4],
  none,
  mz_q .aaload 1,
  mz_qa (.invokevirtual 95) 3 [3, 36, 4, 1, 0, 4, 1, 361],
  none,
  none,
  mz_qa (.istore 5) 2 [5],
  none,
  mz_qa (.iload 5) 2 [5],
  none,
  mz_qa (.ifCond .eq 8) 3 [97],
  none,
  none,
  mz_qa (.iload 5) 2 [5],
  none,
  mz_qa (.goto 12) 3 [106],
  none,
  none,
  mz_qa (.aload_n 0) 1 [0],
  mz_qa (.iload_n 1) 1 [1],
  mz_qa (.aload_n 0) 1 [0],
  mz_qa (.getfield 58) 3 [6, 8, 0, 274],
  none,
  none,
  mz_qa (.invokevirtual 83) 3 [6, 96, 3, 1, 0, 3, 0, 327],
  none,
  none,
  mz_qa .ireturn 1 [0]]
def tb_ES_change : mz_T := [mz_qa (.iload_n 1) 1 [1],
  mz_qa (.invokestatic 66) 3 [1, 89, 1, 1, 0, 1, 0, 301],
  none,
  none,
  mz_qa (.ifCond .eq 11) 3 [15],
  none,
  none,
  mz_qa (.iload_n 2) 1 [2],
  mz_qa (.iload_n 3) 1 [3],
  mz_qa (.invokestatic 99) 3 [1, 94, 2, 1, 0, 2, 0, 392],
  none,
  none,
  mz_qa (.ifCond .ne 6) 3 [18],
  none,
  none,
  mz_qk (.ldc 74) 2 (-1000001) [307] [] (none) (none),
  none,
  mz_qa .ireturn 1 [0],
  mz_qa (.aload_n 0) 1 [0],
  mz_qa (.getfield 10) 3 [6, 0, 0, 266],
  none,
  none,
  mz_qa (.iload_n 1) 1 [1],
  mz_qa (.invokevirtual 87) 3 [4, 44, 2, 1, 0, 2, 1, 355],
  none,
  none,
  mz_qa (.ifCond .eq 6) 3 [32],
  none,
  none,
  mz_qk (.ldc 90) 2 (-1000011) [360] [] (none) (none),
  none,
  mz_qa .ireturn 1 [0],
  mz_qa (.aload_n 0) 1 [0],
  mz_qa (.getfield 10) 3 [6, 0, 0, 266],
  none,
  none,
  mz_qa (.getfield 91) 3 [4, 0, 1, 136],
  none,
  none,
  mz_qa (.iload_n 1) 1 [1],
  mz_q .aaload 1,
  mz_qa (.astore 4) 2 [4],
  none,
  mz_qa (.iload_n 2) 1 [2],
  mz_qc (.iconst 4) 1 (4),
  mz_qa (.if_icmp .ne 15) 3 [60],
  none,
  none,
  mz_qa (.iload_n 3) 1 [3],
  mz_qa (.aload 4) 2 [4],
  none,
  mz_qa (.getfield 102) 3 [3, 1, 1, 127],
  none,
  none,
  mz_qa (.if_icmp .le 6) 3 [60],
  none,
  none,
  mz_qk (.ldc 74) 2 (-1000001) [307] [] (none) (none),
  none,
  mz_qa .ireturn 1 [0],
  mz_qa (.iload_n 2) 1 [2],
  mz_qc (.iconst 5) 1 (5),
  mz_qa (.if_icmp .ne 20) 3 [82],
  none,
  none,
  mz_qa (.aload_n 0) 1 [0],
  mz_qa (.getfield 58) 3 [6, 8, 0, 274],
  none,
  none,
  mz_qa (.aload 4) 2 [4],
  none,
  mz_qa (.iload_n 3) 1 [3],
  mz_qa (.aload_n 0) 1 [0],
  mz_qa (.getfield 62) 3 [6, 9, 0, 275],
  none,
  none,
  mz_qa (.invokevirtual 105) 3 [3, 40, 4, 1, 0, 6, 1, 401],
  none,
  none,
  mz_qa (.goto 14) 3 [93],
  none,
  none,
  mz_qa (.aload_n 0) 1 [0],
  mz_qa (.getfield 58) 3 [6, 8, 0, 274],
  none,
  none,
  mz_qa (.iload_n 2) 1 [2],
  mz_qa (.iload_n 3) 1 [3],
  mz_qa (.aload 4) 2 [4],
  none,
  mz_qa (.invokevirtual 109) 3 [3, 41, 4, 1, 0, 7, 1, 406],
  none,
  none,
  mz_qa (.istore 5) 2 [5],
  none,
  mz_qa (.iload 5) 2 [5],
  none,
  mz_qa (.ifCond .eq 8) 3 [105],
  none,
  none,
  mz_qa (.iload 5) 2 [5],
  none,
  mz_qa (.goto 12) 3 [114],
  none,
  none,
  mz_qa (.aload_n 0) 1 [0],
  mz_qa (.iload_n 1) 1 [1],
  mz_qa (.aload_n 0) 1 [0],
  mz_qa (.getfield 58) 3 [6, 8, 0, 274],
  none,
  none,
  mz_qa (.invokevirtual 83) 3 [6, 96, 3, 1, 0, 3, 0, 327],
  none,
  none,
  mz_qa .ireturn 1 [0]]
def tb_ES_out : mz_T := [mz_qa (.iload_n 1) 1 [1],
  mz_qa (.invokestatic 66) 3 [1, 89, 1, 1, 0, 1, 0, 301],
  none,
  none,
  mz_qa (.ifCond .ne 6) 3 [10],
  none,
  none,
  mz_qk (.ldc 74) 2 (-1000001) [307] [] (none) (none),
  none,
  mz_qa .ireturn 1 [0],
  mz_qa (.aload_n 0) 1 [0],
  mz_qa (.getfield 10) 3 [6, 0, 0, 266],
  none,
  none,
  mz_qa (.iload_n 1) 1 [1],
  mz_qa (.invokevirtual 87) 3 [4, 44, 2, 1, 0, 2, 1, 355],
  none,
  none,
  mz_qa (.ifCond .eq 6) 3 [24],
  none,
  none,
  mz_qk (.ldc 90) 2 (-1000011) [360] [] (none) (none),
  none,
  mz_qa .ireturn 1 [0],
  mz_qa (.aload_n 0) 1 [0],
  mz_qa (.getfield 10) 3 [6, 0, 0, 266],
  none,
  none,
  mz_qa (.getfield 91) 3 [4, 0, 1, 136],
  none,
  none,
  mz_qa (.iload_n 1) 1 [1],
  mz_q .aaload 1,
  mz_qa (.getfield 102) 3 [3, 1, 1, 127],
  none,
  none,
  mz_qa (.istore_n 2) 1 [2],
  mz_qa (.aload_n 0) 1 [0],
  mz_qa (.getfield 19) 3 [6, 1, 0, 267],
  none,
  none,
  mz_qa (.aload_n 0) 1 [0],
  mz_qa (.getfield 10) 3 [6, 0, 0, 266],
  none,
  none,
  mz_qa (.invokevirtual 113) 3 [2, 28, 2, 0, 0, 2, 1, 331],
  none,
  none,
  mz_qa (.aload_n 0) 1 [0],
  mz_qa (.getfield 10) 3 [6, 0, 0, 266],
  none,
  none,
  mz_qa (.getfield 91) 3 [4, 0, 1, 136],
  none,
  none,
  mz_qa (.iload_n 1) 1 [1],
  mz_q .aaload 1,
  mz_qc (.iconst 0) 1 (0),
  mz_qa (.invokevirtual 117) 3 [3, 31, 2, 0, 0, 3, 1, 419],
  none,
  none,
  mz_qa (.iload_n 2) 1 [2],
  mz_qa .ireturn 1 [0]]
def tb_ES_length : mz_T := [mz_qa (.iload_n 1) 1 [1],
  mz_qc (.iconst 4) 1 (4),
  mz_qa (.if_icmp .lt 9) 3 [11],
  none,
  none,
  mz_qa (.iload_n 1) 1 [1],
  mz_qc (.bipush 40) 2 (40),
  none,
  mz_qa (.if_icmp .le 6) 3 [14],
  none,
  none,
  mz_qk (.ldc 74) 2 (-1000001) [307] [] (none) (none),
  none,
  mz_qa .ireturn 1 [0],
  mz_qa (.aload_n 0) 1 [0],
  mz_qa (.getfield 10) 3 [6, 0, 0, 266],
  none,
  none,
  mz_qa (.getfield 75) 3 [4, 1, 1, 138],
  none,
  none,
  mz_qa (.istore_n 2) 1 [2],
  mz_qa (.iload_n 1) 1 [1],
  mz_qa (.iload_n 2) 1 [2],
  mz_qa (.if_icmp .ne 6) 3 [30],
  none,
  none,
  mz_qk (.ldc 121) 2 (-1000002) [424] [] (none) (none),
  none,
  mz_qa .ireturn 1 [0],
  mz_qa (.aload_n 0) 1 [0],
  mz_qa (.getfield 19) 3 [6, 1, 0, 267],
  none,
  none,
  mz_qa (.aload_n 0) 1 [0],
  mz_qa (.getfield 10) 3 [6, 0, 0, 266],
  none,
  none,
  mz_qa (.invokevirtual 113) 3 [2, 28, 2, 0, 0, 2, 1, 331],
  none,
  none,
  mz_qa (.aload_n 0) 1 [0],
  mz_qa (.getfield 10) 3 [6, 0, 0, 266],
  none,
  none,
  mz_qa (.iload_n 1) 1 [1],
  mz_qa (.putfield 75) 3 [4, 1, 0, 1, 138],
  none,
  none,
  mz_qa (.iload_n 2) 1 [2],
  mz_qa .ireturn 1 [0]]
def tb_ES_type : mz_T := [mz_qa (.iload_n 1) 1 [1],
  mz_qc (.bipush 32) 2 (32),
  none,
  mz_qa (.if_icmp .lt 9) 3 [12],
  none,
  none,
  mz_qa (.iload_n 1) 1 [1],
  mz_qc (.bipush 126) 2 (126),
  none,
  mz_qa (.if_icmp .le 6) 3 [15],
  none,
  none,
  mz_qk (.ldc 74) 2 (-1000001) [307] [] (none) (none),
  none,
  mz_qa .ireturn 1 [0],
  mz_qa (.aload_n 0) 1 [0],
  mz_qa (.getfield 36) 3 [6, 5, 0, 271],
  none,
  none,
  mz_qa (.iload_n 1) 1 [1],
  mz_qa (.invokevirtual 122) 3 [5, 47, 2, 1, 0, 2, 1, 429],
  none,
  none,
  mz_qa (.ifCond .eq 13) 3 [36],
  none,
  none,
  mz_qa (.aload_n 0) 1 [0],
  mz_qa (.getfield 36) 3 [6, 5, 0, 271],
  none,
  none,
  mz_qa (.getfield 125) 3 [5, 1, 1, 176],
  none,
  none,
  mz_qa (.goto 5) 3 [38],
  none,
  none,
  mz_qk (.ldc 126) 2 (-1000003) [433] [] (none) (none),
  none,
  mz_qa .ireturn 1 [0]]
def tb_ES_work : mz_T := [mz_qa (.iload_n 1) 1 [1],
  mz_qa (.invokestatic 66) 3 [1, 89, 1, 1, 0, 1, 0, 301],
  none,
  none,
  mz_qa (.ifCond .ne 6) 3 [10],
  none,
  none,
  mz_qk (.ldc 74) 2 (-1000001) [307] [] (none) (none),
  none,
  mz_qa .ireturn 1 [0],
  mz_qa (.aload_n 0) 1 [0],
  mz_qa (.getfield 36) 3 [6, 5, 0, 271],
  none,
  none,
  mz_qa (.invokevirtual 127) 3 [5, 48, 1, 1, 0, 3, 1, 438],
  none,
  none,
  mz_qa (.istore_n 2) 1 [2],
  mz_qa (.aload_n 0) 1 [0],
  mz_qa (.getfield 36) 3 [6, 5, 0, 271],
  none,
  none,
  mz_qc (.iconst 0) 1 (0),
  mz_qa (.putfield 125) 3 [5, 1, 0, 1, 176],
  none,
  none,
  mz_qa (.iload_n 2) 1 [2],
  mz_qa (.ifCond .eq 5) 3 [32],
  none,
  none,
  mz_qa (.iload_n 2) 1 [2],
  mz_qa .ireturn 1 [0],
  mz_qa (.aload_n 0) 1 [0],
  mz_qa (.getfield 45) 3 [6, 6, 0, 272],
  none,
  none,
  mz_qa (.aload_n 0) 1 [0],
  mz_qa (.getfield 10) 3 [6, 0, 0, 266],
  none,
  none,
  mz_qa (.getfield 75) 3 [4, 1, 1, 138],
  none,
  none,
  mz_qa (.invokevirtual 131) 3 [1, 19, 2, 0, 0, 2, 1, 491],
  none,
  none,
  mz_qa (.aload_n 0) 1 [0],
  mz_qa (.getfield 45) 3 [6, 6, 0, 272],
  none,
  none,
  mz_qc (.iconst 0) 1 (0),
  mz_qa (.invokevirtual 134) 3 [1, 20, 2, 1, 0, 5, 1, 495],
  none,
  none,
  mz_qa (.istore_n 3) 1 [3],
  mz_qa (.iload_n 3) 1 [3],
  mz_qa (.ifCond .eq 7) 3 [63],
  none,
  none,
  mz_qa (.iload_n 3) 1 [3],
  mz_qa (.goto 15) 3 [75],
  none,
  none,
  mz_qa (.aload_n 0) 1 [0],
  mz_qa (.iload_n 1) 1 [1],
  mz_qa (.aload_n 0) 1 [0],
  mz_qa (.getfield 45) 3 [6, 6, 0, 272],
  none,
  none,
  mz_qa (.invokevirtual 138) 3 [1, 18, 1, 3, 3, 1, 1, 539],
  none,
  none,
  mz_qa (.invokevirtual 83) 3 [6, 96, 3, 1, 0, 3, 0, 327],
  none,
  none,
  mz_qa .ireturn 1 [0]]
def tb_ES_drift : mz_T := [mz_qa (.iload_n 1) 1 [1],
  mz_qc (.iconst 1) 1 (1),
  mz_qa (.if_icmp .lt 9) 3 [11],
  none,
  none,
  mz_qa (.iload_n 1) 1 [1],
  mz_qc (.bipush 40) 2 (40),
  none,
  mz_qa (.if_icmp .le 6) 3 [14],
  none,
  none,
  mz_qk (.ldc 74) 2 (-1000001) [307] [] (none) (none),
  none,
  mz_qa .ireturn 1 [0],
  mz_qc (.iconst 0) 1 (0),
  mz_qk (.istore_n 2) 1 (0) [2] [] (none) (some [0, 1, 2]),
  mz_qa (.iload_n 2) 1 [2],
  mz_qa (.iload_n 1) 1 [1],
  mz_qa (.if_icmp .ge 27) 3 [45],
  none,
  none,
  mz_qa (.aload_n 0) 1 [0],
  mz_qa (.getfield 19) 3 [6, 1, 0, 267],
  none,
  none,
  mz_qa (.aload_n 0) 1 [0],
  mz_qa (.getfield 10) 3 [6, 0, 0, 266],
  none,
  none,
  mz_qa (.invokevirtual 113) 3 [2, 28, 2, 0, 0, 2, 1, 331],
  none,
  none,
  mz_qa (.aload_n 0) 1 [0],
  mz_qa (.getfield 10) 3 [6, 0, 0, 266],
  none,
  none,
  mz_qa (.invokevirtual 142) 3 [4, 46, 1, 0, 0, 2, 1, 547],
  none,
  none,
  mz_qk (.iinc 2 1) 3 (1) [2] [] (none) (none),
  none,
  none,
  mz_qk (.goto (-26)) 3 (0) [16] [] (some [0, 1, 2]) (none),
  none,
  none,
  mz_qa (.aload_n 0) 1 [0],
  mz_qa (.getfield 10) 3 [6, 0, 0, 266],
  none,
  none,
  mz_qa (.invokevirtual 145) 3 [4, 45, 1, 1, 0, 3, 1, 557],
  none,
  none,
  mz_qa .ireturn 1 [0]]
def tb_ES_undo : mz_T := [mz_qa (.aload_n 0) 1 [0],
  mz_qa (.getfield 19) 3 [6, 1, 0, 267],
  none,
  none,
  mz_qa (.aload_n 0) 1 [0],
  mz_qa (.getfield 10) 3 [6, 0, 0, 266],
  none,
  none,
  mz_qa (.invokevirtual 148) 3 [2, 29, 2, 1, 0, 2, 1, 565],
  none,
  none,
  mz_qa (.ifCond .eq 13) 3 [24],
  none,
  none,
  mz_qa (.aload_n 0) 1 [0],
  mz_qa (.getfield 19) 3 [6, 1, 0, 267],
  none,
  none,
  mz_qa (.getfield 152) 3 [2, 1, 1, 159],
  none,
  none,
  mz_qa (.goto 5) 3 [26],
  none,
  none,
  mz_qk (.ldc 155) 2 (-1000004) [569] [] (none) (none),
  none,
  mz_qa .ireturn 1 [0]]
def tb_ES_seed : mz_T := [mz_qa (.iload_n 1) 1 [1],
  mz_qa (.ifCond .ge 6) 3 [7],
  none,
  none,
  mz_qk (.ldc 74) 2 (-1000001) [307] [] (none) (none),
  none,
  mz_qa .ireturn 1 [0],
  mz_qa (.aload_n 0) 1 [0],
  mz_qa (.getfield 10) 3 [6, 0, 0, 266],
  none,
  none,
  mz_qa (.getfield 156) 3 [4, 2, 1, 140],
  none,
  none,
  mz_qa (.istore_n 2) 1 [2],
  mz_qa (.aload_n 0) 1 [0],
  mz_qa (.getfield 10) 3 [6, 0, 0, 266],
  none,
  none,
  mz_qa (.iload_n 1) 1 [1],
  mz_qa (.putfield 156) 3 [4, 2, 0, 1, 140],
  none,
  none,
  mz_qa (.iload_n 2) 1 [2],
  mz_qa .ireturn 1 [0]]
def tb_ES_term : mz_T := [mz_qa (.iload_n 1) 1 [1],
  mz_qa (.invokestatic 66) 3 [1, 89, 1, 1, 0, 1, 0, 301],
  none,
  none,
  mz_qa (.ifCond .eq 7) 3 [11],
  none,
  none,
  mz_qa (.iload_n 2) 1 [2],
  mz_qa (.ifCond .ge 6) 3 [14],
  none,
  none,
  mz_qk (.ldc 74) 2 (-1000001) [307] [] (none) (none),
  none,
  mz_qa .ireturn 1 [0],
  mz_qa (.aload_n 0) 1 [0],
  mz_qa (.getfield 10) 3 [6, 0, 0, 266],
  none,
  none,
  mz_qa (.iload_n 1) 1 [1],
  mz_qa (.invokevirtual 87) 3 [4, 44, 2, 1, 0, 2, 1, 355],
  none,
  none,
  mz_qa (.ifCond .eq 6) 3 [28],
  none,
  none,
  mz_qk (.ldc 90) 2 (-1000011) [360] [] (none) (none),
  none,
  mz_qa .ireturn 1 [0],
  mz_qa (.aload_n 0) 1 [0],
  mz_qa (.getfield 10) 3 [6, 0, 0, 266],
  none,
  none,
  mz_qa (.getfield 91) 3 [4, 0, 1, 136],
  none,
  none,
  mz_qa (.iload_n 1) 1 [1],
  mz_q .aaload 1,
  mz_qa (.astore_n 3) 1 [3],
  mz_qa (.iload_n 2) 1 [2],
  mz_qa (.aload_n 3) 1 [3],
  mz_qa (.getfield 102) 3 [3, 1, 1, 127],
  none,
  none,
  mz_qa (.if_icmp .ge 11) 3 [54],
  none,
  none,
  mz_qa (.aload_n 3) 1 [3],
  mz_qa (.iload_n 2) 1 [2],
  mz_qa (.invokevirtual 159) 3 [3, 32, 2, 1, 0, 2, 1, 578],
  none,
  none,
  mz_qa (.goto 5) 3 [56],
  none,
  none,
  mz_qk (.ldc 74) 2 (-1000001) [307] [] (none) (none),
  none,
  mz_qa .ireturn 1 [0]]
def tb_ES_count : mz_T := [mz_qa (.iload_n 1) 1 [1],
  mz_qk (.tableswitch 106 0 8 #[51, 59, 67, 67, 67, 67, 82, 90, 98]) 51 (0) [107] [(0, 52), (1, 60), (2, 68), (3, 68), (4, 68), (5, 68), (6, 83), (7, 91), (8, 99)] (none) (none),
  none,
  none,
  none,
  none,
  none,
  none,
  none,
  none,
  none,
  none,
  none,
  none,
  none,
  none,
  none,
  none,
  none,
  none,
  none,
  none,
  none,
  none,
  none,
  none,
  none,
  none,
  none,
  none,
  none,
  none,
  none,
  none,
  none,
  none,
  none,
  none,
  none,
  none,
  none,
  none,
  none,
  none,
  none,
  none,
  none,
  none,
  none,
  none,
  none,
  none,
  mz_qa (.aload_n 0) 1 [0],
  mz_qa (.getfield 10) 3 [6, 0, 0, 266],
  none,
  none,
  mz_qa (.getfield 75) 3 [4, 1, 1, 138],
  none,
  none,
  mz_qa .ireturn 1 [0],
  mz_qa (.aload_n 0) 1 [0],
  mz_qa (.getfield 10) 3 [6, 0, 0, 266],
  none,
  none,
  mz_qa (.invokevirtual 145) 3 [4, 45, 1, 1, 0, 3, 1, 557],
  none,
  none,
  mz_qa .ireturn 1 [0],
  mz_qa (.aload_n 0) 1 [0],
  mz_qa (.getfield 10) 3 [6, 0, 0, 266],
  none,
  none,
  mz_qa (.getfield 91) 3 [4, 0, 1, 136],
  none,
  none,
  mz_qa (.iload_n 1) 1 [1],
  mz_qc (.iconst 2) 1 (2),
  mz_q .isub 1,
  mz_q .aaload 1,
  mz_qa (.getfield 102) 3 [3, 1, 1, 127],
  none,
  none,
  mz_qa .ireturn 1 [0],
  mz_qa (.aload_n 0) 1 [0],
  mz_qa (.getfield 45) 3 [6, 6, 0, 272],
  none,
  none,
  mz_qa (.getfield 162) 3 [1, 8, 1, 215],
  none,
  none,
  mz_qa .ireturn 1 [0],
  mz_qa (.aload_n 0) 1 [0],
  mz_qa (.getfield 45) 3 [6, 6, 0, 272],
  none,
  none,
  mz_qa (.getfield 165) 3 [1, 9, 1, 217],
  none,
  none,
  mz_qa .ireturn 1 [0],
  mz_qa (.aload_n 0) 1 [0],
  mz_qa (.getfield 19) 3 [6, 1, 0, 267],
  none,
  none,
  mz_qa (.getfield 152) 3 [2, 1, 1, 159],
  none,
  none,
  mz_qa .ireturn 1 [0],
  mz_qk (.ldc 74) 2 (-1000001) [307] [] (none) (none),
  none,
  mz_qa .ireturn 1 [0]]
def tb_ES_first : mz_T := [mz_qa (.iload_n 1) 1 [1],
  mz_qa (.invokestatic 66) 3 [1, 89, 1, 1, 0, 1, 0, 301],
  none,
  none,
  mz_qa (.ifCond .eq 10) 3 [14],
  none,
  none,
  mz_qa (.iload_n 2) 1 [2],
  mz_qa (.invokestatic 66) 3 [1, 89, 1, 1, 0, 1, 0, 301],
  none,
  none,
  mz_qa (.ifCond .ne 6) 3 [17],
  none,
  none,
  mz_qk (.ldc 74) 2 (-1000001) [307] [] (none) (none),
  none,
  mz_qa .ireturn 1 [0],
  mz_qa (.aload_n 0) 1 [0],
  mz_qa (.getfield 10) 3 [6, 0, 0, 266],
  none,
  none,
  mz_qa (.iload_n 1) 1 [1],
  mz_qa (.invokevirtual 87) 3 [4, 44, 2, 1, 0, 2, 1, 355],
  none,
  none,
  mz_qa (.ifCond .ne 14) 3 [39],
  none,
  none,
  mz_qa (.aload_n 0) 1 [0],
  mz_qa (.getfield 10) 3 [6, 0, 0, 266],
  none,
  none,
  mz_qa (.iload_n 2) 1 [2],
  mz_qa (.invokevirtual 87) 3 [4, 44, 2, 1, 0, 2, 1, 355],
  none,
  none,
  mz_qa (.ifCond .eq 6) 3 [42],
  none,
  none,
  mz_qk (.ldc 90) 2 (-1000011) [360] [] (none) (none),
  none,
  mz_qa .ireturn 1 [0],
  mz_qa (.aload_n 0) 1 [0],
  mz_qa (.getfield 10) 3 [6, 0, 0, 266],
  none,
  none,
  mz_qa (.getfield 91) 3 [4, 0, 1, 136],
  none,
  none,
  mz_qa (.iload_n 1) 1 [1],
  mz_q .aaload 1,
  mz_qa (.aload_n 0) 1 [0],
  mz_qa (.getfield 10) 3 [6, 0, 0, 266],
  none,
  none,
  mz_qa (.getfield 91) 3 [4, 0, 1, 136],
  none,
  none,
  mz_qa (.iload_n 2) 1 [2],
  mz_q .aaload 1,
  mz_qa (.invokestatic 168) 3 [1, 97, 2, 1, 0, 4, 0, 587],
  none,
  none,
  mz_qa .ireturn 1 [0]]
def tb_ES_fits : mz_T := [mz_qa (.iload 4) 2 [4],
  none,
  mz_qc (.iconst 2) 1 (2),
  mz_qa (.if_icmp .lt 14) 3 [17],
  none,
  none,
  mz_qa (.iload 4) 2 [4],
  none,
  mz_qc (.bipush 9) 2 (9),
  none,
  mz_qa (.if_icmp .gt 7) 3 [17],
  none,
  none,
  mz_qc (.iconst 1) 1 (1),
  mz_qa (.goto 4) 3 [18],
  none,
  none,
  mz_qc (.iconst 0) 1 (0),
  mz_qa (.istore 6) 2 [6],
  none,
  mz_qa (.iload_n 1) 1 [1],
  mz_qa (.invokestatic 66) 3 [1, 89, 1, 1, 0, 1, 0, 301],
  none,
  none,
  mz_qa (.ifCond .eq 25) 3 [49],
  none,
  none,
  mz_qa (.iload_n 2) 1 [2],
  mz_qa (.iload_n 3) 1 [3],
  mz_qa (.invokestatic 172) 3 [1, 92, 2, 1, 0, 2, 0, 398],
  none,
  none,
  mz_qa (.ifCond .eq 17) 3 [49],
  none,
  none,
  mz_qa (.iload 6) 2 [6],
  none,
  mz_qa (.ifCond .eq 12) 3 [49],
  none,
  none,
  mz_qa (.iload 5) 2 [5],
  none,
  mz_qc (.iconst 1) 1 (1),
  mz_qa (.invokestatic 175) 3 [1, 90, 2, 1, 0, 2, 0, 395],
  none,
  none,
  mz_qa (.ifCond .ne 6) 3 [52],
  none,
  none,
  mz_qk (.ldc 74) 2 (-1000001) [307] [] (none) (none),
  none,
  mz_qa .ireturn 1 [0],
  mz_qa (.aload_n 0) 1 [0],
  mz_qa (.getfield 10) 3 [6, 0, 0, 266],
  none,
  none,
  mz_qa (.iload_n 1) 1 [1],
  mz_qa (.invokevirtual 87) 3 [4, 44, 2, 1, 0, 2, 1, 355],
  none,
  none,
  mz_qa (.ifCond .eq 6) 3 [66],
  none,
  none,
  mz_qk (.ldc 90) 2 (-1000011) [360] [] (none) (none),
  none,
  mz_qa .ireturn 1 [0],
  mz_qa (.aload_n 0) 1 [0],
  mz_qa (.getfield 10) 3 [6, 0, 0, 266],
  none,
  none,
  mz_qa (.getfield 91) 3 [4, 0, 1, 136],
  none,
  none,
  mz_qa (.iload_n 1) 1 [1],
  mz_q .aaload 1,
  mz_qa (.iload_n 2) 1 [2],
  mz_qa (.iload_n 3) 1 [3],
  mz_qa (.iload 4) 2 [4],
  none,
  mz_qa (.invokestatic 178) 3 [1, 98, 4, 1, 0, 5, 0, 595],
  none,
  none,
  mz_qa (.istore 7) 2 [7],
  none,
  mz_qa (.iload 5) 2 [5],
  none,
  mz_qc (.iconst 1) 1 (1),
  mz_qa (.if_icmp .ne 6) 3 [93],
  none,
  none,
  mz_qa (.iload 7) 2 [7],
  none,
  mz_qa .ireturn 1 [0],
  mz_qa (.iload 7) 2 [7],
  none,
  mz_qk (.ldc 155) 2 (-1000004) [569] [] (none) (none),
  none,
  mz_qa (.if_icmp .ne 7) 3 [104],
  none,
  none,
  mz_qc (.iconst 1) 1 (1),
  mz_qa (.goto 4) 3 [105],
  none,
  none,
  mz_qc (.iconst 0) 1 (0),
  mz_qa .ireturn 1 [0]]
def tb_ES_found : mz_T := [mz_qa (.iload_n 1) 1 [1],
  mz_qa (.invokestatic 66) 3 [1, 89, 1, 1, 0, 1, 0, 301],
  none,
  none,
  mz_qa (.ifCond .eq 11) 3 [15],
  none,
  none,
  mz_qa (.iload_n 2) 1 [2],
  mz_qa (.iload_n 3) 1 [3],
  mz_qa (.invokestatic 172) 3 [1, 92, 2, 1, 0, 2, 0, 398],
  none,
  none,
  mz_qa (.ifCond .ne 6) 3 [18],
  none,
  none,
  mz_qk (.ldc 74) 2 (-1000001) [307] [] (none) (none),
  none,
  mz_qa .ireturn 1 [0],
  mz_qa (.aload_n 0) 1 [0],
  mz_qa (.getfield 10) 3 [6, 0, 0, 266],
  none,
  none,
  mz_qa (.iload_n 1) 1 [1],
  mz_qa (.invokevirtual 87) 3 [4, 44, 2, 1, 0, 2, 1, 355],
  none,
  none,
  mz_qa (.ifCond .eq 6) 3 [32],
  none,
  none,
  mz_qk (.ldc 90) 2 (-1000011) [360] [] (none) (none),
  none,
  mz_qa .ireturn 1 [0],
  mz_qa (.aload_n 0) 1 [0],
  mz_qa (.getfield 10) 3 [6, 0, 0, 266],
  none,
  none,
  mz_qa (.getfield 91) 3 [4, 0, 1, 136],
  none,
  none,
  mz_qa (.iload_n 1) 1 [1],
  mz_q .aaload 1,
  mz_qa (.astore 4) 2 [4],
  none,
  mz_qa (.iload_n 2) 1 [2],
  mz_qk (.istore 5) 2 (0) [5] [] (none) (some [2, 3, 4, 5]),
  none,
  mz_qa (.iload 5) 2 [5],
  none,
  mz_qc (.bipush 8) 2 (8),
  none,
  mz_qa (.if_icmp .gt 89) 3 [139],
  none,
  none,
  mz_qa (.iload 5) 2 [5],
  none,
  mz_qa (.iload_n 2) 1 [2],
  mz_qa (.if_icmp .ne 7) 3 [63],
  none,
  none,
  mz_qa (.iload_n 3) 1 [3],
  mz_qa (.goto 4) 3 [64],
  none,
  none,
  mz_qc (.iconst 0) 1 (0),
  mz_qk (.istore 6) 2 (0) [6] [] (none) (some [2, 3, 4, 5, 6]),
  none,
  mz_qa (.iload 6) 2 [6],
  none,
  mz_qa (.iload 5) 2 [5],
  none,
  mz_qa (.if_icmp .ge 63) 3 [133],
  none,
  none,
  mz_qa (.iload 6) 2 [6],
  none,
  mz_qc (.iconst 2) 1 (2),
  mz_qa (.iload 5) 2 [5],
  none,
  mz_q .imul 1,
  mz_q .iadd 1,
  mz_qa (.aload 4) 2 [4],
  none,
  mz_qa (.getfield 102) 3 [3, 1, 1, 127],
  none,
  none,
  mz_qa (.if_icmp .ge 15) 3 [100],
  none,
  none,
  mz_qa (.aload 4) 2 [4],
  none,
  mz_qa (.iload 5) 2 [5],
  none,
  mz_qa (.iload 6) 2 [6],
  none,
  mz_qa (.invokestatic 182) 3 [1, 99, 3, 1, 0, 4, 0, 602],
  none,
  none,
  mz_qa (.goto 5) 3 [102],
  none,
  none,
  mz_qk (.ldc 155) 2 (-1000004) [569] [] (none) (none),
  none,
  mz_qa (.istore 7) 2 [7],
  none,
  mz_qa (.iload 7) 2 [7],
  none,
  mz_qk (.ldc 155) 2 (-1000004) [569] [] (none) (none),
  none,
  mz_qa (.if_icmp .eq 19) 3 [127],
  none,
  none,
  mz_qc (.sipush 1000) 3 (1000),
  none,
  none,
  mz_qa (.iload 5) 2 [5],
  none,
  mz_q .imul 1,
  mz_qc (.bipush 100) 2 (100),
  none,
  mz_qa (.iload 6) 2 [6],
  none,
  mz_q .imul 1,
  mz_q .iadd 1,
  mz_qa (.iload 7) 2 [7],
  none,
  mz_q .iadd 1,
  mz_qa .ireturn 1 [0],
  mz_qk (.iinc 6 1) 3 (1) [6] [] (none) (none),
  none,
  none,
  mz_qk (.goto (-64)) 3 (0) [66] [] (some [2, 3, 4, 5, 6]) (none),
  none,
  none,
  mz_qk (.iinc 5 1) 3 (1) [5] [] (none) (none),
  none,
  none,
  mz_qk (.goto (-90)) 3 (0) [46] [] (some [2, 3, 4, 5]) (none),
  none,
  none,
  mz_qk (.ldc 155) 2 (-1000004) [569] [] (none) (none),
  none,
  mz_qa .ireturn 1 [0]]
def tb_ES_guess : mz_T := [mz_qa (.iload_n 1) 1 [1],
  mz_qa (.invokestatic 66) 3 [1, 89, 1, 1, 0, 1, 0, 301],
  none,
  none,
  mz_qa (.ifCond .eq 30) 3 [34],
  none,
  none,
  mz_qa (.iload_n 2) 1 [2],
  mz_qc (.bipush 6) 2 (6),
  none,
  mz_qa (.invokestatic 175) 3 [1, 90, 2, 1, 0, 2, 0, 395],
  none,
  none,
  mz_qa (.ifCond .eq 21) 3 [34],
  none,
  none,
  mz_qa (.iload_n 3) 1 [3],
  mz_qc (.bipush 10) 2 (10),
  none,
  mz_qa (.invokestatic 175) 3 [1, 90, 2, 1, 0, 2, 0, 395],
  none,
  none,
  mz_qa (.ifCond .eq 12) 3 [34],
  none,
  none,
  mz_qa (.iload 4) 2 [4],
  none,
  mz_qc (.iconst 1) 1 (1),
  mz_qa (.invokestatic 175) 3 [1, 90, 2, 1, 0, 2, 0, 395],
  none,
  none,
  mz_qa (.ifCond .ne 6) 3 [37],
  none,
  none,
  mz_qk (.ldc 74) 2 (-1000001) [307] [] (none) (none),
  none,
  mz_qa .ireturn 1 [0],
  mz_qa (.aload_n 0) 1 [0],
  mz_qa (.getfield 10) 3 [6, 0, 0, 266],
  none,
  none,
  mz_qa (.iload_n 1) 1 [1],
  mz_qa (.invokevirtual 87) 3 [4, 44, 2, 1, 0, 2, 1, 355],
  none,
  none,
  mz_qa (.ifCond .eq 6) 3 [51],
  none,
  none,
  mz_qk (.ldc 90) 2 (-1000011) [360] [] (none) (none),
  none,
  mz_qa .ireturn 1 [0],
  mz_qa (.aload_n 0) 1 [0],
  mz_qa (.getfield 10) 3 [6, 0, 0, 266],
  none,
  none,
  mz_qa (.getfield 91) 3 [4, 0, 1, 136],
  none,
  none,
  mz_qa (.iload_n 1) 1 [1],
  mz_q .aaload 1,
  mz_qa (.astore 5) 2 [5],
  none,
  mz_qa (.iload_n 2) 1 [2],
  mz_qa (.aload 5) 2 [5],
  none,
  mz_qa (.getfield 102) 3 [3, 1, 1, 127],
  none,
  none,
  mz_qa (.if_icmp .le 8) 3 [76],
  none,
  none,
  mz_qk (.ldc 74) 2 (-1000001) [307] [] (none) (none),
  none,
  mz_qa (.goto 20) 3 [93],
  none,
  none,
  mz_qa (.aload 5) 2 [5],
  none,
  mz_qa (.iload_n 2) 1 [2],
  mz_qa (.iload_n 3) 1 [3],
  mz_qa (.iload 4) 2 [4],
  none,
  mz_qa (.ifCond .ne 7) 3 [89],
  none,
  none,
  mz_qc (.iconst 1) 1 (1),
  mz_qa (.goto 4) 3 [90],
  none,
  none,
  mz_qc (.iconst 0) 1 (0),
  mz_qa (.invokestatic 186) 3 [1, 100, 4, 1, 0, 7, 0, 609],
  none,
  none,
  mz_qa .ireturn 1 [0]]
def tb_ES_image : mz_T := [mz_qa (.aload_n 0) 1 [0],
  mz_qa (.getfield 23) 3 [6, 2, 0, 268],
  none,
  none,
  mz_qa (.aload_n 0) 1 [0],
  mz_qa (.getfield 10) 3 [6, 0, 0, 266],
  none,
  none,
  mz_qa (.invokevirtual 190) 3 [4, 43, 2, 0, 0, 3, 1, 616],
  none,
  none,
  mz_qa (.aload_n 0) 1 [0],
  mz_qa (.getfield 26) 3 [6, 3, 0, 269],
  none,
  none,
  mz_qa (.aload_n 0) 1 [0],
  mz_qa (.getfield 19) 3 [6, 1, 0, 267],
  none,
  none,
  mz_qa (.invokevirtual 193) 3 [2, 30, 2, 0, 0, 3, 1, 617],
  none,
  none,
  mz_qa (.aload_n 0) 1 [0],
  mz_qc (.iconst 1) 1 (1),
  mz_qa (.putfield 29) 3 [6, 4, 1, 0, 270],
  none,
  none,
  mz_qc (.iconst 1) 1 (1),
  mz_qa .ireturn 1 [0]]
def tb_ES_restore : mz_T := [mz_qa (.aload_n 0) 1 [0],
  mz_qa (.getfield 29) 3 [6, 4, 0, 270],
  none,
  none,
  mz_qa (.ifCond .ne 6) 3 [10],
  none,
  none,
  mz_qk (.ldc 155) 2 (-1000004) [569] [] (none) (none),
  none,
  mz_qa .ireturn 1 [0],
  mz_qa (.aload_n 0) 1 [0],
  mz_qa (.getfield 10) 3 [6, 0, 0, 266],
  none,
  none,
  mz_qa (.aload_n 0) 1 [0],
  mz_qa (.getfield 23) 3 [6, 2, 0, 268],
  none,
  none,
  mz_qa (.invokevirtual 190) 3 [4, 43, 2, 0, 0, 3, 1, 616],
  none,
  none,
  mz_qa (.aload_n 0) 1 [0],
  mz_qa (.getfield 19) 3 [6, 1, 0, 267],
  none,
  none,
  mz_qa (.aload_n 0) 1 [0],
  mz_qa (.getfield 26) 3 [6, 3, 0, 269],
  none,
  none,
  mz_qa (.invokevirtual 193) 3 [2, 30, 2, 0, 0, 3, 1, 617],
  none,
  none,
  mz_qc (.iconst 1) 1 (1),
  mz_qa .ireturn 1 [0]]
def tb_ES_told : mz_T := [mz_qa (.iload_n 1) 1 [1],
  mz_qa (.invokestatic 66) 3 [1, 89, 1, 1, 0, 1, 0, 301],
  none,
  none,
  mz_qa (.ifCond .eq 27) 3 [31],
  none,
  none,
  mz_qa (.iload_n 2) 1 [2],
  mz_qa (.invokestatic 66) 3 [1, 89, 1, 1, 0, 1, 0, 301],
  none,
  none,
  mz_qa (.ifCond .eq 20) 3 [31],
  none,
  none,
  mz_qa (.iload 4) 2 [4],
  none,
  mz_qa (.invokestatic 197) 3 [1, 91, 1, 1, 0, 1, 0, 629],
  none,
  none,
  mz_qa (.ifCond .eq 12) 3 [31],
  none,
  none,
  mz_qa (.iload 5) 2 [5],
  none,
  mz_qc (.iconst 2) 1 (2),
  mz_qa (.invokestatic 175) 3 [1, 90, 2, 1, 0, 2, 0, 395],
  none,
  none,
  mz_qa (.ifCond .ne 6) 3 [34],
  none,
  none,
  mz_qk (.ldc 74) 2 (-1000001) [307] [] (none) (none),
  none,
  mz_qa .ireturn 1 [0],
  mz_qa (.aload_n 0) 1 [0],
  mz_qa (.getfield 51) 3 [6, 7, 0, 273],
  none,
  none,
  mz_qa (.iload_n 1) 1 [1],
  mz_q .aaload 1,
  mz_qa (.astore 6) 2 [6],
  none,
  mz_qa (.aload 6) 2 [6],
  none,
  mz_qa (.iload_n 2) 1 [2],
  mz_qa (.iload_n 3) 1 [3],
  mz_qa (.iload 4) 2 [4],
  none,
  mz_qa (.invokevirtual 200) 3 [0, 7, 4, 1, 0, 10, 1, 632],
  none,
  none,
  mz_qa (.istore 7) 2 [7],
  none,
  mz_qa (.iload 7) 2 [7],
  none,
  mz_qa (.ifCond .eq 6) 3 [61],
  none,
  none,
  mz_qa (.iload 7) 2 [7],
  none,
  mz_qa .ireturn 1 [0],
  mz_qa (.iload 5) 2 [5],
  none,
  mz_qa (.ifCond .ne 12) 3 [75],
  none,
  none,
  mz_qa (.aload 6) 2 [6],
  none,
  mz_qa (.iload_n 3) 1 [3],
  mz_qa (.iload 4) 2 [4],
  none,
  mz_qa (.invokevirtual 204) 3 [0, 13, 3, 1, 0, 5, 1, 655],
  none,
  none,
  mz_qa .ireturn 1 [0],
  mz_qa (.iload 5) 2 [5],
  none,
  mz_qc (.iconst 1) 1 (1),
  mz_qa (.if_icmp .ne 14) 3 [92],
  none,
  none,
  mz_qa (.aload 6) 2 [6],
  none,
  mz_qa (.iload_n 3) 1 [3],
  mz_qa (.iload 4) 2 [4],
  none,
  mz_qa (.invokevirtual 208) 3 [0, 14, 3, 1, 0, 4, 1, 663],
  none,
  none,
  mz_qa (.goto 11) 3 [100],
  none,
  none,
  mz_qa (.aload 6) 2 [6],
  none,
  mz_qa (.iload_n 3) 1 [3],
  mz_qa (.iload 4) 2 [4],
  none,
  mz_qa (.invokevirtual 211) 3 [0, 16, 3, 1, 0, 5, 1, 676],
  none,
  none,
  mz_qa .ireturn 1 [0]]
def tb_ES_quotient : mz_T := [mz_qa (.iload_n 1) 1 [1],
  mz_qa (.invokestatic 66) 3 [1, 89, 1, 1, 0, 1, 0, 301],
  none,
  none,
  mz_qa (.ifCond .eq 25) 3 [29],
  none,
  none,
  mz_qa (.iload_n 2) 1 [2],
  mz_qa (.invokestatic 66) 3 [1, 89, 1, 1, 0, 1, 0, 301],
  none,
  none,
  mz_qa (.ifCond .eq 18) 3 [29],
  none,
  none,
  mz_qa (.iload_n 3) 1 [3],
  mz_qa (.invokestatic 66) 3 [1, 89, 1, 1, 0, 1, 0, 301],
  none,
  none,
  mz_qa (.ifCond .eq 11) 3 [29],
  none,
  none,
  mz_qa (.iload 5) 2 [5],
  none,
  mz_qa (.invokestatic 197) 3 [1, 91, 1, 1, 0, 1, 0, 629],
  none,
  none,
  mz_qa (.ifCond .ne 6) 3 [32],
  none,
  none,
  mz_qk (.ldc 74) 2 (-1000001) [307] [] (none) (none),
  none,
  mz_qa .ireturn 1 [0],
  mz_qa (.aload_n 0) 1 [0],
  mz_qa (.getfield 51) 3 [6, 7, 0, 273],
  none,
  none,
  mz_qa (.iload_n 2) 1 [2],
  mz_q .aaload 1,
  mz_qa (.astore 6) 2 [6],
  none,
  mz_qa (.aload 6) 2 [6],
  none,
  mz_qa (.iload_n 3) 1 [3],
  mz_qa (.iload 4) 2 [4],
  none,
  mz_qa (.iload 5) 2 [5],
  none,
  mz_qa (.invokevirtual 200) 3 [0, 7, 4, 1, 0, 10, 1, 632],
  none,
  none,
  mz_qa (.istore 7) 2 [7],
  none,
  mz_qa (.iload 7) 2 [7],
  none,
  mz_qa (.ifCond .eq 6) 3 [60],
  none,
  none,
  mz_qa (.iload 7) 2 [7],
  none,
  mz_qa .ireturn 1 [0],
  mz_qa (.aload_n 0) 1 [0],
  mz_qa (.getfield 45) 3 [6, 6, 0, 272],
  none,
  none,
  mz_qa (.aload 6) 2 [6],
  none,
  mz_qa (.iload 4) 2 [4],
  none,
  mz_qa (.iload 5) 2 [5],
  none,
  mz_qa (.aload_n 0) 1 [0],
  mz_qa (.getfield 10) 3 [6, 0, 0, 266],
  none,
  none,
  mz_qa (.getfield 75) 3 [4, 1, 1, 138],
  none,
  none,
  mz_qa (.invokevirtual 214) 3 [1, 27, 5, 1, 0, 11, 1, 689],
  none,
  none,
  mz_qa (.istore 8) 2 [8],
  none,
  mz_qa (.iload 8) 2 [8],
  none,
  mz_qa (.ifCond .eq 8) 3 [92],
  none,
  none,
  mz_qa (.iload 8) 2 [8],
  none,
  mz_qa (.goto 15) 3 [104],
  none,
  none,
  mz_qa (.aload_n 0) 1 [0],
  mz_qa (.iload_n 1) 1 [1],
  mz_qa (.aload_n 0) 1 [0],
  mz_qa (.getfield 45) 3 [6, 6, 0, 272],
  none,
  none,
  mz_qa (.invokevirtual 138) 3 [1, 18, 1, 3, 3, 1, 1, 539],
  none,
  none,
  mz_qa (.invokevirtual 83) 3 [6, 96, 3, 1, 0, 3, 0, 327],
  none,
  none,
  mz_qa .ireturn 1 [0]]
def tb_ES_wrought : mz_T := [mz_qa (.iload_n 1) 1 [1],
  mz_qa (.invokestatic 66) 3 [1, 89, 1, 1, 0, 1, 0, 301],
  none,
  none,
  mz_qa (.ifCond .eq 25) 3 [29],
  none,
  none,
  mz_qa (.iload_n 2) 1 [2],
  mz_qa (.invokestatic 66) 3 [1, 89, 1, 1, 0, 1, 0, 301],
  none,
  none,
  mz_qa (.ifCond .eq 18) 3 [29],
  none,
  none,
  mz_qa (.iload_n 3) 1 [3],
  mz_qa (.invokestatic 66) 3 [1, 89, 1, 1, 0, 1, 0, 301],
  none,
  none,
  mz_qa (.ifCond .eq 11) 3 [29],
  none,
  none,
  mz_qa (.iload 4) 2 [4],
  none,
  mz_qa (.invokestatic 66) 3 [1, 89, 1, 1, 0, 1, 0, 301],
  none,
  none,
  mz_qa (.ifCond .ne 6) 3 [32],
  none,
  none,
  mz_qk (.ldc 74) 2 (-1000001) [307] [] (none) (none),
  none,
  mz_qa .ireturn 1 [0],
  mz_qa (.iload 6) 2 [6],
  none,
  mz_qc (.iconst 1) 1 (1),
  mz_qa (.if_icmp .lt 10) 3 [45],
  none,
  none,
  mz_qa (.iload 6) 2 [6],
  none,
  mz_qc (.bipush 12) 2 (12),
  none,
  mz_qa (.if_icmp .le 6) 3 [48],
  none,
  none,
  mz_qk (.ldc 74) 2 (-1000001) [307] [] (none) (none),
  none,
  mz_qa .ireturn 1 [0],
  mz_qa (.aload_n 0) 1 [0],
  mz_qa (.getfield 51) 3 [6, 7, 0, 273],
  none,
  none,
  mz_qa (.iload_n 3) 1 [3],
  mz_q .aaload 1,
  mz_qa (.astore 7) 2 [7],
  none,
  mz_qa (.aload 7) 2 [7],
  none,
  mz_qa (.iload 4) 2 [4],
  none,
  mz_qa (.iload 5) 2 [5],
  none,
  mz_qa (.iload 6) 2 [6],
  none,
  mz_qa (.invokevirtual 218) 3 [0, 6, 4, 1, 0, 4, 1, 702],
  none,
  none,
  mz_qa (.istore 8) 2 [8],
  none,
  mz_qa (.iload 8) 2 [8],
  none,
  mz_qa (.ifCond .eq 6) 3 [77],
  none,
  none,
  mz_qa (.iload 8) 2 [8],
  none,
  mz_qa .ireturn 1 [0],
  mz_qa (.aload_n 0) 1 [0],
  mz_qa (.getfield 10) 3 [6, 0, 0, 266],
  none,
  none,
  mz_qa (.iload_n 1) 1 [1],
  mz_qa (.invokevirtual 87) 3 [4, 44, 2, 1, 0, 2, 1, 355],
  none,
  none,
  mz_qa (.ifCond .ne 14) 3 [99],
  none,
  none,
  mz_qa (.aload_n 0) 1 [0],
  mz_qa (.getfield 10) 3 [6, 0, 0, 266],
  none,
  none,
  mz_qa (.iload_n 2) 1 [2],
  mz_qa (.invokevirtual 87) 3 [4, 44, 2, 1, 0, 2, 1, 355],
  none,
  none,
  mz_qa (.ifCond .eq 6) 3 [102],
  none,
  none,
  mz_qk (.ldc 121) 2 (-1000002) [424] [] (none) (none),
  none,
  mz_qa .ireturn 1 [0],
  mz_qc (.iconst 0) 1 (0),
  mz_qa (.istore 9) 2 [9],
  none,
  mz_qc (.iconst 0) 1 (0),
  mz_qk (.istore 10) 2 (0) [10] [] (none) (some [0, 1, 2, 5, 6, 7, 9, 10]),
  none,
  mz_qa (.iload 10) 2 [10],
  none,
  mz_qc (.iconst 3) 1 (3),
  mz_qa (.if_icmp .gt 68) 3 [179],
  none,
  none,
  mz_qa (.aload_n 0) 1 [0],
  mz_qa (.getfield 58) 3 [6, 8, 0, 274],
  none,
  none,
  mz_qa (.iload 10) 2 [10],
  none,
  mz_qa (.aload_n 0) 1 [0],
  mz_qa (.getfield 10) 3 [6, 0, 0, 266],
  none,
  none,
  mz_qa (.getfield 91) 3 [4, 0, 1, 136],
  none,
  none,
  mz_qa (.iload_n 1) 1 [1],
  mz_q .aaload 1,
  mz_qa (.aload_n 0) 1 [0],
  mz_qa (.getfield 10) 3 [6, 0, 0, 266],
  none,
  none,
  mz_qa (.getfield 91) 3 [4, 0, 1, 136],
  none,
  none,
  mz_qa (.iload_n 2) 1 [2],
  mz_q .aaload 1,
  mz_qa (.invokevirtual 95) 3 [3, 36, 4, 1, 0, 4, 1, 361],
  none,
  none,
  mz_qa (.istore 11) 2 [11],
  none,
  mz_qa (.iload 11) 2 [11],
  none,
  mz_qa (.ifCond .ne 28) 3 [173],
  none,
  none,
  mz_qa (.aload 7) 2 [7],
  none,
  mz_qa (.iload 5) 2 [5],
  none,
  mz_qa (.iload 6) 2 [6],
  none,
  mz_qa (.aload_n 0) 1 [0],
  mz_qa (.getfield 58) 3 [6, 8, 0, 274],
  none,
  none,
  mz_qa (.invokevirtual 221) 3 [0, 10, 4, 1, 0, 5, 1, 703],
  none,
  none,
  mz_qa (.ifCond .eq 12) 3 [173],
  none,
  none,
  mz_qa (.iload 9) 2 [9],
  none,
  mz_qc (.iconst 1) 1 (1),
  mz_qa (.iload 10) 2 [10],
  none,
  mz_q .ishl 1,
  mz_q .ior 1,
  mz_qa (.istore 9) 2 [9],
  none,
  mz_qk (.iinc 10 1) 3 (1) [10] [] (none) (none),
  none,
  none,
  mz_qk (.goto (-68)) 3 (0) [108] [] (some [0, 1, 2, 5, 6, 7, 9, 10]) (none),
  none,
  none,
  mz_qa (.iload 9) 2 [9],
  none,
  mz_qa .ireturn 1 [0]]
def tb_ES_film : mz_T := [mz_qa (.iload_n 1) 1 [1],
  mz_qa (.invokestatic 66) 3 [1, 89, 1, 1, 0, 1, 0, 301],
  none,
  none,
  mz_qa (.ifCond .eq 17) 3 [21],
  none,
  none,
  mz_qa (.iload_n 2) 1 [2],
  mz_qa (.invokestatic 66) 3 [1, 89, 1, 1, 0, 1, 0, 301],
  none,
  none,
  mz_qa (.ifCond .eq 10) 3 [21],
  none,
  none,
  mz_qa (.iload_n 3) 1 [3],
  mz_qa (.invokestatic 66) 3 [1, 89, 1, 1, 0, 1, 0, 301],
  none,
  none,
  mz_qa (.ifCond .ne 6) 3 [24],
  none,
  none,
  mz_qk (.ldc 74) 2 (-1000001) [307] [] (none) (none),
  none,
  mz_qa .ireturn 1 [0],
  mz_qa (.aload_n 0) 1 [0],
  mz_qa (.getfield 10) 3 [6, 0, 0, 266],
  none,
  none,
  mz_qa (.iload_n 1) 1 [1],
  mz_qa (.invokevirtual 87) 3 [4, 44, 2, 1, 0, 2, 1, 355],
  none,
  none,
  mz_qa (.ifCond .eq 6) 3 [38],
  none,
  none,
  mz_qk (.ldc 121) 2 (-1000002) [424] [] (none) (none),
  none,
  mz_qa .ireturn 1 [0],
  mz_qa (.aload_n 0) 1 [0],
  mz_qa (.getfield 10) 3 [6, 0, 0, 266],
  none,
  none,
  mz_qa (.getfield 91) 3 [4, 0, 1, 136],
  none,
  none,
  mz_qa (.iload_n 1) 1 [1],
  mz_q .aaload 1,
  mz_qa (.astore 5) 2 [5],
  none,
  mz_qa (.aload_n 0) 1 [0],
  mz_qa (.getfield 51) 3 [6, 7, 0, 273],
  none,
  none,
  mz_qa (.iload_n 2) 1 [2],
  mz_q .aaload 1,
  mz_qa (.iload_n 3) 1 [3],
  mz_qa (.iload 4) 2 [4],
  none,
  mz_qa (.aload 5) 2 [5],
  none,
  mz_qa (.getfield 102) 3 [3, 1, 1, 127],
  none,
  none,
  mz_qa (.invokevirtual 218) 3 [0, 6, 4, 1, 0, 4, 1, 702],
  none,
  none,
  mz_qa (.istore 6) 2 [6],
  none,
  mz_qa (.iload 6) 2 [6],
  none,
  mz_qa (.ifCond .eq 6) 3 [76],
  none,
  none,
  mz_qa (.iload 6) 2 [6],
  none,
  mz_qa .ireturn 1 [0],
  mz_qc (.iconst 0) 1 (0),
  mz_qk (.istore 7) 2 (0) [7] [] (none) (some [0, 2, 4, 5, 7]),
  none,
  mz_qa (.iload 7) 2 [7],
  none,
  mz_qa (.aload 5) 2 [5],
  none,
  mz_qa (.getfield 102) 3 [3, 1, 1, 127],
  none,
  none,
  mz_qa (.if_icmp .ge 31) 3 [117],
  none,
  none,
  mz_qa (.aload_n 0) 1 [0],
  mz_qa (.getfield 51) 3 [6, 7, 0, 273],
  none,
  none,
  mz_qa (.iload_n 2) 1 [2],
  mz_q .aaload 1,
  mz_qa (.iload 4) 2 [4],
  none,
  mz_qa (.iload 7) 2 [7],
  none,
  mz_q .iadd 1,
  mz_qa (.aload 5) 2 [5],
  none,
  mz_qa (.iload 7) 2 [7],
  none,
  mz_qa (.invokevirtual 159) 3 [3, 32, 2, 1, 0, 2, 1, 578],
  none,
  none,
  mz_q .i2l 1,
  mz_qa (.invokevirtual 225) 3 [0, 9, 3, 0, 0, 4, 1, 712],
  none,
  none,
  mz_qk (.iinc 7 1) 3 (1) [7] [] (none) (none),
  none,
  none,
  mz_qk (.goto (-35)) 3 (0) [79] [] (some [0, 2, 4, 5, 7]) (none),
  none,
  none,
  mz_qa (.aload 5) 2 [5],
  none,
  mz_qa (.getfield 102) 3 [3, 1, 1, 127],
  none,
  none,
  mz_qa .ireturn 1 [0]]
def tb_ES_sheet : mz_T := [mz_qa (.iload_n 1) 1 [1],
  mz_qa (.invokestatic 66) 3 [1, 89, 1, 1, 0, 1, 0, 301],
  none,
  none,
  mz_qa (.ifCond .eq 16) 3 [20],
  none,
  none,
  mz_qa (.iload_n 2) 1 [2],
  mz_qa (.invokestatic 66) 3 [1, 89, 1, 1, 0, 1, 0, 301],
  none,
  none,
  mz_qa (.ifCond .eq 9) 3 [20],
  none,
  none,
  mz_qa (.iload_n 3) 1 [3],
  mz_qc (.bipush 40) 2 (40),
  none,
  mz_qa (.if_icmp .le 6) 3 [23],
  none,
  none,
  mz_qk (.ldc 74) 2 (-1000001) [307] [] (none) (none),
  none,
  mz_qa .ireturn 1 [0],
  mz_qa (.iload_n 3) 1 [3],
  mz_qa (.ifCond .ge 6) 3 [30],
  none,
  none,
  mz_qk (.ldc 229) 2 (-1000014) [720] [] (none) (none),
  none,
  mz_qa .ireturn 1 [0],
  mz_qa (.aload_n 0) 1 [0],
  mz_qa (.getfield 51) 3 [6, 7, 0, 273],
  none,
  none,
  mz_qa (.iload_n 1) 1 [1],
  mz_q .aaload 1,
  mz_qa (.iload_n 2) 1 [2],
  mz_qa (.iload_n 3) 1 [3],
  mz_qa (.invokevirtual 230) 3 [0, 4, 3, 0, 0, 4, 1, 721],
  none,
  none,
  mz_qa (.iload_n 3) 1 [3],
  mz_qa .ireturn 1 [0]]
def tb_ES_drop : mz_T := [mz_qa (.iload_n 1) 1 [1],
  mz_qa (.invokestatic 66) 3 [1, 89, 1, 1, 0, 1, 0, 301],
  none,
  none,
  mz_qa (.ifCond .ne 6) 3 [10],
  none,
  none,
  mz_qk (.ldc 74) 2 (-1000001) [307] [] (none) (none),
  none,
  mz_qa .ireturn 1 [0],
  mz_qa (.aload_n 0) 1 [0],
  mz_qa (.getfield 51) 3 [6, 7, 0, 273],
  none,
  none,
  mz_qa (.iload_n 1) 1 [1],
  mz_q .aaload 1,
  mz_qa (.astore_n 2) 1 [2],
  mz_qa (.aload_n 2) 1 [2],
  mz_qa (.getfield 234) 3 [0, 1, 1, 251],
  none,
  none,
  mz_qa (.ifCond .ne 6) 3 [27],
  none,
  none,
  mz_qk (.ldc 90) 2 (-1000011) [360] [] (none) (none),
  none,
  mz_qa .ireturn 1 [0],
  mz_qa (.aload_n 2) 1 [2],
  mz_qc (.iconst 0) 1 (0),
  mz_qa (.putfield 234) 3 [0, 1, 1, 1, 251],
  none,
  none,
  mz_qa (.aload_n 2) 1 [2],
  mz_qa (.getfield 236) 3 [0, 3, 1, 255],
  none,
  none,
  mz_qa .ireturn 1 [0]]
def tb_ES_item : mz_T := [mz_qa (.iload_n 1) 1 [1],
  mz_qa (.invokestatic 66) 3 [1, 89, 1, 1, 0, 1, 0, 301],
  none,
  none,
  mz_qa (.ifCond .eq 10) 3 [14],
  none,
  none,
  mz_qa (.iload_n 2) 1 [2],
  mz_qa (.invokestatic 66) 3 [1, 89, 1, 1, 0, 1, 0, 301],
  none,
  none,
  mz_qa (.ifCond .ne 6) 3 [17],
  none,
  none,
  mz_qk (.ldc 74) 2 (-1000001) [307] [] (none) (none),
  none,
  mz_qa .ireturn 1 [0],
  mz_qa (.aload_n 0) 1 [0],
  mz_qa (.getfield 51) 3 [6, 7, 0, 273],
  none,
  none,
  mz_qa (.iload_n 1) 1 [1],
  mz_q .aaload 1,
  mz_qa (.iload_n 2) 1 [2],
  mz_qa (.iload_n 3) 1 [3],
  mz_qc (.iconst 1) 1 (1),
  mz_qa (.invokevirtual 218) 3 [0, 6, 4, 1, 0, 4, 1, 702],
  none,
  none,
  mz_qa (.istore 6) 2 [6],
  none,
  mz_qa (.iload 6) 2 [6],
  none,
  mz_qa (.ifCond .eq 6) 3 [39],
  none,
  none,
  mz_qa (.iload 6) 2 [6],
  none,
  mz_qa .ireturn 1 [0],
  mz_qa (.aload_n 0) 1 [0],
  mz_qa (.getfield 51) 3 [6, 7, 0, 273],
  none,
  none,
  mz_qa (.iload_n 1) 1 [1],
  mz_q .aaload 1,
  mz_qa (.iload_n 3) 1 [3],
  mz_qa (.lload 4) 2 [4],
  none,
  mz_qa (.invokevirtual 225) 3 [0, 9, 3, 0, 0, 4, 1, 712],
  none,
  none,
  mz_qc (.iconst 1) 1 (1),
  mz_qa .ireturn 1 [0]]
def tb_ES_copy : mz_T := [mz_qa (.iload_n 1) 1 [1],
  mz_qa (.invokestatic 66) 3 [1, 89, 1, 1, 0, 1, 0, 301],
  none,
  none,
  mz_qa (.ifCond .eq 10) 3 [14],
  none,
  none,
  mz_qa (.iload_n 3) 1 [3],
  mz_qa (.invokestatic 66) 3 [1, 89, 1, 1, 0, 1, 0, 301],
  none,
  none,
  mz_qa (.ifCond .ne 6) 3 [17],
  none,
  none,
  mz_qk (.ldc 74) 2 (-1000001) [307] [] (none) (none),
  none,
  mz_qa .ireturn 1 [0],
  mz_qa (.aload_n 0) 1 [0],
  mz_qa (.getfield 51) 3 [6, 7, 0, 273],
  none,
  none,
  mz_qa (.iload_n 1) 1 [1],
  mz_q .aaload 1,
  mz_qa (.astore 6) 2 [6],
  none,
  mz_qa (.aload_n 0) 1 [0],
  mz_qa (.getfield 51) 3 [6, 7, 0, 273],
  none,
  none,
  mz_qa (.iload_n 3) 1 [3],
  mz_q .aaload 1,
  mz_qa (.astore 7) 2 [7],
  none,
  mz_qa (.aload 6) 2 [6],
  none,
  mz_qa (.getfield 234) 3 [0, 1, 1, 251],
  none,
  none,
  mz_qa (.ifCond .eq 11) 3 [49],
  none,
  none,
  mz_qa (.aload 7) 2 [7],
  none,
  mz_qa (.getfield 234) 3 [0, 1, 1, 251],
  none,
  none,
  mz_qa (.ifCond .ne 6) 3 [52],
  none,
  none,
  mz_qk (.ldc 90) 2 (-1000011) [360] [] (none) (none),
  none,
  mz_qa .ireturn 1 [0],
  mz_qa (.aload 6) 2 [6],
  none,
  mz_qa (.getfield 237) 3 [0, 2, 1, 253],
  none,
  none,
  mz_qa (.aload 7) 2 [7],
  none,
  mz_qa (.getfield 237) 3 [0, 2, 1, 253],
  none,
  none,
  mz_qa (.if_icmp .eq 6) 3 [68],
  none,
  none,
  mz_qk (.ldc 240) 2 (-1000012) [739] [] (none) (none),
  none,
  mz_qa .ireturn 1 [0],
  mz_qa (.aload 6) 2 [6],
  none,
  mz_qa (.iload_n 2) 1 [2],
  mz_qa (.iload 5) 2 [5],
  none,
  mz_qa (.invokevirtual 241) 3 [0, 5, 3, 1, 0, 3, 1, 740],
  none,
  none,
  mz_qa (.ifCond .eq 15) 3 [91],
  none,
  none,
  mz_qa (.aload 7) 2 [7],
  none,
  mz_qa (.iload 4) 2 [4],
  none,
  mz_qa (.iload 5) 2 [5],
  none,
  mz_qa (.invokevirtual 241) 3 [0, 5, 3, 1, 0, 3, 1, 740],
  none,
  none,
  mz_qa (.ifCond .ne 6) 3 [94],
  none,
  none,
  mz_qk (.ldc 244) 2 (-1000013) [741] [] (none) (none),
  none,
  mz_qa .ireturn 1 [0],
  mz_qa (.aload 6) 2 [6],
  none,
  mz_qa (.getfield 245) 3 [0, 0, 1, 249],
  none,
  none,
  mz_qa (.iload_n 2) 1 [2],
  mz_qa (.aload 7) 2 [7],
  none,
  mz_qa (.getfield 245) 3 [0, 0, 1, 249],
  none,
  none,
  mz_qa (.iload 4) 2 [4],
  none,
  mz_qa (.iload 5) 2 [5],
  none,
  mz_qa (.invokestatic 249) 3 [0, 742, 348, 347, 102],
  none,
  none,
  mz_qa (.iload 5) 2 [5],
  none,
  mz_qa .ireturn 1 [0]]
def tb_ES_isOneOfFour : mz_T := [mz_qa (.iload_n 0) 1 [0],
  mz_qa (.ifCond .lt 12) 3 [13],
  none,
  none,
  mz_qa (.iload_n 0) 1 [0],
  mz_qc (.iconst 4) 1 (4),
  mz_qa (.if_icmp .ge 7) 3 [13],
  none,
  none,
  mz_qc (.iconst 1) 1 (1),
  mz_qa (.goto 4) 3 [14],
  none,
  none,
  mz_qc (.iconst 0) 1 (0),
  mz_qa .ireturn 1 [1]]
def tb_ES_isWithin : mz_T := [mz_qa (.iload_n 0) 1 [0],
  mz_qa (.ifCond .lt 12) 3 [13],
  none,
  none,
  mz_qa (.iload_n 0) 1 [0],
  mz_qa (.iload_n 1) 1 [1],
  mz_qa (.if_icmp .gt 7) 3 [13],
  none,
  none,
  mz_qc (.iconst 1) 1 (1),
  mz_qa (.goto 4) 3 [14],
  none,
  none,
  mz_qc (.iconst 0) 1 (0),
  mz_qa .ireturn 1 [1]]
def tb_ES_isPairs : mz_T := [mz_qa (.iload_n 0) 1 [0],
  mz_qc (.iconst 1) 1 (1),
  mz_qa (.if_icmp .lt 13) 3 [15],
  none,
  none,
  mz_qa (.iload_n 0) 1 [0],
  mz_qc (.bipush 6) 2 (6),
  none,
  mz_qa (.if_icmp .gt 7) 3 [15],
  none,
  none,
  mz_qc (.iconst 1) 1 (1),
  mz_qa (.goto 4) 3 [16],
  none,
  none,
  mz_qc (.iconst 0) 1 (0),
  mz_qa .ireturn 1 [1]]
def tb_ES_isStep : mz_T := [mz_qa (.iload_n 0) 1 [0],
  mz_qc (.iconst 1) 1 (1),
  mz_qa (.if_icmp .lt 22) 3 [24],
  none,
  none,
  mz_qa (.iload_n 0) 1 [0],
  mz_qc (.bipush 8) 2 (8),
  none,
  mz_qa (.if_icmp .gt 16) 3 [24],
  none,
  none,
  mz_qa (.iload_n 1) 1 [1],
  mz_qa (.ifCond .lt 12) 3 [24],
  none,
  none,
  mz_qa (.iload_n 1) 1 [1],
  mz_qa (.iload_n 0) 1 [0],
  mz_qa (.if_icmp .ge 7) 3 [24],
  none,
  none,
  mz_qc (.iconst 1) 1 (1),
  mz_qa (.goto 4) 3 [25],
  none,
  none,
  mz_qc (.iconst 0) 1 (0),
  mz_qa .ireturn 1 [1]]
def tb_ES_isKind : mz_T := [mz_qa (.iload_n 0) 1 [0],
  mz_qk (.tableswitch 78 0 4 #[35, 45, 45, 45, 62]) 35 (0) [79] [(0, 36), (1, 46), (2, 46), (3, 46), (4, 63)] (none) (none),
  none,
  none,
  none,
  none,
  none,
  none,
  none,
  none,
  none,
  none,
  none,
  none,
  none,
  none,
  none,
  none,
  none,
  none,
  none,
  none,
  none,
  none,
  none,
  none,
  none,
  none,
  none,
  none,
  none,
  none,
  none,
  none,
  none,
  none,
  mz_qa (.iload_n 1) 1 [1],
  mz_qa (.ifCond .ne 7) 3 [44],
  none,
  none,
  mz_qc (.iconst 1) 1 (1),
  mz_qa (.goto 4) 3 [45],
  none,
  none,
  mz_qc (.iconst 0) 1 (0),
  mz_qa .ireturn 1 [1],
  mz_qa (.iload_n 1) 1 [1],
  mz_qc (.iconst 1) 1 (1),
  mz_qa (.if_icmp .lt 13) 3 [61],
  none,
  none,
  mz_qa (.iload_n 1) 1 [1],
  mz_qc (.bipush 9) 2 (9),
  none,
  mz_qa (.if_icmp .gt 7) 3 [61],
  none,
  none,
  mz_qc (.iconst 1) 1 (1),
  mz_qa (.goto 4) 3 [62],
  none,
  none,
  mz_qc (.iconst 0) 1 (0),
  mz_qa .ireturn 1 [1],
  mz_qa (.iload_n 1) 1 [1],
  mz_qa (.ifCond .lt 13) 3 [77],
  none,
  none,
  mz_qa (.iload_n 1) 1 [1],
  mz_qc (.bipush 40) 2 (40),
  none,
  mz_qa (.if_icmp .ge 7) 3 [77],
  none,
  none,
  mz_qc (.iconst 1) 1 (1),
  mz_qa (.goto 4) 3 [78],
  none,
  none,
  mz_qc (.iconst 0) 1 (0),
  mz_qa .ireturn 1 [1],
  mz_qc (.iconst 0) 1 (0),
  mz_qa .ireturn 1 [1]]
def tb_ES_isChange : mz_T := [mz_qa (.iload_n 0) 1 [0],
  mz_qk (.tableswitch 137 0 6 #[43, 50, 67, 77, 101, 112, 119]) 43 (0) [138] [(0, 44), (1, 51), (2, 68), (3, 78), (4, 102), (5, 113), (6, 120)] (none) (none),
  none,
  none,
  none,
  none,
  none,
  none,
  none,
  none,
  none,
  none,
  none,
  none,
  none,
  none,
  none,
  none,
  none,
  none,
  none,
  none,
  none,
  none,
  none,
  none,
  none,
  none,
  none,
  none,
  none,
  none,
  none,
  none,
  none,
  none,
  none,
  none,
  none,
  none,
  none,
  none,
  none,
  none,
  mz_qa (.iload_n 1) 1 [1],
  mz_qc (.bipush 9) 2 (9),
  none,
  mz_qa (.invokestatic 175) 3 [1, 90, 2, 1, 0, 2, 0, 395],
  none,
  none,
  mz_qa .ireturn 1 [1],
  mz_qa (.iload_n 1) 1 [1],
  mz_qc (.iconst 1) 1 (1),
  mz_qa (.if_icmp .lt 13) 3 [66],
  none,
  none,
  mz_qa (.iload_n 1) 1 [1],
  mz_qc (.bipush 8) 2 (8),
  none,
  mz_qa (.if_icmp .gt 7) 3 [66],
  none,
  none,
  mz_qc (.iconst 1) 1 (1),
  mz_qa (.goto 4) 3 [67],
  none,
  none,
  mz_qc (.iconst 0) 1 (0),
  mz_qa .ireturn 1 [1],
  mz_qa (.iload_n 1) 1 [1],
  mz_qa (.ifCond .ne 7) 3 [76],
  none,
  none,
  mz_qc (.iconst 1) 1 (1),
  mz_qa (.goto 4) 3 [77],
  none,
  none,
  mz_qc (.iconst 0) 1 (0),
  mz_qa .ireturn 1 [1],
  mz_qa (.iload_n 1) 1 [1],
  mz_qa (.ifCond .lt 21) 3 [100],
  none,
  none,
  mz_qa (.iload_n 1) 1 [1],
  mz_qc (.bipush 10) 2 (10),
  none,
  mz_q .idiv 1,
  mz_qa (.iload_n 1) 1 [1],
  mz_qc (.bipush 10) 2 (10),
  none,
  mz_q .irem 1,
  mz_qa (.invokestatic 172) 3 [1, 92, 2, 1, 0, 2, 0, 398],
  none,
  none,
  mz_qa (.ifCond .eq 7) 3 [100],
  none,
  none,
  mz_qc (.iconst 1) 1 (1),
  mz_qa (.goto 4) 3 [101],
  none,
  none,
  mz_qc (.iconst 0) 1 (0),
  mz_qa .ireturn 1 [1],
  mz_qa (.iload_n 1) 1 [1],
  mz_qc (.iconst 1) 1 (1),
  mz_qa (.if_icmp .lt 7) 3 [111],
  none,
  none,
  mz_qc (.iconst 1) 1 (1),
  mz_qa (.goto 4) 3 [112],
  none,
  none,
  mz_qc (.iconst 0) 1 (0),
  mz_qa .ireturn 1 [1],
  mz_qa (.iload_n 1) 1 [1],
  mz_qc (.bipush 8) 2 (8),
  none,
  mz_qa (.invokestatic 175) 3 [1, 90, 2, 1, 0, 2, 0, 395],
  none,
  none,
  mz_qa .ireturn 1 [1],
  mz_qa (.iload_n 1) 1 [1],
  mz_qc (.bipush (-99)) 2 (-99),
  none,
  mz_qa (.if_icmp .lt 13) 3 [136],
  none,
  none,
  mz_qa (.iload_n 1) 1 [1],
  mz_qc (.bipush 99) 2 (99),
  none,
  mz_qa (.if_icmp .gt 7) 3 [136],
  none,
  none,
  mz_qc (.iconst 1) 1 (1),
  mz_qa (.goto 4) 3 [137],
  none,
  none,
  mz_qc (.iconst 0) 1 (0),
  mz_qa .ireturn 1 [1],
  mz_qc (.iconst 0) 1 (0),
  mz_qa .ireturn 1 [1]]
def tb_ES_isWide : mz_T := [mz_qa (.lload_n 0) 1 [0],
  mz_ql (.ldc2_w 255) 3 (100000000) [376],
  none,
  none,
  mz_q .lcmp 1,
  mz_qa (.ifCond .gt 11) 3 [16],
  none,
  none,
  mz_qa (.lload_n 0) 1 [0],
  mz_ql (.ldc2_w 257) 3 (-100000000) [377],
  none,
  none,
  mz_q .lcmp 1,
  mz_qa (.ifCond .ge 7) 3 [20],
  none,
  none,
  mz_qc (.iconst 1) 1 (1),
  mz_qa (.goto 4) 3 [21],
  none,
  none,
  mz_qc (.iconst 0) 1 (0),
  mz_qa .ireturn 1 [1]]
def tb_ES_settle : mz_T := [mz_qa (.aload_n 0) 1 [0],
  mz_qa (.getfield 19) 3 [6, 1, 0, 267],
  none,
  none,
  mz_qa (.aload_n 0) 1 [0],
  mz_qa (.getfield 10) 3 [6, 0, 0, 266],
  none,
  none,
  mz_qa (.invokevirtual 113) 3 [2, 28, 2, 0, 0, 2, 1, 331],
  none,
  none,
  mz_qa (.aload_n 0) 1 [0],
  mz_qa (.getfield 10) 3 [6, 0, 0, 266],
  none,
  none,
  mz_qa (.getfield 91) 3 [4, 0, 1, 136],
  none,
  none,
  mz_qa (.iload_n 1) 1 [1],
  mz_q .aaload 1,
  mz_qa (.aload_n 2) 1 [2],
  mz_qa (.invokevirtual 259) 3 [3, 34, 2, 0, 0, 2, 1, 350],
  none,
  none,
  mz_qa (.aload_n 2) 1 [2],
  mz_qa (.getfield 102) 3 [3, 1, 1, 127],
  none,
  none,
  mz_qa .ireturn 1 [0]]
def tb_ES_firstUnlike : mz_T := [mz_qa (.aload_n 0) 1 [0],
  mz_qa (.getfield 102) 3 [3, 1, 1, 127],
  none,
  none,
  mz_qa (.aload_n 1) 1 [1],
  mz_qa (.getfield 102) 3 [3, 1, 1, 127],
  none,
  none,
  mz_qa (.invokestatic 262) 3 [1, 1, 2, 1, 0, 2, 0, 590],
  none,
  none,
  mz_qa (.istore_n 2) 1 [2],
  mz_qc (.iconst 0) 1 (0),
  mz_qk (.istore_n 3) 1 (0) [3] [] (none) (some [0, 1, 2, 3]),
  mz_qa (.iload_n 3) 1 [3],
  mz_qa (.iload_n 2) 1 [2],
  mz_qa (.if_icmp .ge 24) 3 [40],
  none,
  none,
  mz_qa (.aload_n 0) 1 [0],
  mz_qa (.iload_n 3) 1 [3],
  mz_qa (.invokevirtual 159) 3 [3, 32, 2, 1, 0, 2, 1, 578],
  none,
  none,
  mz_qa (.aload_n 1) 1 [1],
  mz_qa (.iload_n 3) 1 [3],
  mz_qa (.invokevirtual 159) 3 [3, 32, 2, 1, 0, 2, 1, 578],
  none,
  none,
  mz_qa (.if_icmp .eq 5) 3 [34],
  none,
  none,
  mz_qa (.iload_n 3) 1 [3],
  mz_qa .ireturn 1 [0],
  mz_qk (.iinc 3 1) 3 (1) [3] [] (none) (none),
  none,
  none,
  mz_qk (.goto (-23)) 3 (0) [14] [] (some [0, 1, 2, 3]) (none),
  none,
  none,
  mz_qk (.ldc 155) 2 (-1000004) [569] [] (none) (none),
  none,
  mz_qa .ireturn 1 [0]]
def tb_ES_firstMisfit : mz_T := [mz_qa (.iload_n 1) 1 [1],
  mz_qc (.iconst 1) 1 (1),
  mz_qa (.if_icmp .lt 8) 3 [10],
  none,
  none,
  mz_qa (.iload_n 3) 1 [3],
  mz_qc (.iconst 1) 1 (1),
  mz_qa (.if_icmp .ge 6) 3 [13],
  none,
  none,
  mz_qk (.ldc 155) 2 (-1000004) [569] [] (none) (none),
  none,
  mz_qa .ireturn 1 [0],
  mz_qa (.iload_n 2) 1 [2],
  mz_qk (.istore 4) 2 (0) [4] [] (none) (some [0, 1, 3, 4]),
  none,
  mz_qa (.iload 4) 2 [4],
  none,
  mz_qa (.aload_n 0) 1 [0],
  mz_qa (.getfield 102) 3 [3, 1, 1, 127],
  none,
  none,
  mz_qa (.if_icmp .ge 26) 3 [48],
  none,
  none,
  mz_qa (.aload_n 0) 1 [0],
  mz_qa (.iload 4) 2 [4],
  none,
  mz_qa (.invokevirtual 159) 3 [3, 32, 2, 1, 0, 2, 1, 578],
  none,
  none,
  mz_qa (.iload_n 3) 1 [3],
  mz_q .irem 1,
  mz_qa (.ifCond .eq 6) 3 [39],
  none,
  none,
  mz_qa (.iload 4) 2 [4],
  none,
  mz_qa .ireturn 1 [0],
  mz_qa (.iload 4) 2 [4],
  none,
  mz_qa (.iload_n 1) 1 [1],
  mz_q .iadd 1,
  mz_qa (.istore 4) 2 [4],
  none,
  mz_qk (.goto (-29)) 3 (0) [16] [] (some [0, 1, 3, 4]) (none),
  none,
  none,
  mz_qk (.ldc 155) 2 (-1000004) [569] [] (none) (none),
  none,
  mz_qa .ireturn 1 [0]]
def tb_ES_leastFitting : mz_T := [mz_qc (.iconst 2) 1 (2),
  mz_qk (.istore_n 3) 1 (0) [3] [] (none) (some [0, 1, 2, 3]),
  mz_qa (.iload_n 3) 1 [3],
  mz_qc (.bipush 9) 2 (9),
  none,
  mz_qa (.if_icmp .gt 23) 3 [28],
  none,
  none,
  mz_qa (.aload_n 0) 1 [0],
  mz_qa (.iload_n 1) 1 [1],
  mz_qa (.iload_n 2) 1 [2],
  mz_qa (.iload_n 3) 1 [3],
  mz_qa (.invokestatic 178) 3 [1, 98, 4, 1, 0, 5, 0, 595],
  none,
  none,
  mz_qk (.ldc 155) 2 (-1000004) [569] [] (none) (none),
  none,
  mz_qa (.if_icmp .ne 5) 3 [22],
  none,
  none,
  mz_qa (.iload_n 3) 1 [3],
  mz_qa .ireturn 1 [0],
  mz_qk (.iinc 3 1) 3 (1) [3] [] (none) (none),
  none,
  none,
  mz_qk (.goto (-23)) 3 (0) [2] [] (some [0, 1, 2, 3]) (none),
  none,
  none,
  mz_qk (.ldc 155) 2 (-1000004) [569] [] (none) (none),
  none,
  mz_qa .ireturn 1 [0]]
def tb_ES_chanceOfEven : mz_T := [mz_qc (.iconst 1) 1 (1),
  mz_qa (.istore 4) 2 [4],
  none,
  mz_qc (.iconst 1) 1 (1),
  mz_qa (.istore 5) 2 [5],
  none,
  mz_qc (.iconst 0) 1 (0),
  mz_qk (.istore 6) 2 (0) [6] [] (none) (some [0, 1, 2, 3, 4, 5, 6]),
  none,
  mz_qa (.iload 6) 2 [6],
  none,
  mz_qa (.iload_n 1) 1 [1],
  mz_qa (.if_icmp .ge 40) 3 [52],
  none,
  none,
  mz_qa (.iload 4) 2 [4],
  none,
  mz_qa (.aload_n 0) 1 [0],
  mz_qa (.iload 6) 2 [6],
  none,
  mz_qa (.invokevirtual 159) 3 [3, 32, 2, 1, 0, 2, 1, 578],
  none,
  none,
  mz_qc (.iconst 1) 1 (1),
  mz_q .iand 1,
  mz_qa (.ifCond .ne 10) 3 [35],
  none,
  none,
  mz_qc (.bipush 10) 2 (10),
  none,
  mz_qa (.iload_n 2) 1 [2],
  mz_q .isub 1,
  mz_qa (.goto 4) 3 [36],
  none,
  none,
  mz_qa (.iload_n 2) 1 [2],
  mz_q .imul 1,
  mz_qa (.istore 4) 2 [4],
  none,
  mz_qa (.iload 5) 2 [5],
  none,
  mz_qc (.bipush 10) 2 (10),
  none,
  mz_q .imul 1,
  mz_qa (.istore 5) 2 [5],
  none,
  mz_qk (.iinc 6 1) 3 (1) [6] [] (none) (none),
  none,
  none,
  mz_qk (.goto (-40)) 3 (0) [9] [] (some [0, 1, 2, 3, 4, 5, 6]) (none),
  none,
  none,
  mz_qc (.iconst 0) 1 (0),
  mz_qk (.istore 6) 2 (0) [6] [] (none) (some [1, 3, 4, 5, 6]),
  none,
  mz_qa (.iload 6) 2 [6],
  none,
  mz_qa (.iload_n 1) 1 [1],
  mz_qa (.if_icmp .ge 61) 3 [119],
  none,
  none,
  mz_qa (.iload 4) 2 [4],
  none,
  mz_qc (.iconst 2) 1 (2),
  mz_q .irem 1,
  mz_qa (.ifCond .ne 22) 3 [87],
  none,
  none,
  mz_qa (.iload 5) 2 [5],
  none,
  mz_qc (.iconst 2) 1 (2),
  mz_q .irem 1,
  mz_qa (.ifCond .ne 15) 3 [87],
  none,
  none,
  mz_qa (.iload 4) 2 [4],
  none,
  mz_qc (.iconst 2) 1 (2),
  mz_q .idiv 1,
  mz_qa (.istore 4) 2 [4],
  none,
  mz_qa (.iload 5) 2 [5],
  none,
  mz_qc (.iconst 2) 1 (2),
  mz_q .idiv 1,
  mz_qa (.istore 5) 2 [5],
  none,
  mz_qa (.iload 4) 2 [4],
  none,
  mz_qc (.iconst 5) 1 (5),
  mz_q .irem 1,
  mz_qa (.ifCond .ne 22) 3 [113],
  none,
  none,
  mz_qa (.iload 5) 2 [5],
  none,
  mz_qc (.iconst 5) 1 (5),
  mz_q .irem 1,
  mz_qa (.ifCond .ne 15) 3 [113],
  none,
  none,
  mz_qa (.iload 4) 2 [4],
  none,
  mz_qc (.iconst 5) 1 (5),
  mz_q .idiv 1,
  mz_qa (.istore 4) 2 [4],
  none,
  mz_qa (.iload 5) 2 [5],
  none,
  mz_qc (.iconst 5) 1 (5),
  mz_q .idiv 1,
  mz_qa (.istore 5) 2 [5],
  none,
  mz_qk (.iinc 6 1) 3 (1) [6] [] (none) (none),
  none,
  none,
  mz_qk (.goto (-61)) 3 (0) [55] [] (some [1, 3, 4, 5, 6]) (none),
  none,
  none,
  mz_qa (.iload_n 3) 1 [3],
  mz_qa (.ifCond .eq 8) 3 [128],
  none,
  none,
  mz_qa (.iload 4) 2 [4],
  none,
  mz_qa (.goto 5) 3 [130],
  none,
  none,
  mz_qa (.iload 5) 2 [5],
  none,
  mz_qa .ireturn 1 [0]]
def tb_Mo_in : mz_T := [mz_qa (.lload_n 0) 1 [0],
  mz_qa (.lload_n 2) 1 [2],
  mz_q .lcmp 1,
  mz_qa (.ifCond .lt 14) 3 [17],
  none,
  none,
  mz_qa (.lload_n 0) 1 [0],
  mz_qa (.lload 4) 2 [4],
  none,
  mz_q .lcmp 1,
  mz_qa (.ifCond .gt 7) 3 [17],
  none,
  none,
  mz_qc (.iconst 1) 1 (1),
  mz_qa (.goto 4) 3 [18],
  none,
  none,
  mz_qc (.iconst 0) 1 (0),
  mz_qa .ireturn 1 [1]]
def tb_Mo_isSeries : mz_T := [mz_qa (.iload_n 0) 1 [0],
  mz_q .i2l 1,
  mz_ql (.lconst 0) 1 (0) [],
  mz_ql (.ldc2_w 70) 3 (3) [842],
  none,
  none,
  mz_qa (.invokestatic 72) 3 [1, 101, 3, 1, 0, 6, 0, 843],
  none,
  none,
  mz_qa .ireturn 1 [1]]
def tb_Mo_many : mz_T := [mz_qa (.aload_n 0) 1 [0],
  mz_qa (.getfield 7) 3 [7, 0, 0, 750],
  none,
  none,
  mz_qc (.iconst 2) 1 (2),
  mz_qa (.iload_n 1) 1 [1],
  mz_q .iadd 1,
  mz_q .iaload 1,
  mz_qa .ireturn 1 [0]]
def tb_Mo_termOf : mz_T := [mz_qa (.aload_n 0) 1 [0],
  mz_qa (.getfield 7) 3 [7, 0, 0, 750],
  none,
  none,
  mz_qc (.bipush 6) 2 (6),
  none,
  mz_qc (.bipush 40) 2 (40),
  none,
  mz_qa (.iload_n 1) 1 [1],
  mz_q .imul 1,
  mz_q .iadd 1,
  mz_qa (.iload_n 2) 1 [2],
  mz_q .iadd 1,
  mz_q .iaload 1,
  mz_qa .ireturn 1 [0]]
def tb_Mo_takesOne : mz_T := [mz_qa (.aload_n 0) 1 [0],
  mz_qa (.aload_n 0) 1 [0],
  mz_qa (.iload_n 1) 1 [1],
  mz_qa (.invokevirtual 76) 3 [7, 103, 2, 1, 0, 2, 0, 873],
  none,
  none,
  mz_qa (.putfield 80) 3 [7, 2, 0, 0, 752],
  none,
  none,
  mz_qc (.iconst 0) 1 (0),
  mz_qk (.istore_n 2) 1 (0) [2] [] (none) (some [0, 1, 2]),
  mz_qa (.iload_n 2) 1 [2],
  mz_qa (.aload_n 0) 1 [0],
  mz_qa (.getfield 80) 3 [7, 2, 0, 752],
  none,
  none,
  mz_qa (.if_icmp .ge 22) 3 [38],
  none,
  none,
  mz_qa (.aload_n 0) 1 [0],
  mz_qa (.getfield 13) 3 [7, 1, 0, 751],
  none,
  none,
  mz_qa (.iload_n 2) 1 [2],
  mz_qa (.aload_n 0) 1 [0],
  mz_qa (.iload_n 1) 1 [1],
  mz_qa (.iload_n 2) 1 [2],
  mz_qa (.invokevirtual 83) 3 [7, 104, 3, 1, 0, 3, 0, 882],
  none,
  none,
  mz_q .i2l 1,
  mz_q .lastore 1,
  mz_qk (.iinc 2 1) 3 (1) [2] [] (none) (none),
  none,
  none,
  mz_qk (.goto (-24)) 3 (0) [11] [] (some [0, 1, 2]) (none),
  none,
  none,
  mz_q .return_ 1]
def tb_Mo_takesTwo : mz_T := [mz_qa (.aload_n 0) 1 [0],
  mz_qa (.aload_n 0) 1 [0],
  mz_qa (.iload_n 1) 1 [1],
  mz_qa (.invokevirtual 76) 3 [7, 103, 2, 1, 0, 2, 0, 873],
  none,
  none,
  mz_qa (.putfield 87) 3 [7, 4, 0, 0, 754],
  none,
  none,
  mz_qc (.iconst 0) 1 (0),
  mz_qk (.istore_n 2) 1 (0) [2] [] (none) (some [0, 1, 2]),
  mz_qa (.iload_n 2) 1 [2],
  mz_qa (.aload_n 0) 1 [0],
  mz_qa (.getfield 87) 3 [7, 4, 0, 754],
  none,
  none,
  mz_qa (.if_icmp .ge 22) 3 [38],
  none,
  none,
  mz_qa (.aload_n 0) 1 [0],
  mz_qa (.getfield 17) 3 [7, 3, 0, 753],
  none,
  none,
  mz_qa (.iload_n 2) 1 [2],
  mz_qa (.aload_n 0) 1 [0],
  mz_qa (.iload_n 1) 1 [1],
  mz_qa (.iload_n 2) 1 [2],
  mz_qa (.invokevirtual 83) 3 [7, 104, 3, 1, 0, 3, 0, 882],
  none,
  none,
  mz_q .i2l 1,
  mz_q .lastore 1,
  mz_qk (.iinc 2 1) 3 (1) [2] [] (none) (none),
  none,
  none,
  mz_qk (.goto (-24)) 3 (0) [11] [] (some [0, 1, 2]) (none),
  none,
  none,
  mz_q .return_ 1]
def tb_Mo_goesOn : mz_T := [mz_qa (.aload_n 0) 1 [0],
  mz_qa (.aload_n 0) 1 [0],
  mz_qa (.getfield 90) 3 [7, 6, 0, 756],
  none,
  none,
  mz_qa (.putfield 80) 3 [7, 2, 0, 0, 752],
  none,
  none,
  mz_qc (.iconst 0) 1 (0),
  mz_qk (.istore_n 1) 1 (0) [1] [] (none) (some [0, 1]),
  mz_qa (.iload_n 1) 1 [1],
  mz_qa (.aload_n 0) 1 [0],
  mz_qa (.getfield 90) 3 [7, 6, 0, 756],
  none,
  none,
  mz_qa (.if_icmp .ge 21) 3 [36],
  none,
  none,
  mz_qa (.aload_n 0) 1 [0],
  mz_qa (.getfield 13) 3 [7, 1, 0, 751],
  none,
  none,
  mz_qa (.iload_n 1) 1 [1],
  mz_qa (.aload_n 0) 1 [0],
  mz_qa (.getfield 20) 3 [7, 5, 0, 755],
  none,
  none,
  mz_qa (.iload_n 1) 1 [1],
  mz_q .laload 1,
  mz_q .lastore 1,
  mz_qk (.iinc 1 1) 3 (1) [1] [] (none) (none),
  none,
  none,
  mz_qk (.goto (-23)) 3 (0) [10] [] (some [0, 1]) (none),
  none,
  none,
  mz_q .return_ 1]
def tb_Mo_copiesToTwo : mz_T := [mz_qa (.aload_n 0) 1 [0],
  mz_qa (.aload_n 0) 1 [0],
  mz_qa (.getfield 90) 3 [7, 6, 0, 756],
  none,
  none,
  mz_qa (.putfield 87) 3 [7, 4, 0, 0, 754],
  none,
  none,
  mz_qc (.iconst 0) 1 (0),
  mz_qk (.istore_n 1) 1 (0) [1] [] (none) (some [0, 1]),
  mz_qa (.iload_n 1) 1 [1],
  mz_qa (.aload_n 0) 1 [0],
  mz_qa (.getfield 90) 3 [7, 6, 0, 756],
  none,
  none,
  mz_qa (.if_icmp .ge 21) 3 [36],
  none,
  none,
  mz_qa (.aload_n 0) 1 [0],
  mz_qa (.getfield 17) 3 [7, 3, 0, 753],
  none,
  none,
  mz_qa (.iload_n 1) 1 [1],
  mz_qa (.aload_n 0) 1 [0],
  mz_qa (.getfield 20) 3 [7, 5, 0, 755],
  none,
  none,
  mz_qa (.iload_n 1) 1 [1],
  mz_q .laload 1,
  mz_q .lastore 1,
  mz_qk (.iinc 1 1) 3 (1) [1] [] (none) (none),
  none,
  none,
  mz_qk (.goto (-23)) 3 (0) [10] [] (some [0, 1]) (none),
  none,
  none,
  mz_q .return_ 1]
def tb_Mo_keeps : mz_T := [mz_qa (.aload_n 0) 1 [0],
  mz_qa (.invokevirtual 93) 3 [7, 127, 1, 0, 0, 2, 0, 865],
  none,
  none,
  mz_qa (.aload_n 0) 1 [0],
  mz_qa (.getfield 7) 3 [7, 0, 0, 750],
  none,
  none,
  mz_qc (.iconst 2) 1 (2),
  mz_qa (.iload_n 1) 1 [1],
  mz_q .iadd 1,
  mz_qa (.aload_n 0) 1 [0],
  mz_qa (.getfield 90) 3 [7, 6, 0, 756],
  none,
  none,
  mz_q .iastore 1,
  mz_qc (.iconst 0) 1 (0),
  mz_qk (.istore_n 2) 1 (0) [2] [] (none) (some [0, 1, 2]),
  mz_qa (.iload_n 2) 1 [2],
  mz_qc (.bipush 40) 2 (40),
  none,
  mz_qa (.if_icmp .ge 42) 3 [63],
  none,
  none,
  mz_qa (.aload_n 0) 1 [0],
  mz_qa (.getfield 7) 3 [7, 0, 0, 750],
  none,
  none,
  mz_qc (.bipush 6) 2 (6),
  none,
  mz_qc (.bipush 40) 2 (40),
  none,
  mz_qa (.iload_n 1) 1 [1],
  mz_q .imul 1,
  mz_q .iadd 1,
  mz_qa (.iload_n 2) 1 [2],
  mz_q .iadd 1,
  mz_qa (.iload_n 2) 1 [2],
  mz_qa (.aload_n 0) 1 [0],
  mz_qa (.getfield 90) 3 [7, 6, 0, 756],
  none,
  none,
  mz_qa (.if_icmp .ge 13) 3 [55],
  none,
  none,
  mz_qa (.aload_n 0) 1 [0],
  mz_qa (.getfield 20) 3 [7, 5, 0, 755],
  none,
  none,
  mz_qa (.iload_n 2) 1 [2],
  mz_q .laload 1,
  mz_q .l2i 1,
  mz_qa (.goto 4) 3 [56],
  none,
  none,
  mz_qc (.iconst 0) 1 (0),
  mz_q .iastore 1,
  mz_qk (.iinc 2 1) 3 (1) [2] [] (none) (none),
  none,
  none,
  mz_qk (.goto (-42)) 3 (0) [18] [] (some [0, 1, 2]) (none),
  none,
  none,
  mz_qa (.aload_n 0) 1 [0],
  mz_qa (.getfield 90) 3 [7, 6, 0, 756],
  none,
  none,
  mz_qa .ireturn 1 [0]]
def tb_Mo_wide : mz_T := [mz_qc (.iconst 0) 1 (0),
  mz_qa (.istore_n 1) 1 [1],
  mz_qc (.iconst 0) 1 (0),
  mz_qk (.istore_n 2) 1 (0) [2] [] (none) (some [0, 1, 2]),
  mz_qa (.iload_n 2) 1 [2],
  mz_qa (.aload_n 0) 1 [0],
  mz_qa (.getfield 90) 3 [7, 6, 0, 756],
  none,
  none,
  mz_qa (.if_icmp .ge 37) 3 [46],
  none,
  none,
  mz_qa (.iload_n 1) 1 [1],
  mz_qa (.ifCond .ne 21) 3 [34],
  none,
  none,
  mz_qa (.aload_n 0) 1 [0],
  mz_qa (.getfield 20) 3 [7, 5, 0, 755],
  none,
  none,
  mz_qa (.iload_n 2) 1 [2],
  mz_q .laload 1,
  mz_ql (.ldc2_w 96) 3 (-100000000) [900],
  none,
  none,
  mz_ql (.ldc2_w 98) 3 (100000000) [901],
  none,
  none,
  mz_qa (.invokestatic 72) 3 [1, 101, 3, 1, 0, 6, 0, 843],
  none,
  none,
  mz_qa (.ifCond .ne 7) 3 [38],
  none,
  none,
  mz_qc (.iconst 1) 1 (1),
  mz_qa (.goto 4) 3 [39],
  none,
  none,
  mz_qc (.iconst 0) 1 (0),
  mz_qa (.istore_n 1) 1 [1],
  mz_qk (.iinc 2 1) 3 (1) [2] [] (none) (none),
  none,
  none,
  mz_qk (.goto (-39)) 3 (0) [4] [] (some [0, 1, 2]) (none),
  none,
  none,
  mz_qa (.iload_n 1) 1 [1],
  mz_qa (.ifCond .eq 8) 3 [55],
  none,
  none,
  mz_qk (.ldc 100) 2 (-1000005) [902] [] (none) (none),
  none,
  mz_qa (.goto 4) 3 [56],
  none,
  none,
  mz_qc (.iconst 0) 1 (0),
  mz_qa .ireturn 1 [0]]
def tb_Mo_product : mz_T := [mz_ql (.lconst 0) 1 (0) [],
  mz_qa (.lstore_n 2) 1 [2],
  mz_qc (.iconst 0) 1 (0),
  mz_qk (.istore 4) 2 (0) [4] [] (none) (some [0, 1, 2, 4]),
  none,
  mz_qa (.iload 4) 2 [4],
  none,
  mz_qa (.iload_n 1) 1 [1],
  mz_qa (.if_icmp .gt 29) 3 [37],
  none,
  none,
  mz_qa (.lload_n 2) 1 [2],
  mz_qa (.aload_n 0) 1 [0],
  mz_qa (.getfield 13) 3 [7, 1, 0, 751],
  none,
  none,
  mz_qa (.iload 4) 2 [4],
  none,
  mz_q .laload 1,
  mz_qa (.aload_n 0) 1 [0],
  mz_qa (.getfield 17) 3 [7, 3, 0, 753],
  none,
  none,
  mz_qa (.iload_n 1) 1 [1],
  mz_qa (.iload 4) 2 [4],
  none,
  mz_q .isub 1,
  mz_q .laload 1,
  mz_q .lmul 1,
  mz_q .ladd 1,
  mz_qa (.lstore_n 2) 1 [2],
  mz_qk (.iinc 4 1) 3 (1) [4] [] (none) (none),
  none,
  none,
  mz_qk (.goto (-29)) 3 (0) [5] [] (some [0, 1, 2, 4]) (none),
  none,
  none,
  mz_qa (.lload_n 2) 1 [2],
  mz_q .lreturn 1]
def tb_Mo_over : mz_T := [mz_qa (.aload_n 0) 1 [0],
  mz_qa (.getfield 17) 3 [7, 3, 0, 753],
  none,
  none,
  mz_qc (.iconst 0) 1 (0),
  mz_q .laload 1,
  mz_ql (.lconst 1) 1 (1) [],
  mz_q .lcmp 1,
  mz_qa (.ifCond .eq 19) 3 [27],
  none,
  none,
  mz_qa (.aload_n 0) 1 [0],
  mz_qa (.getfield 17) 3 [7, 3, 0, 753],
  none,
  none,
  mz_qc (.iconst 0) 1 (0),
  mz_q .laload 1,
  mz_ql (.ldc2_w 101) 3 (-1) [898],
  none,
  none,
  mz_q .lcmp 1,
  mz_qa (.ifCond .eq 6) 3 [27],
  none,
  none,
  mz_qk (.ldc 103) 2 (-1000006) [899] [] (none) (none),
  none,
  mz_qa .ireturn 1 [0],
  mz_qc (.iconst 0) 1 (0),
  mz_qk (.istore_n 1) 1 (0) [1] [] (none) (some [0, 1]),
  mz_qa (.iload_n 1) 1 [1],
  mz_qa (.aload_n 0) 1 [0],
  mz_qa (.getfield 90) 3 [7, 6, 0, 756],
  none,
  none,
  mz_qa (.if_icmp .ge 86) 3 [120],
  none,
  none,
  mz_qa (.aload_n 0) 1 [0],
  mz_qa (.getfield 13) 3 [7, 1, 0, 751],
  none,
  none,
  mz_qa (.iload_n 1) 1 [1],
  mz_q .laload 1,
  mz_qa (.lstore_n 2) 1 [2],
  mz_qc (.iconst 1) 1 (1),
  mz_qk (.istore 4) 2 (0) [4] [] (none) (some [0, 1, 2, 4]),
  none,
  mz_qa (.iload 4) 2 [4],
  none,
  mz_qa (.iload_n 1) 1 [1],
  mz_qa (.if_icmp .gt 29) 3 [79],
  none,
  none,
  mz_qa (.lload_n 2) 1 [2],
  mz_qa (.aload_n 0) 1 [0],
  mz_qa (.getfield 17) 3 [7, 3, 0, 753],
  none,
  none,
  mz_qa (.iload 4) 2 [4],
  none,
  mz_q .laload 1,
  mz_qa (.aload_n 0) 1 [0],
  mz_qa (.getfield 20) 3 [7, 5, 0, 755],
  none,
  none,
  mz_qa (.iload_n 1) 1 [1],
  mz_qa (.iload 4) 2 [4],
  none,
  mz_q .isub 1,
  mz_q .laload 1,
  mz_q .lmul 1,
  mz_q .lsub 1,
  mz_qa (.lstore_n 2) 1 [2],
  mz_qk (.iinc 4 1) 3 (1) [4] [] (none) (none),
  none,
  none,
  mz_qk (.goto (-29)) 3 (0) [47] [] (some [0, 1, 2, 4]) (none),
  none,
  none,
  mz_qa (.aload_n 0) 1 [0],
  mz_qa (.getfield 20) 3 [7, 5, 0, 755],
  none,
  none,
  mz_qa (.iload_n 1) 1 [1],
  mz_qa (.lload_n 2) 1 [2],
  mz_qa (.aload_n 0) 1 [0],
  mz_qa (.getfield 17) 3 [7, 3, 0, 753],
  none,
  none,
  mz_qc (.iconst 0) 1 (0),
  mz_q .laload 1,
  mz_q .lmul 1,
  mz_q .lastore 1,
  mz_qa (.aload_n 0) 1 [0],
  mz_qa (.getfield 20) 3 [7, 5, 0, 755],
  none,
  none,
  mz_qa (.iload_n 1) 1 [1],
  mz_q .laload 1,
  mz_ql (.ldc2_w 96) 3 (-100000000) [900],
  none,
  none,
  mz_ql (.ldc2_w 98) 3 (100000000) [901],
  none,
  none,
  mz_qa (.invokestatic 72) 3 [1, 101, 3, 1, 0, 6, 0, 843],
  none,
  none,
  mz_qa (.ifCond .ne 6) 3 [114],
  none,
  none,
  mz_qk (.ldc 100) 2 (-1000005) [902] [] (none) (none),
  none,
  mz_qa .ireturn 1 [0],
  mz_qk (.iinc 1 1) 3 (1) [1] [] (none) (none),
  none,
  none,
  mz_qk (.goto (-88)) 3 (0) [29] [] (some [0, 1]) (none),
  none,
  none,
  mz_qc (.iconst 0) 1 (0),
  mz_qa .ireturn 1 [0]]
def tb_Mo_joins : mz_T := [mz_qa (.aload_n 0) 1 [0],
  mz_qa (.aload_n 0) 1 [0],
  mz_qa (.getfield 80) 3 [7, 2, 0, 752],
  none,
  none,
  mz_qa (.aload_n 0) 1 [0],
  mz_qa (.getfield 87) 3 [7, 4, 0, 754],
  none,
  none,
  mz_qa (.if_icmp .ge 10) 3 [19],
  none,
  none,
  mz_qa (.aload_n 0) 1 [0],
  mz_qa (.getfield 80) 3 [7, 2, 0, 752],
  none,
  none,
  mz_qa (.goto 7) 3 [23],
  none,
  none,
  mz_qa (.aload_n 0) 1 [0],
  mz_qa (.getfield 87) 3 [7, 4, 0, 754],
  none,
  none,
  mz_qa (.putfield 90) 3 [7, 6, 0, 0, 756],
  none,
  none,
  mz_qa (.iload_n 1) 1 [1],
  mz_qc (.iconst 3) 1 (3),
  mz_qa (.if_icmp .ne 8) 3 [36],
  none,
  none,
  mz_qa (.aload_n 0) 1 [0],
  mz_qa (.invokevirtual 104) 3 [7, 112, 1, 1, 0, 5, 0, 894],
  none,
  none,
  mz_qa .ireturn 1 [0],
  mz_qc (.iconst 0) 1 (0),
  mz_qk (.istore_n 2) 1 (0) [2] [] (none) (some [0, 1, 2]),
  mz_qa (.iload_n 2) 1 [2],
  mz_qa (.aload_n 0) 1 [0],
  mz_qa (.getfield 90) 3 [7, 6, 0, 756],
  none,
  none,
  mz_qa (.if_icmp .ge 61) 3 [104],
  none,
  none,
  mz_qa (.aload_n 0) 1 [0],
  mz_qa (.getfield 20) 3 [7, 5, 0, 755],
  none,
  none,
  mz_qa (.iload_n 2) 1 [2],
  mz_qa (.iload_n 1) 1 [1],
  mz_qa (.ifCond .ne 19) 3 [71],
  none,
  none,
  mz_qa (.aload_n 0) 1 [0],
  mz_qa (.getfield 13) 3 [7, 1, 0, 751],
  none,
  none,
  mz_qa (.iload_n 2) 1 [2],
  mz_q .laload 1,
  mz_qa (.aload_n 0) 1 [0],
  mz_qa (.getfield 17) 3 [7, 3, 0, 753],
  none,
  none,
  mz_qa (.iload_n 2) 1 [2],
  mz_q .laload 1,
  mz_q .ladd 1,
  mz_qa (.goto 29) 3 [97],
  none,
  none,
  mz_qa (.iload_n 1) 1 [1],
  mz_qc (.iconst 1) 1 (1),
  mz_qa (.if_icmp .ne 19) 3 [92],
  none,
  none,
  mz_qa (.aload_n 0) 1 [0],
  mz_qa (.getfield 13) 3 [7, 1, 0, 751],
  none,
  none,
  mz_qa (.iload_n 2) 1 [2],
  mz_q .laload 1,
  mz_qa (.aload_n 0) 1 [0],
  mz_qa (.getfield 17) 3 [7, 3, 0, 753],
  none,
  none,
  mz_qa (.iload_n 2) 1 [2],
  mz_q .laload 1,
  mz_q .lsub 1,
  mz_qa (.goto 8) 3 [97],
  none,
  none,
  mz_qa (.aload_n 0) 1 [0],
  mz_qa (.iload_n 2) 1 [2],
  mz_qa (.invokevirtual 108) 3 [7, 111, 2, 2, 0, 5, 0, 903],
  none,
  none,
  mz_q .lastore 1,
  mz_qk (.iinc 2 1) 3 (1) [2] [] (none) (none),
  none,
  none,
  mz_qk (.goto (-63)) 3 (0) [38] [] (some [0, 1, 2]) (none),
  none,
  none,
  mz_qa (.aload_n 0) 1 [0],
  mz_qa (.invokevirtual 112) 3 [7, 110, 1, 1, 0, 3, 0, 907],
  none,
  none,
  mz_qa .ireturn 1 [0]]
def tb_Mo_makes : mz_T := [mz_qa (.aload_n 0) 1 [0],
  mz_qa (.iload_n 3) 1 [3],
  mz_qa (.putfield 90) 3 [7, 6, 0, 0, 756],
  none,
  none,
  mz_qc (.iconst 0) 1 (0),
  mz_qk (.istore 4) 2 (0) [4] [] (none) (some [0, 1, 2, 3, 4]),
  none,
  mz_qa (.iload 4) 2 [4],
  none,
  mz_qa (.iload_n 3) 1 [3],
  mz_qa (.if_icmp .ge 17) 3 [28],
  none,
  none,
  mz_qa (.aload_n 0) 1 [0],
  mz_qa (.getfield 20) 3 [7, 5, 0, 755],
  none,
  none,
  mz_qa (.iload 4) 2 [4],
  none,
  mz_ql (.lconst 0) 1 (0) [],
  mz_q .lastore 1,
  mz_qk (.iinc 4 1) 3 (1) [4] [] (none) (none),
  none,
  none,
  mz_qk (.goto (-17)) 3 (0) [8] [] (some [0, 1, 2, 3, 4]) (none),
  none,
  none,
  mz_qa (.iload_n 1) 1 [1],
  mz_qa (.ifCond .eq 8) 3 [37],
  none,
  none,
  mz_qa (.iload_n 1) 1 [1],
  mz_qc (.iconst 4) 1 (4),
  mz_qa (.if_icmp .ne 16) 3 [50],
  none,
  none,
  mz_qa (.iload_n 2) 1 [2],
  mz_qa (.iload_n 3) 1 [3],
  mz_qa (.if_icmp .ge 10) 3 [49],
  none,
  none,
  mz_qa (.aload_n 0) 1 [0],
  mz_qa (.getfield 20) 3 [7, 5, 0, 755],
  none,
  none,
  mz_qa (.iload_n 2) 1 [2],
  mz_ql (.lconst 1) 1 (1) [],
  mz_q .lastore 1,
  mz_q .return_ 1,
  mz_qa (.iload_n 1) 1 [1],
  mz_qc (.iconst 3) 1 (3),
  mz_qa (.if_icmp .ne 10) 3 [62],
  none,
  none,
  mz_qa (.aload_n 0) 1 [0],
  mz_qa (.iload_n 2) 1 [2],
  mz_qa (.iload_n 3) 1 [3],
  mz_qa (.invokevirtual 115) 3 [7, 115, 3, 0, 0, 5, 0, 856],
  none,
  none,
  mz_q .return_ 1,
  mz_qc (.iconst 0) 1 (0),
  mz_qk (.istore 4) 2 (0) [4] [] (none) (some [0, 1, 2, 3, 4]),
  none,
  mz_qa (.iload 4) 2 [4],
  none,
  mz_qc (.bipush 40) 2 (40),
  none,
  mz_qa (.if_icmp .ge 70) 3 [139],
  none,
  none,
  mz_qa (.iload_n 1) 1 [1],
  mz_qc (.iconst 1) 1 (1),
  mz_qa (.if_icmp .ne 13) 3 [87],
  none,
  none,
  mz_qa (.iload_n 2) 1 [2],
  mz_qa (.iload 4) 2 [4],
  none,
  mz_q .imul 1,
  mz_qa (.iload 4) 2 [4],
  none,
  mz_q .imul 1,
  mz_qa (.goto 14) 3 [98],
  none,
  none,
  mz_qa (.iload_n 2) 1 [2],
  mz_qa (.iload 4) 2 [4],
  none,
  mz_q .imul 1,
  mz_qa (.iload 4) 2 [4],
  none,
  mz_qc (.iconst 1) 1 (1),
  mz_q .iadd 1,
  mz_q .imul 1,
  mz_qc (.iconst 2) 1 (2),
  mz_q .idiv 1,
  mz_qa (.istore 5) 2 [5],
  none,
  mz_qa (.iload 5) 2 [5],
  none,
  mz_qa (.iload_n 3) 1 [3],
  mz_qa (.if_icmp .ge 30) 3 [133],
  none,
  none,
  mz_qa (.aload_n 0) 1 [0],
  mz_qa (.getfield 20) 3 [7, 5, 0, 755],
  none,
  none,
  mz_qa (.iload 5) 2 [5],
  none,
  mz_q .dup2 1,
  mz_q .laload 1,
  mz_qa (.iload_n 1) 1 [1],
  mz_qc (.iconst 1) 1 (1),
  mz_qa (.if_icmp .ne 14) 3 [130],
  none,
  none,
  mz_qa (.iload 4) 2 [4],
  none,
  mz_qa (.ifCond .le 9) 3 [130],
  none,
  none,
  mz_ql (.ldc2_w 119) 3 (2) [860],
  none,
  none,
  mz_qa (.goto 4) 3 [131],
  none,
  none,
  mz_ql (.lconst 1) 1 (1) [],
  mz_q .ladd 1,
  mz_q .lastore 1,
  mz_qk (.iinc 4 1) 3 (1) [4] [] (none) (none),
  none,
  none,
  mz_qk (.goto (-71)) 3 (0) [65] [] (some [0, 1, 2, 3, 4]) (none),
  none,
  none,
  mz_q .return_ 1]
def tb_Mo_euler : mz_T := [mz_qa (.aload_n 0) 1 [0],
  mz_qa (.getfield 20) 3 [7, 5, 0, 755],
  none,
  none,
  mz_qc (.iconst 0) 1 (0),
  mz_ql (.lconst 1) 1 (1) [],
  mz_q .lastore 1,
  mz_qa (.iload_n 1) 1 [1],
  mz_qk (.istore_n 3) 1 (0) [3] [] (none) (some [0, 1, 2, 3]),
  mz_qa (.iload_n 3) 1 [3],
  mz_qa (.iload_n 2) 1 [2],
  mz_qa (.if_icmp .ge 46) 3 [57],
  none,
  none,
  mz_qa (.iload_n 2) 1 [2],
  mz_qc (.iconst 1) 1 (1),
  mz_q .isub 1,
  mz_qk (.istore 4) 2 (0) [4] [] (none) (some [0, 1, 2, 3, 4]),
  none,
  mz_qa (.iload 4) 2 [4],
  none,
  mz_qa (.iload_n 3) 1 [3],
  mz_qa (.if_icmp .lt 28) 3 [50],
  none,
  none,
  mz_qa (.aload_n 0) 1 [0],
  mz_qa (.getfield 20) 3 [7, 5, 0, 755],
  none,
  none,
  mz_qa (.iload 4) 2 [4],
  none,
  mz_q .dup2 1,
  mz_q .laload 1,
  mz_qa (.aload_n 0) 1 [0],
  mz_qa (.getfield 20) 3 [7, 5, 0, 755],
  none,
  none,
  mz_qa (.iload 4) 2 [4],
  none,
  mz_qa (.iload_n 3) 1 [3],
  mz_q .isub 1,
  mz_q .laload 1,
  mz_q .lsub 1,
  mz_q .lastore 1,
  mz_qk (.iinc 4 (-1)) 3 (-1) [4] [] (none) (none),
  none,
  none,
  mz_qk (.goto (-28)) 3 (0) [19] [] (some [0, 1, 2, 3, 4]) (none),
  none,
  none,
  mz_qa (.iload_n 3) 1 [3],
  mz_qa (.iload_n 1) 1 [1],
  mz_q .iadd 1,
  mz_qa (.istore_n 3) 1 [3],
  mz_qk (.goto (-45)) 3 (0) [9] [] (some [0, 1, 2, 3]) (none),
  none,
  none,
  mz_q .return_ 1]
def tb_Mo_powers : mz_T := [mz_qa (.aload_n 0) 1 [0],
  mz_qa (.getfield 90) 3 [7, 6, 0, 756],
  none,
  none,
  mz_qa (.istore_n 2) 1 [2],
  mz_qa (.aload_n 0) 1 [0],
  mz_qa (.invokevirtual 121) 3 [7, 108, 1, 0, 0, 2, 0, 930],
  none,
  none,
  mz_qa (.aload_n 0) 1 [0],
  mz_qc (.iconst 0) 1 (0),
  mz_qc (.iconst 0) 1 (0),
  mz_qa (.iload_n 2) 1 [2],
  mz_qa (.invokevirtual 124) 3 [7, 114, 4, 0, 0, 6, 0, 852],
  none,
  none,
  mz_qc (.iconst 0) 1 (0),
  mz_qa (.istore_n 3) 1 [3],
  mz_qc (.iconst 0) 1 (0),
  mz_qk (.istore 4) 2 (0) [4] [] (none) (some [0, 1, 3, 4]),
  none,
  mz_qa (.iload 4) 2 [4],
  none,
  mz_qa (.iload_n 1) 1 [1],
  mz_qa (.if_icmp .ge 23) 3 [47],
  none,
  none,
  mz_qa (.iload_n 3) 1 [3],
  mz_qa (.ifCond .ne 19) 3 [47],
  none,
  none,
  mz_qa (.aload_n 0) 1 [0],
  mz_qa (.invokevirtual 128) 3 [7, 107, 1, 0, 0, 2, 0, 934],
  none,
  none,
  mz_qa (.aload_n 0) 1 [0],
  mz_qc (.iconst 2) 1 (2),
  mz_qa (.invokevirtual 131) 3 [7, 113, 2, 1, 0, 3, 0, 890],
  none,
  none,
  mz_qa (.istore_n 3) 1 [3],
  mz_qk (.iinc 4 1) 3 (1) [4] [] (none) (none),
  none,
  none,
  mz_qk (.goto (-23)) 3 (0) [21] [] (some [0, 1, 3, 4]) (none),
  none,
  none,
  mz_qa (.iload_n 3) 1 [3],
  mz_qa .ireturn 1 [0]]
def tb_Mo_isKind : mz_T := [mz_qa (.iload_n 0) 1 [0],
  mz_qa (.ifCond .ne 15) 3 [16],
  none,
  none,
  mz_qa (.iload_n 1) 1 [1],
  mz_qa (.ifCond .ne 7) 3 [12],
  none,
  none,
  mz_qc (.iconst 1) 1 (1),
  mz_qa (.goto 53) 3 [62],
  none,
  none,
  mz_qc (.iconst 0) 1 (0),
  mz_qa (.goto 49) 3 [62],
  none,
  none,
  mz_qa (.iload_n 0) 1 [0],
  mz_qc (.iconst 4) 1 (4),
  mz_qa (.if_icmp .ne 15) 3 [33],
  none,
  none,
  mz_qa (.iload_n 1) 1 [1],
  mz_q .i2l 1,
  mz_ql (.lconst 0) 1 (0) [],
  mz_ql (.ldc2_w 134) 3 (39) [849],
  none,
  none,
  mz_qa (.invokestatic 72) 3 [1, 101, 3, 1, 0, 6, 0, 843],
  none,
  none,
  mz_qa (.goto 32) 3 [62],
  none,
  none,
  mz_qa (.iload_n 0) 1 [0],
  mz_q .i2l 1,
  mz_ql (.lconst 1) 1 (1) [],
  mz_ql (.ldc2_w 70) 3 (3) [842],
  none,
  none,
  mz_qa (.invokestatic 72) 3 [1, 101, 3, 1, 0, 6, 0, 843],
  none,
  none,
  mz_qa (.ifCond .eq 19) 3 [61],
  none,
  none,
  mz_qa (.iload_n 1) 1 [1],
  mz_q .i2l 1,
  mz_ql (.lconst 1) 1 (1) [],
  mz_ql (.ldc2_w 136) 3 (9) [850],
  none,
  none,
  mz_qa (.invokestatic 72) 3 [1, 101, 3, 1, 0, 6, 0, 843],
  none,
  none,
  mz_qa (.ifCond .eq 7) 3 [61],
  none,
  none,
  mz_qc (.iconst 1) 1 (1),
  mz_qa (.goto 4) 3 [62],
  none,
  none,
  mz_qc (.iconst 0) 1 (0),
  mz_qa .ireturn 1 [1]]
def tb_Mo_make : mz_T := [mz_qa (.iload_n 1) 1 [1],
  mz_qa (.invokestatic 138) 3 [1, 102, 1, 1, 0, 1, 0, 839],
  none,
  none,
  mz_qa (.ifCond .eq 11) 3 [15],
  none,
  none,
  mz_qa (.iload_n 2) 1 [2],
  mz_qa (.iload_n 3) 1 [3],
  mz_qa (.invokestatic 142) 3 [1, 117, 2, 1, 0, 2, 0, 846],
  none,
  none,
  mz_qa (.ifCond .ne 6) 3 [18],
  none,
  none,
  mz_qk (.ldc 146) 2 (-1000001) [851] [] (none) (none),
  none,
  mz_qa .ireturn 1 [0],
  mz_qa (.aload_n 0) 1 [0],
  mz_qa (.iload_n 2) 1 [2],
  mz_qa (.iload_n 3) 1 [3],
  mz_qa (.aload_n 0) 1 [0],
  mz_qa (.getfield 7) 3 [7, 0, 0, 750],
  none,
  none,
  mz_qc (.iconst 0) 1 (0),
  mz_q .iaload 1,
  mz_qa (.invokevirtual 124) 3 [7, 114, 4, 0, 0, 6, 0, 852],
  none,
  none,
  mz_qa (.aload_n 0) 1 [0],
  mz_qa (.iload_n 1) 1 [1],
  mz_qa (.invokevirtual 147) 3 [7, 109, 2, 1, 0, 3, 0, 861],
  none,
  none,
  mz_qa .ireturn 1 [0]]
def tb_Mo_join : mz_T := [mz_qa (.iload_n 1) 1 [1],
  mz_qa (.invokestatic 138) 3 [1, 102, 1, 1, 0, 1, 0, 839],
  none,
  none,
  mz_qa (.ifCond .eq 30) 3 [34],
  none,
  none,
  mz_qa (.iload_n 2) 1 [2],
  mz_q .i2l 1,
  mz_ql (.lconst 0) 1 (0) [],
  mz_ql (.ldc2_w 70) 3 (3) [842],
  none,
  none,
  mz_qa (.invokestatic 72) 3 [1, 101, 3, 1, 0, 6, 0, 843],
  none,
  none,
  mz_qa (.ifCond .eq 18) 3 [34],
  none,
  none,
  mz_qa (.iload_n 3) 1 [3],
  mz_qa (.invokestatic 138) 3 [1, 102, 1, 1, 0, 1, 0, 839],
  none,
  none,
  mz_qa (.ifCond .eq 11) 3 [34],
  none,
  none,
  mz_qa (.iload 4) 2 [4],
  none,
  mz_qa (.invokestatic 138) 3 [1, 102, 1, 1, 0, 1, 0, 839],
  none,
  none,
  mz_qa (.ifCond .ne 6) 3 [37],
  none,
  none,
  mz_qk (.ldc 146) 2 (-1000001) [851] [] (none) (none),
  none,
  mz_qa .ireturn 1 [0],
  mz_qa (.aload_n 0) 1 [0],
  mz_qa (.iload_n 3) 1 [3],
  mz_qa (.invokevirtual 76) 3 [7, 103, 2, 1, 0, 2, 0, 873],
  none,
  none,
  mz_qa (.ifCond .eq 12) 3 [54],
  none,
  none,
  mz_qa (.aload_n 0) 1 [0],
  mz_qa (.iload 4) 2 [4],
  none,
  mz_qa (.invokevirtual 76) 3 [7, 103, 2, 1, 0, 2, 0, 873],
  none,
  none,
  mz_qa (.ifCond .ne 6) 3 [57],
  none,
  none,
  mz_qk (.ldc 150) 2 (-1000011) [877] [] (none) (none),
  none,
  mz_qa .ireturn 1 [0],
  mz_qa (.aload_n 0) 1 [0],
  mz_qa (.iload_n 3) 1 [3],
  mz_qa (.invokevirtual 151) 3 [7, 105, 2, 0, 0, 3, 0, 878],
  none,
  none,
  mz_qa (.aload_n 0) 1 [0],
  mz_qa (.iload 4) 2 [4],
  none,
  mz_qa (.invokevirtual 155) 3 [7, 106, 2, 0, 0, 3, 0, 886],
  none,
  none,
  mz_qa (.aload_n 0) 1 [0],
  mz_qa (.iload_n 2) 1 [2],
  mz_qa (.invokevirtual 131) 3 [7, 113, 2, 1, 0, 3, 0, 890],
  none,
  none,
  mz_qa (.istore 5) 2 [5],
  none,
  mz_qa (.iload 5) 2 [5],
  none,
  mz_qa (.ifCond .ge 8) 3 [85],
  none,
  none,
  mz_qa (.iload 5) 2 [5],
  none,
  mz_qa (.goto 8) 3 [90],
  none,
  none,
  mz_qa (.aload_n 0) 1 [0],
  mz_qa (.iload_n 1) 1 [1],
  mz_qa (.invokevirtual 147) 3 [7, 109, 2, 1, 0, 3, 0, 861],
  none,
  none,
  mz_qa .ireturn 1 [0]]
def tb_Mo_isChange : mz_T := [mz_qa (.iload_n 0) 1 [0],
  mz_qk (.tableswitch 146 0 6 #[43, 53, 63, 73, 113, 124, 134]) 43 (0) [147] [(0, 44), (1, 54), (2, 64), (3, 74), (4, 114), (5, 125), (6, 135)] (none) (none),
  none,
  none,
  none,
  none,
  none,
  none,
  none,
  none,
  none,
  none,
  none,
  none,
  none,
  none,
  none,
  none,
  none,
  none,
  none,
  none,
  none,
  none,
  none,
  none,
  none,
  none,
  none,
  none,
  none,
  none,
  none,
  none,
  none,
  none,
  none,
  none,
  none,
  none,
  none,
  none,
  none,
  none,
  mz_qa (.iload_n 1) 1 [1],
  mz_q .i2l 1,
  mz_ql (.lconst 0) 1 (0) [],
  mz_ql (.ldc2_w 136) 3 (9) [850],
  none,
  none,
  mz_qa (.invokestatic 72) 3 [1, 101, 3, 1, 0, 6, 0, 843],
  none,
  none,
  mz_qa .ireturn 1 [1],
  mz_qa (.iload_n 1) 1 [1],
  mz_q .i2l 1,
  mz_ql (.lconst 1) 1 (1) [],
  mz_ql (.ldc2_w 158) 3 (8) [918],
  none,
  none,
  mz_qa (.invokestatic 72) 3 [1, 101, 3, 1, 0, 6, 0, 843],
  none,
  none,
  mz_qa .ireturn 1 [1],
  mz_qa (.iload_n 1) 1 [1],
  mz_qa (.ifCond .ne 7) 3 [72],
  none,
  none,
  mz_qc (.iconst 1) 1 (1),
  mz_qa (.goto 4) 3 [73],
  none,
  none,
  mz_qc (.iconst 0) 1 (0),
  mz_qa .ireturn 1 [1],
  mz_qa (.iload_n 1) 1 [1],
  mz_qc (.bipush 10) 2 (10),
  none,
  mz_q .idiv 1,
  mz_q .i2l 1,
  mz_ql (.lconst 1) 1 (1) [],
  mz_ql (.ldc2_w 158) 3 (8) [918],
  none,
  none,
  mz_qa (.invokestatic 72) 3 [1, 101, 3, 1, 0, 6, 0, 843],
  none,
  none,
  mz_qa (.ifCond .eq 26) 3 [112],
  none,
  none,
  mz_qa (.iload_n 1) 1 [1],
  mz_qc (.bipush 10) 2 (10),
  none,
  mz_q .irem 1,
  mz_q .i2l 1,
  mz_ql (.lconst 0) 1 (0) [],
  mz_qa (.iload_n 1) 1 [1],
  mz_qc (.bipush 10) 2 (10),
  none,
  mz_q .idiv 1,
  mz_qc (.iconst 1) 1 (1),
  mz_q .isub 1,
  mz_q .i2l 1,
  mz_qa (.invokestatic 72) 3 [1, 101, 3, 1, 0, 6, 0, 843],
  none,
  none,
  mz_qa (.ifCond .eq 7) 3 [112],
  none,
  none,
  mz_qc (.iconst 1) 1 (1),
  mz_qa (.goto 4) 3 [113],
  none,
  none,
  mz_qc (.iconst 0) 1 (0),
  mz_qa .ireturn 1 [1],
  mz_qa (.iload_n 1) 1 [1],
  mz_qc (.iconst 1) 1 (1),
  mz_qa (.if_icmp .lt 7) 3 [123],
  none,
  none,
  mz_qc (.iconst 1) 1 (1),
  mz_qa (.goto 4) 3 [124],
  none,
  none,
  mz_qc (.iconst 0) 1 (0),
  mz_qa .ireturn 1 [1],
  mz_qa (.iload_n 1) 1 [1],
  mz_q .i2l 1,
  mz_ql (.lconst 0) 1 (0) [],
  mz_ql (.ldc2_w 158) 3 (8) [918],
  none,
  none,
  mz_qa (.invokestatic 72) 3 [1, 101, 3, 1, 0, 6, 0, 843],
  none,
  none,
  mz_qa .ireturn 1 [1],
  mz_qa (.iload_n 1) 1 [1],
  mz_q .i2l 1,
  mz_ql (.ldc2_w 160) 3 (-99) [919],
  none,
  none,
  mz_ql (.ldc2_w 162) 3 (99) [920],
  none,
  none,
  mz_qa (.invokestatic 72) 3 [1, 101, 3, 1, 0, 6, 0, 843],
  none,
  none,
  mz_qa .ireturn 1 [1],
  mz_qc (.iconst 0) 1 (0),
  mz_qa .ireturn 1 [1]]
def tb_Mo_changes : mz_T := [mz_qa (.aload_n 0) 1 [0],
  mz_qa (.iload_n 1) 1 [1],
  mz_qc (.iconst 4) 1 (4),
  mz_qa (.if_icmp .ne 7) 3 [10],
  none,
  none,
  mz_qa (.iload_n 2) 1 [2],
  mz_qa (.goto 7) 3 [14],
  none,
  none,
  mz_qa (.aload_n 0) 1 [0],
  mz_qa (.getfield 80) 3 [7, 2, 0, 752],
  none,
  none,
  mz_qa (.putfield 90) 3 [7, 6, 0, 0, 756],
  none,
  none,
  mz_qa (.iload_n 1) 1 [1],
  mz_qc (.iconst 3) 1 (3),
  mz_qa (.if_icmp .ne 70) 3 [89],
  none,
  none,
  mz_qa (.aload_n 0) 1 [0],
  mz_qc (.iconst 0) 1 (0),
  mz_qa (.putfield 90) 3 [7, 6, 0, 0, 756],
  none,
  none,
  mz_qa (.iload_n 2) 1 [2],
  mz_qc (.bipush 10) 2 (10),
  none,
  mz_q .irem 1,
  mz_qk (.istore_n 3) 1 (0) [3] [] (none) (some [0, 2, 3]),
  mz_qa (.iload_n 3) 1 [3],
  mz_qa (.aload_n 0) 1 [0],
  mz_qa (.getfield 80) 3 [7, 2, 0, 752],
  none,
  none,
  mz_qa (.if_icmp .ge 38) 3 [75],
  none,
  none,
  mz_qa (.aload_n 0) 1 [0],
  mz_qa (.getfield 20) 3 [7, 5, 0, 755],
  none,
  none,
  mz_qa (.aload_n 0) 1 [0],
  mz_qa (.getfield 90) 3 [7, 6, 0, 756],
  none,
  none,
  mz_qa (.aload_n 0) 1 [0],
  mz_qa (.getfield 13) 3 [7, 1, 0, 751],
  none,
  none,
  mz_qa (.iload_n 3) 1 [3],
  mz_q .laload 1,
  mz_q .lastore 1,
  mz_qa (.aload_n 0) 1 [0],
  mz_q .dup 1,
  mz_qa (.getfield 90) 3 [7, 6, 0, 756],
  none,
  none,
  mz_qc (.iconst 1) 1 (1),
  mz_q .iadd 1,
  mz_qa (.putfield 90) 3 [7, 6, 0, 0, 756],
  none,
  none,
  mz_qa (.iload_n 3) 1 [3],
  mz_qa (.iload_n 2) 1 [2],
  mz_qc (.bipush 10) 2 (10),
  none,
  mz_q .idiv 1,
  mz_q .iadd 1,
  mz_qa (.istore_n 3) 1 [3],
  mz_qk (.goto (-40)) 3 (0) [32] [] (some [0, 2, 3]) (none),
  none,
  none,
  mz_qa (.aload_n 0) 1 [0],
  mz_qa (.getfield 90) 3 [7, 6, 0, 756],
  none,
  none,
  mz_qa (.ifCond .ne 8) 3 [87],
  none,
  none,
  mz_qk (.ldc 164) 2 (-1000002) [925] [] (none) (none),
  none,
  mz_qa (.goto 4) 3 [88],
  none,
  none,
  mz_qc (.iconst 0) 1 (0),
  mz_qa .ireturn 1 [0],
  mz_qc (.iconst 0) 1 (0),
  mz_qk (.istore_n 3) 1 (0) [3] [] (none) (some [0, 1, 2, 3]),
  mz_qa (.iload_n 3) 1 [3],
  mz_qa (.aload_n 0) 1 [0],
  mz_qa (.getfield 90) 3 [7, 6, 0, 756],
  none,
  none,
  mz_qa (.if_icmp .ge 168) 3 [264],
  none,
  none,
  mz_qa (.iload_n 1) 1 [1],
  mz_qk (.tableswitch 146 0 6 #[44, 70, 97, 146, 146, 146, 128]) 44 (0) [246] [(0, 144), (1, 170), (2, 197), (3, 246), (4, 246), (5, 246), (6, 228)] (none) (none),
  none,
  none,
  none,
  none,
  none,
  none,
  none,
  none,
  none,
  none,
  none,
  none,
  none,
  none,
  none,
  none,
  none,
  none,
  none,
  none,
  none,
  none,
  none,
  none,
  none,
  none,
  none,
  none,
  none,
  none,
  none,
  none,
  none,
  none,
  none,
  none,
  none,
  none,
  none,
  none,
  none,
  none,
  none,
  mz_qa (.aload_n 0) 1 [0],
  mz_qa (.getfield 20) 3 [7, 5, 0, 755],
  none,
  none,
  mz_qa (.iload_n 3) 1 [3],
  mz_qa (.iload_n 3) 1 [3],
  mz_qa (.iload_n 2) 1 [2],
  mz_qa (.if_icmp .ge 7) 3 [158],
  none,
  none,
  mz_ql (.lconst 0) 1 (0) [],
  mz_qa (.goto 11) 3 [166],
  none,
  none,
  mz_qa (.aload_n 0) 1 [0],
  mz_qa (.getfield 13) 3 [7, 1, 0, 751],
  none,
  none,
  mz_qa (.iload_n 3) 1 [3],
  mz_qa (.iload_n 2) 1 [2],
  mz_q .isub 1,
  mz_q .laload 1,
  mz_q .lastore 1,
  mz_qa (.goto 91) 3 [258],
  none,
  none,
  mz_qa (.aload_n 0) 1 [0],
  mz_qa (.getfield 20) 3 [7, 5, 0, 755],
  none,
  none,
  mz_qa (.iload_n 3) 1 [3],
  mz_qa (.iload_n 3) 1 [3],
  mz_qa (.iload_n 2) 1 [2],
  mz_q .irem 1,
  mz_qa (.ifCond .ne 14) 3 [192],
  none,
  none,
  mz_qa (.aload_n 0) 1 [0],
  mz_qa (.getfield 13) 3 [7, 1, 0, 751],
  none,
  none,
  mz_qa (.iload_n 3) 1 [3],
  mz_qa (.iload_n 2) 1 [2],
  mz_q .idiv 1,
  mz_q .laload 1,
  mz_qa (.goto 4) 3 [193],
  none,
  none,
  mz_ql (.lconst 0) 1 (0) [],
  mz_q .lastore 1,
  mz_qa (.goto 64) 3 [258],
  none,
  none,
  mz_qa (.aload_n 0) 1 [0],
  mz_qa (.getfield 20) 3 [7, 5, 0, 755],
  none,
  none,
  mz_qa (.iload_n 3) 1 [3],
  mz_qa (.iload_n 3) 1 [3],
  mz_qc (.iconst 2) 1 (2),
  mz_q .irem 1,
  mz_qa (.ifCond .ne 12) 3 [217],
  none,
  none,
  mz_qa (.aload_n 0) 1 [0],
  mz_qa (.getfield 13) 3 [7, 1, 0, 751],
  none,
  none,
  mz_qa (.iload_n 3) 1 [3],
  mz_q .laload 1,
  mz_qa (.goto 10) 3 [224],
  none,
  none,
  mz_qa (.aload_n 0) 1 [0],
  mz_qa (.getfield 13) 3 [7, 1, 0, 751],
  none,
  none,
  mz_qa (.iload_n 3) 1 [3],
  mz_q .laload 1,
  mz_q .lneg 1,
  mz_q .lastore 1,
  mz_qa (.goto 33) 3 [258],
  none,
  none,
  mz_qa (.aload_n 0) 1 [0],
  mz_qa (.getfield 20) 3 [7, 5, 0, 755],
  none,
  none,
  mz_qa (.iload_n 3) 1 [3],
  mz_qa (.aload_n 0) 1 [0],
  mz_qa (.getfield 13) 3 [7, 1, 0, 751],
  none,
  none,
  mz_qa (.iload_n 3) 1 [3],
  mz_q .laload 1,
  mz_qa (.iload_n 2) 1 [2],
  mz_q .i2l 1,
  mz_q .lmul 1,
  mz_q .lastore 1,
  mz_qa (.goto 15) 3 [258],
  none,
  none,
  mz_qa (.aload_n 0) 1 [0],
  mz_qa (.getfield 20) 3 [7, 5, 0, 755],
  none,
  none,
  mz_qa (.iload_n 3) 1 [3],
  mz_qa (.aload_n 0) 1 [0],
  mz_qa (.getfield 13) 3 [7, 1, 0, 751],
  none,
  none,
  mz_qa (.iload_n 3) 1 [3],
  mz_q .laload 1,
  mz_q .lastore 1,
  mz_qk (.iinc 3 1) 3 (1) [3] [] (none) (none),
  none,
  none,
  mz_qk (.goto (-170)) 3 (0) [91] [] (some [0, 1, 2, 3]) (none),
  none,
  none,
  mz_qa (.iload_n 1) 1 [1],
  mz_qc (.iconst 5) 1 (5),
  mz_qa (.if_icmp .ne 11) 3 [277],
  none,
  none,
  mz_qa (.aload_n 0) 1 [0],
  mz_qa (.iload_n 2) 1 [2],
  mz_qa (.invokevirtual 165) 3 [7, 116, 2, 1, 0, 5, 0, 926],
  none,
  none,
  mz_qa (.goto 7) 3 [281],
  none,
  none,
  mz_qa (.aload_n 0) 1 [0],
  mz_qa (.invokevirtual 112) 3 [7, 110, 1, 1, 0, 3, 0, 907],
  none,
  none,
  mz_qa .ireturn 1 [0]]
def tb_Mo_change : mz_T := [mz_qa (.iload_n 1) 1 [1],
  mz_qa (.invokestatic 138) 3 [1, 102, 1, 1, 0, 1, 0, 839],
  none,
  none,
  mz_qa (.ifCond .eq 11) 3 [15],
  none,
  none,
  mz_qa (.iload_n 2) 1 [2],
  mz_qa (.iload_n 3) 1 [3],
  mz_qa (.invokestatic 168) 3 [1, 120, 2, 1, 0, 2, 0, 915],
  none,
  none,
  mz_qa (.ifCond .ne 6) 3 [18],
  none,
  none,
  mz_qk (.ldc 146) 2 (-1000001) [851] [] (none) (none),
  none,
  mz_qa .ireturn 1 [0],
  mz_qa (.aload_n 0) 1 [0],
  mz_qa (.iload_n 1) 1 [1],
  mz_qa (.invokevirtual 76) 3 [7, 103, 2, 1, 0, 2, 0, 873],
  none,
  none,
  mz_qa (.ifCond .ne 6) 3 [29],
  none,
  none,
  mz_qk (.ldc 150) 2 (-1000011) [877] [] (none) (none),
  none,
  mz_qa .ireturn 1 [0],
  mz_qa (.iload_n 2) 1 [2],
  mz_qc (.iconst 4) 1 (4),
  mz_qa (.if_icmp .ne 15) 3 [46],
  none,
  none,
  mz_qa (.iload_n 3) 1 [3],
  mz_qa (.aload_n 0) 1 [0],
  mz_qa (.iload_n 1) 1 [1],
  mz_qa (.invokevirtual 76) 3 [7, 103, 2, 1, 0, 2, 0, 873],
  none,
  none,
  mz_qa (.if_icmp .le 6) 3 [46],
  none,
  none,
  mz_qk (.ldc 146) 2 (-1000001) [851] [] (none) (none),
  none,
  mz_qa .ireturn 1 [0],
  mz_qa (.aload_n 0) 1 [0],
  mz_qa (.iload_n 1) 1 [1],
  mz_qa (.invokevirtual 151) 3 [7, 105, 2, 0, 0, 3, 0, 878],
  none,
  none,
  mz_qa (.aload_n 0) 1 [0],
  mz_qa (.iload_n 2) 1 [2],
  mz_qa (.iload_n 3) 1 [3],
  mz_qa (.invokevirtual 171) 3 [7, 121, 3, 1, 0, 4, 0, 921],
  none,
  none,
  mz_qa (.istore 4) 2 [4],
  none,
  mz_qa (.iload 4) 2 [4],
  none,
  mz_qa (.ifCond .ge 8) 3 [69],
  none,
  none,
  mz_qa (.iload 4) 2 [4],
  none,
  mz_qa (.goto 8) 3 [74],
  none,
  none,
  mz_qa (.aload_n 0) 1 [0],
  mz_qa (.iload_n 1) 1 [1],
  mz_qa (.invokevirtual 147) 3 [7, 109, 2, 1, 0, 3, 0, 861],
  none,
  none,
  mz_qa .ireturn 1 [0]]
def tb_Mo_out : mz_T := [mz_qa (.iload_n 1) 1 [1],
  mz_qa (.invokestatic 138) 3 [1, 102, 1, 1, 0, 1, 0, 839],
  none,
  none,
  mz_qa (.ifCond .ne 6) 3 [10],
  none,
  none,
  mz_qk (.ldc 146) 2 (-1000001) [851] [] (none) (none),
  none,
  mz_qa .ireturn 1 [0],
  mz_qa (.aload_n 0) 1 [0],
  mz_qa (.iload_n 1) 1 [1],
  mz_qa (.invokevirtual 76) 3 [7, 103, 2, 1, 0, 2, 0, 873],
  none,
  none,
  mz_qa (.istore_n 2) 1 [2],
  mz_qa (.iload_n 2) 1 [2],
  mz_qa (.ifCond .ne 6) 3 [23],
  none,
  none,
  mz_qk (.ldc 150) 2 (-1000011) [877] [] (none) (none),
  none,
  mz_qa .ireturn 1 [0],
  mz_qa (.aload_n 0) 1 [0],
  mz_qc (.iconst 0) 1 (0),
  mz_qa (.putfield 90) 3 [7, 6, 0, 0, 756],
  none,
  none,
  mz_qa (.aload_n 0) 1 [0],
  mz_qa (.iload_n 1) 1 [1],
  mz_qa (.invokevirtual 147) 3 [7, 109, 2, 1, 0, 3, 0, 861],
  none,
  none,
  mz_q .pop 1,
  mz_qa (.iload_n 2) 1 [2],
  mz_qa .ireturn 1 [0]]
def tb_Mo_length : mz_T := [mz_qa (.iload_n 1) 1 [1],
  mz_q .i2l 1,
  mz_ql (.ldc2_w 174) 3 (4) [946],
  none,
  none,
  mz_ql (.ldc2_w 176) 3 (40) [947],
  none,
  none,
  mz_qa (.invokestatic 72) 3 [1, 101, 3, 1, 0, 6, 0, 843],
  none,
  none,
  mz_qa (.ifCond .ne 6) 3 [17],
  none,
  none,
  mz_qk (.ldc 146) 2 (-1000001) [851] [] (none) (none),
  none,
  mz_qa .ireturn 1 [0],
  mz_qa (.aload_n 0) 1 [0],
  mz_qa (.getfield 7) 3 [7, 0, 0, 750],
  none,
  none,
  mz_qc (.iconst 0) 1 (0),
  mz_q .iaload 1,
  mz_qa (.istore_n 2) 1 [2],
  mz_qa (.iload_n 2) 1 [2],
  mz_qa (.iload_n 1) 1 [1],
  mz_qa (.if_icmp .ne 6) 3 [32],
  none,
  none,
  mz_qk (.ldc 164) 2 (-1000002) [925] [] (none) (none),
  none,
  mz_qa .ireturn 1 [0],
  mz_qa (.aload_n 0) 1 [0],
  mz_qa (.invokevirtual 93) 3 [7, 127, 1, 0, 0, 2, 0, 865],
  none,
  none,
  mz_qa (.aload_n 0) 1 [0],
  mz_qa (.getfield 7) 3 [7, 0, 0, 750],
  none,
  none,
  mz_qc (.iconst 0) 1 (0),
  mz_qa (.iload_n 1) 1 [1],
  mz_q .iastore 1,
  mz_qa (.iload_n 2) 1 [2],
  mz_qa .ireturn 1 [0]]
def tb_Mo_there : mz_T := [mz_qc (.iconst 0) 1 (0),
  mz_qa (.istore_n 1) 1 [1],
  mz_qc (.iconst 0) 1 (0),
  mz_qk (.istore_n 2) 1 (0) [2] [] (none) (some [0, 1, 2]),
  mz_qa (.iload_n 2) 1 [2],
  mz_qc (.iconst 4) 1 (4),
  mz_qa (.if_icmp .ge 27) 3 [33],
  none,
  none,
  mz_qa (.iload_n 1) 1 [1],
  mz_qa (.aload_n 0) 1 [0],
  mz_qa (.iload_n 2) 1 [2],
  mz_qa (.invokevirtual 76) 3 [7, 103, 2, 1, 0, 2, 0, 873],
  none,
  none,
  mz_qa (.ifCond .le 9) 3 [24],
  none,
  none,
  mz_qc (.iconst 1) 1 (1),
  mz_qa (.iload_n 2) 1 [2],
  mz_q .ishl 1,
  mz_qa (.goto 4) 3 [25],
  none,
  none,
  mz_qc (.iconst 0) 1 (0),
  mz_q .ior 1,
  mz_qa (.istore_n 1) 1 [1],
  mz_qk (.iinc 2 1) 3 (1) [2] [] (none) (none),
  none,
  none,
  mz_qk (.goto (-26)) 3 (0) [4] [] (some [0, 1, 2]) (none),
  none,
  none,
  mz_qa (.iload_n 1) 1 [1],
  mz_qa .ireturn 1 [0]]
def tb_Mo_drift : mz_T := [mz_qa (.iload_n 1) 1 [1],
  mz_q .i2l 1,
  mz_ql (.lconst 1) 1 (1) [],
  mz_ql (.ldc2_w 176) 3 (40) [947],
  none,
  none,
  mz_qa (.invokestatic 72) 3 [1, 101, 3, 1, 0, 6, 0, 843],
  none,
  none,
  mz_qa (.ifCond .ne 6) 3 [15],
  none,
  none,
  mz_qk (.ldc 146) 2 (-1000001) [851] [] (none) (none),
  none,
  mz_qa .ireturn 1 [0],
  mz_qc (.iconst 0) 1 (0),
  mz_qk (.istore_n 2) 1 (0) [2] [] (none) (some [0, 1, 2]),
  mz_qa (.iload_n 2) 1 [2],
  mz_qa (.iload_n 1) 1 [1],
  mz_qa (.if_icmp .ge 82) 3 [101],
  none,
  none,
  mz_qa (.aload_n 0) 1 [0],
  mz_qa (.getfield 7) 3 [7, 0, 0, 750],
  none,
  none,
  mz_qc (.iconst 1) 1 (1),
  mz_q .iaload 1,
  mz_q .i2l 1,
  mz_ql (.ldc2_w 178) 3 (1103515245) [952],
  none,
  none,
  mz_q .lmul 1,
  mz_ql (.ldc2_w 180) 3 (12345) [953],
  none,
  none,
  mz_q .ladd 1,
  mz_ql (.ldc2_w 182) 3 (2147483648) [954],
  none,
  none,
  mz_q .lrem 1,
  mz_qa (.lstore_n 3) 1 [3],
  mz_qa (.lload_n 3) 1 [3],
  mz_ql (.ldc2_w 184) 3 (65536) [955],
  none,
  none,
  mz_q .ldiv 1,
  mz_q .l2i 1,
  mz_qa (.istore 5) 2 [5],
  none,
  mz_qa (.aload_n 0) 1 [0],
  mz_qc (.iconst 1) 1 (1),
  mz_qa (.iload 5) 2 [5],
  none,
  mz_qc (.iconst 4) 1 (4),
  mz_q .idiv 1,
  mz_qc (.iconst 3) 1 (3),
  mz_q .irem 1,
  mz_q .iadd 1,
  mz_qc (.iconst 1) 1 (1),
  mz_qa (.iload 5) 2 [5],
  none,
  mz_qc (.bipush 16) 2 (16),
  none,
  mz_q .idiv 1,
  mz_qc (.bipush 9) 2 (9),
  none,
  mz_q .irem 1,
  mz_q .iadd 1,
  mz_qa (.aload_n 0) 1 [0],
  mz_qa (.getfield 7) 3 [7, 0, 0, 750],
  none,
  none,
  mz_qc (.iconst 0) 1 (0),
  mz_q .iaload 1,
  mz_qa (.invokevirtual 124) 3 [7, 114, 4, 0, 0, 6, 0, 852],
  none,
  none,
  mz_qa (.aload_n 0) 1 [0],
  mz_qa (.iload 5) 2 [5],
  none,
  mz_qc (.iconst 4) 1 (4),
  mz_q .irem 1,
  mz_qa (.invokevirtual 147) 3 [7, 109, 2, 1, 0, 3, 0, 861],
  none,
  none,
  mz_q .pop 1,
  mz_qa (.aload_n 0) 1 [0],
  mz_qa (.getfield 7) 3 [7, 0, 0, 750],
  none,
  none,
  mz_qc (.iconst 1) 1 (1),
  mz_qa (.lload_n 3) 1 [3],
  mz_q .l2i 1,
  mz_q .iastore 1,
  mz_qk (.iinc 2 1) 3 (1) [2] [] (none) (none),
  none,
  none,
  mz_qk (.goto (-81)) 3 (0) [17] [] (some [0, 1, 2]) (none),
  none,
  none,
  mz_qa (.aload_n 0) 1 [0],
  mz_qa (.invokevirtual 186) 3 [7, 125, 1, 1, 0, 3, 0, 956],
  none,
  none,
  mz_qa .ireturn 1 [0]]
def tb_Mo_notes : mz_T := [mz_qa (.aload_n 0) 1 [0],
  mz_qa (.getfield 189) 3 [7, 8, 0, 758],
  none,
  none,
  mz_qc (.bipush 6) 2 (6),
  none,
  mz_qa (.if_icmp .ne 41) 3 [47],
  none,
  none,
  mz_qc (.sipush 166) 3 (166),
  none,
  none,
  mz_qk (.istore_n 1) 1 (0) [1] [] (none) (some [0, 1]),
  mz_qa (.iload_n 1) 1 [1],
  mz_qc (.sipush 996) 3 (996),
  none,
  none,
  mz_qa (.if_icmp .ge 25) 3 [42],
  none,
  none,
  mz_qa (.aload_n 0) 1 [0],
  mz_qa (.getfield 23) 3 [7, 7, 0, 757],
  none,
  none,
  mz_qa (.iload_n 1) 1 [1],
  mz_qc (.sipush 166) 3 (166),
  none,
  none,
  mz_q .isub 1,
  mz_qa (.aload_n 0) 1 [0],
  mz_qa (.getfield 23) 3 [7, 7, 0, 757],
  none,
  none,
  mz_qa (.iload_n 1) 1 [1],
  mz_q .iaload 1,
  mz_q .iastore 1,
  mz_qk (.iinc 1 1) 3 (1) [1] [] (none) (none),
  none,
  none,
  mz_qk (.goto (-26)) 3 (0) [13] [] (some [0, 1]) (none),
  none,
  none,
  mz_qa (.aload_n 0) 1 [0],
  mz_qc (.iconst 5) 1 (5),
  mz_qa (.putfield 189) 3 [7, 8, 0, 0, 758],
  none,
  none,
  mz_qc (.iconst 0) 1 (0),
  mz_qk (.istore_n 1) 1 (0) [1] [] (none) (some [0, 1]),
  mz_qa (.iload_n 1) 1 [1],
  mz_qc (.sipush 166) 3 (166),
  none,
  none,
  mz_qa (.if_icmp .ge 30) 3 [83],
  none,
  none,
  mz_qa (.aload_n 0) 1 [0],
  mz_qa (.getfield 23) 3 [7, 7, 0, 757],
  none,
  none,
  mz_qc (.sipush 166) 3 (166),
  none,
  none,
  mz_qa (.aload_n 0) 1 [0],
  mz_qa (.getfield 189) 3 [7, 8, 0, 758],
  none,
  none,
  mz_q .imul 1,
  mz_qa (.iload_n 1) 1 [1],
  mz_q .iadd 1,
  mz_qa (.aload_n 0) 1 [0],
  mz_qa (.getfield 7) 3 [7, 0, 0, 750],
  none,
  none,
  mz_qa (.iload_n 1) 1 [1],
  mz_q .iaload 1,
  mz_q .iastore 1,
  mz_qk (.iinc 1 1) 3 (1) [1] [] (none) (none),
  none,
  none,
  mz_qk (.goto (-31)) 3 (0) [49] [] (some [0, 1]) (none),
  none,
  none,
  mz_qa (.aload_n 0) 1 [0],
  mz_q .dup 1,
  mz_qa (.getfield 189) 3 [7, 8, 0, 758],
  none,
  none,
  mz_qc (.iconst 1) 1 (1),
  mz_q .iadd 1,
  mz_qa (.putfield 189) 3 [7, 8, 0, 0, 758],
  none,
  none,
  mz_q .return_ 1]
def tb_Mo_undo : mz_T := [mz_qa (.aload_n 0) 1 [0],
  mz_qa (.getfield 189) 3 [7, 8, 0, 758],
  none,
  none,
  mz_qa (.ifCond .ne 6) 3 [10],
  none,
  none,
  mz_qk (.ldc 29) 2 (-1000004) [749] [] (none) (none),
  none,
  mz_qa .ireturn 1 [0],
  mz_qa (.aload_n 0) 1 [0],
  mz_q .dup 1,
  mz_qa (.getfield 189) 3 [7, 8, 0, 758],
  none,
  none,
  mz_qc (.iconst 1) 1 (1),
  mz_q .isub 1,
  mz_qa (.putfield 189) 3 [7, 8, 0, 0, 758],
  none,
  none,
  mz_qc (.iconst 0) 1 (0),
  mz_qk (.istore_n 1) 1 (0) [1] [] (none) (some [0, 1]),
  mz_qa (.iload_n 1) 1 [1],
  mz_qc (.sipush 166) 3 (166),
  none,
  none,
  mz_qa (.if_icmp .ge 30) 3 [56],
  none,
  none,
  mz_qa (.aload_n 0) 1 [0],
  mz_qa (.getfield 7) 3 [7, 0, 0, 750],
  none,
  none,
  mz_qa (.iload_n 1) 1 [1],
  mz_qa (.aload_n 0) 1 [0],
  mz_qa (.getfield 23) 3 [7, 7, 0, 757],
  none,
  none,
  mz_qc (.sipush 166) 3 (166),
  none,
  none,
  mz_qa (.aload_n 0) 1 [0],
  mz_qa (.getfield 189) 3 [7, 8, 0, 758],
  none,
  none,
  mz_q .imul 1,
  mz_qa (.iload_n 1) 1 [1],
  mz_q .iadd 1,
  mz_q .iaload 1,
  mz_q .iastore 1,
  mz_qk (.iinc 1 1) 3 (1) [1] [] (none) (none),
  none,
  none,
  mz_qk (.goto (-31)) 3 (0) [22] [] (some [0, 1]) (none),
  none,
  none,
  mz_qa (.aload_n 0) 1 [0],
  mz_qa (.getfield 189) 3 [7, 8, 0, 758],
  none,
  none,
  mz_qa .ireturn 1 [0]]
def tb_Mo_seed : mz_T := [mz_qa (.iload_n 1) 1 [1],
  mz_qa (.ifCond .ge 6) 3 [7],
  none,
  none,
  mz_qk (.ldc 146) 2 (-1000001) [851] [] (none) (none),
  none,
  mz_qa .ireturn 1 [0],
  mz_qa (.aload_n 0) 1 [0],
  mz_qa (.getfield 7) 3 [7, 0, 0, 750],
  none,
  none,
  mz_qc (.iconst 1) 1 (1),
  mz_q .iaload 1,
  mz_qa (.istore_n 2) 1 [2],
  mz_qa (.aload_n 0) 1 [0],
  mz_qa (.getfield 7) 3 [7, 0, 0, 750],
  none,
  none,
  mz_qc (.iconst 1) 1 (1),
  mz_qa (.iload_n 1) 1 [1],
  mz_q .iastore 1,
  mz_qa (.iload_n 2) 1 [2],
  mz_qa .ireturn 1 [0]]
def tb_Mo_term : mz_T := [mz_qa (.iload_n 1) 1 [1],
  mz_qa (.invokestatic 138) 3 [1, 102, 1, 1, 0, 1, 0, 839],
  none,
  none,
  mz_qa (.ifCond .eq 7) 3 [11],
  none,
  none,
  mz_qa (.iload_n 2) 1 [2],
  mz_qa (.ifCond .ge 6) 3 [14],
  none,
  none,
  mz_qk (.ldc 146) 2 (-1000001) [851] [] (none) (none),
  none,
  mz_qa .ireturn 1 [0],
  mz_qa (.aload_n 0) 1 [0],
  mz_qa (.iload_n 1) 1 [1],
  mz_qa (.invokevirtual 76) 3 [7, 103, 2, 1, 0, 2, 0, 873],
  none,
  none,
  mz_qa (.ifCond .ne 6) 3 [25],
  none,
  none,
  mz_qk (.ldc 150) 2 (-1000011) [877] [] (none) (none),
  none,
  mz_qa .ireturn 1 [0],
  mz_qa (.iload_n 2) 1 [2],
  mz_qa (.aload_n 0) 1 [0],
  mz_qa (.iload_n 1) 1 [1],
  mz_qa (.invokevirtual 76) 3 [7, 103, 2, 1, 0, 2, 0, 873],
  none,
  none,
  mz_qa (.if_icmp .ge 12) 3 [43],
  none,
  none,
  mz_qa (.aload_n 0) 1 [0],
  mz_qa (.iload_n 1) 1 [1],
  mz_qa (.iload_n 2) 1 [2],
  mz_qa (.invokevirtual 83) 3 [7, 104, 3, 1, 0, 3, 0, 882],
  none,
  none,
  mz_qa (.goto 5) 3 [45],
  none,
  none,
  mz_qk (.ldc 146) 2 (-1000001) [851] [] (none) (none),
  none,
  mz_qa .ireturn 1 [0]]
def tb_Mo_count : mz_T := [mz_qa (.iload_n 1) 1 [1],
  mz_qk (.tableswitch 86 0 8 #[51, 58, 63, 63, 63, 63, 71, 76, 81]) 51 (0) [87] [(0, 52), (1, 59), (2, 64), (3, 64), (4, 64), (5, 64), (6, 72), (7, 77), (8, 82)] (none) (none),
  none,
  none,
  none,
  none,
  none,
  none,
  none,
  none,
  none,
  none,
  none,
  none,
  none,
  none,
  none,
  none,
  none,
  none,
  none,
  none,
  none,
  none,
  none,
  none,
  none,
  none,
  none,
  none,
  none,
  none,
  none,
  none,
  none,
  none,
  none,
  none,
  none,
  none,
  none,
  none,
  none,
  none,
  none,
  none,
  none,
  none,
  none,
  none,
  none,
  none,
  mz_qa (.aload_n 0) 1 [0],
  mz_qa (.getfield 7) 3 [7, 0, 0, 750],
  none,
  none,
  mz_qc (.iconst 0) 1 (0),
  mz_q .iaload 1,
  mz_qa .ireturn 1 [0],
  mz_qa (.aload_n 0) 1 [0],
  mz_qa (.invokevirtual 186) 3 [7, 125, 1, 1, 0, 3, 0, 956],
  none,
  none,
  mz_qa .ireturn 1 [0],
  mz_qa (.aload_n 0) 1 [0],
  mz_qa (.iload_n 1) 1 [1],
  mz_qc (.iconst 2) 1 (2),
  mz_q .isub 1,
  mz_qa (.invokevirtual 76) 3 [7, 103, 2, 1, 0, 2, 0, 873],
  none,
  none,
  mz_qa .ireturn 1 [0],
  mz_qa (.aload_n 0) 1 [0],
  mz_qa (.getfield 30) 3 [7, 12, 0, 762],
  none,
  none,
  mz_qa .ireturn 1 [0],
  mz_qa (.aload_n 0) 1 [0],
  mz_qa (.getfield 34) 3 [7, 13, 0, 763],
  none,
  none,
  mz_qa .ireturn 1 [0],
  mz_qa (.aload_n 0) 1 [0],
  mz_qa (.getfield 189) 3 [7, 8, 0, 758],
  none,
  none,
  mz_qa .ireturn 1 [0],
  mz_qk (.ldc 146) 2 (-1000001) [851] [] (none) (none),
  none,
  mz_qa .ireturn 1 [0]]
def tb_Mo_type : mz_T := [mz_qa (.iload_n 1) 1 [1],
  mz_q .i2l 1,
  mz_ql (.ldc2_w 192) 3 (32) [980],
  none,
  none,
  mz_ql (.ldc2_w 194) 3 (126) [981],
  none,
  none,
  mz_qa (.invokestatic 72) 3 [1, 101, 3, 1, 0, 6, 0, 843],
  none,
  none,
  mz_qa (.ifCond .ne 6) 3 [17],
  none,
  none,
  mz_qk (.ldc 146) 2 (-1000001) [851] [] (none) (none),
  none,
  mz_qa .ireturn 1 [0],
  mz_qa (.aload_n 0) 1 [0],
  mz_qa (.getfield 196) 3 [7, 10, 0, 760],
  none,
  none,
  mz_qc (.bipush 60) 2 (60),
  none,
  mz_qa (.if_icmp .ne 6) 3 [29],
  none,
  none,
  mz_qk (.ldc 199) 2 (-1000003) [982] [] (none) (none),
  none,
  mz_qa .ireturn 1 [0],
  mz_qa (.aload_n 0) 1 [0],
  mz_qa (.getfield 26) 3 [7, 9, 0, 759],
  none,
  none,
  mz_qa (.aload_n 0) 1 [0],
  mz_qa (.getfield 196) 3 [7, 10, 0, 760],
  none,
  none,
  mz_qa (.iload_n 1) 1 [1],
  mz_q .iastore 1,
  mz_qa (.aload_n 0) 1 [0],
  mz_q .dup 1,
  mz_qa (.getfield 196) 3 [7, 10, 0, 760],
  none,
  none,
  mz_qc (.iconst 1) 1 (1),
  mz_q .iadd 1,
  mz_qa (.putfield 196) 3 [7, 10, 0, 0, 760],
  none,
  none,
  mz_qa (.aload_n 0) 1 [0],
  mz_qa (.getfield 196) 3 [7, 10, 0, 760],
  none,
  none,
  mz_qa .ireturn 1 [0]]
def tb_Mo_here : mz_T := [mz_qa (.aload_n 0) 1 [0],
  mz_qa (.getfield 200) 3 [7, 11, 0, 761],
  none,
  none,
  mz_qa (.aload_n 0) 1 [0],
  mz_qa (.getfield 196) 3 [7, 10, 0, 760],
  none,
  none,
  mz_qa (.if_icmp .ge 30) 3 [38],
  none,
  none,
  mz_qa (.aload_n 0) 1 [0],
  mz_qa (.getfield 26) 3 [7, 9, 0, 759],
  none,
  none,
  mz_qa (.aload_n 0) 1 [0],
  mz_qa (.getfield 200) 3 [7, 11, 0, 761],
  none,
  none,
  mz_q .iaload 1,
  mz_qc (.bipush 32) 2 (32),
  none,
  mz_qa (.if_icmp .ne 16) 3 [38],
  none,
  none,
  mz_qa (.aload_n 0) 1 [0],
  mz_q .dup 1,
  mz_qa (.getfield 200) 3 [7, 11, 0, 761],
  none,
  none,
  mz_qc (.iconst 1) 1 (1),
  mz_q .iadd 1,
  mz_qa (.putfield 200) 3 [7, 11, 0, 0, 761],
  none,
  none,
  mz_qk (.goto (-35)) 3 (0) [0] [] (some [0]) (none),
  none,
  none,
  mz_qa (.aload_n 0) 1 [0],
  mz_qa (.getfield 200) 3 [7, 11, 0, 761],
  none,
  none,
  mz_qa (.aload_n 0) 1 [0],
  mz_qa (.getfield 196) 3 [7, 10, 0, 760],
  none,
  none,
  mz_qa (.if_icmp .ge 15) 3 [61],
  none,
  none,
  mz_qa (.aload_n 0) 1 [0],
  mz_qa (.getfield 26) 3 [7, 9, 0, 759],
  none,
  none,
  mz_qa (.aload_n 0) 1 [0],
  mz_qa (.getfield 200) 3 [7, 11, 0, 761],
  none,
  none,
  mz_q .iaload 1,
  mz_qa (.goto 4) 3 [62],
  none,
  none,
  mz_qc (.iconst 0) 1 (0),
  mz_qa .ireturn 1 [0]]
def tb_Mo_has : mz_T := [mz_qa (.aload_n 0) 1 [0],
  mz_qa (.invokevirtual 203) 3 [7, 133, 1, 1, 0, 1, 0, 991],
  none,
  none,
  mz_qa (.iload_n 1) 1 [1],
  mz_qa (.if_icmp .eq 5) 3 [10],
  none,
  none,
  mz_qc (.iconst 0) 1 (0),
  mz_qa .ireturn 1 [1],
  mz_qa (.aload_n 0) 1 [0],
  mz_q .dup 1,
  mz_qa (.getfield 200) 3 [7, 11, 0, 761],
  none,
  none,
  mz_qc (.iconst 1) 1 (1),
  mz_q .iadd 1,
  mz_qa (.putfield 200) 3 [7, 11, 0, 0, 761],
  none,
  none,
  mz_qc (.iconst 1) 1 (1),
  mz_qa .ireturn 1 [1]]
def tb_Mo_number : mz_T := [mz_qa (.aload_n 0) 1 [0],
  mz_qa (.invokevirtual 203) 3 [7, 133, 1, 1, 0, 1, 0, 991],
  none,
  none,
  mz_q .i2l 1,
  mz_ql (.ldc2_w 206) 3 (48) [1006],
  none,
  none,
  mz_ql (.ldc2_w 208) 3 (57) [1007],
  none,
  none,
  mz_qa (.invokestatic 72) 3 [1, 101, 3, 1, 0, 6, 0, 843],
  none,
  none,
  mz_qa (.ifCond .ne 5) 3 [19],
  none,
  none,
  mz_qc (.iconst (-1)) 1 (-1),
  mz_qa .ireturn 1 [0],
  mz_qa (.aload_n 0) 1 [0],
  mz_qa (.getfield 26) 3 [7, 9, 0, 759],
  none,
  none,
  mz_qa (.aload_n 0) 1 [0],
  mz_qa (.getfield 200) 3 [7, 11, 0, 761],
  none,
  none,
  mz_q .iaload 1,
  mz_qc (.bipush 48) 2 (48),
  none,
  mz_q .isub 1,
  mz_qa (.istore_n 1) 1 [1],
  mz_qa (.aload_n 0) 1 [0],
  mz_q .dup 1,
  mz_qa (.getfield 200) 3 [7, 11, 0, 761],
  none,
  none,
  mz_qc (.iconst 1) 1 (1),
  mz_q .iadd 1,
  mz_qa (.putfield 200) 3 [7, 11, 0, 0, 761],
  none,
  none,
  mz_qa (.aload_n 0) 1 [0],
  mz_qa (.getfield 200) 3 [7, 11, 0, 761],
  none,
  none,
  mz_qa (.aload_n 0) 1 [0],
  mz_qa (.getfield 196) 3 [7, 10, 0, 760],
  none,
  none,
  mz_qa (.if_icmp .ge 53) 3 [103],
  none,
  none,
  mz_qa (.aload_n 0) 1 [0],
  mz_qa (.getfield 26) 3 [7, 9, 0, 759],
  none,
  none,
  mz_qa (.aload_n 0) 1 [0],
  mz_qa (.getfield 200) 3 [7, 11, 0, 761],
  none,
  none,
  mz_q .iaload 1,
  mz_q .i2l 1,
  mz_ql (.ldc2_w 206) 3 (48) [1006],
  none,
  none,
  mz_ql (.ldc2_w 208) 3 (57) [1007],
  none,
  none,
  mz_qa (.invokestatic 72) 3 [1, 101, 3, 1, 0, 6, 0, 843],
  none,
  none,
  mz_qa (.ifCond .eq 31) 3 [103],
  none,
  none,
  mz_qc (.bipush 10) 2 (10),
  none,
  mz_qa (.iload_n 1) 1 [1],
  mz_q .imul 1,
  mz_qa (.aload_n 0) 1 [0],
  mz_qa (.getfield 26) 3 [7, 9, 0, 759],
  none,
  none,
  mz_qa (.aload_n 0) 1 [0],
  mz_qa (.getfield 200) 3 [7, 11, 0, 761],
  none,
  none,
  mz_q .iaload 1,
  mz_q .iadd 1,
  mz_qc (.bipush 48) 2 (48),
  none,
  mz_q .isub 1,
  mz_qa (.istore_n 1) 1 [1],
  mz_qa (.aload_n 0) 1 [0],
  mz_q .dup 1,
  mz_qa (.getfield 200) 3 [7, 11, 0, 761],
  none,
  none,
  mz_qc (.iconst 1) 1 (1),
  mz_q .iadd 1,
  mz_qa (.putfield 200) 3 [7, 11, 0, 0, 761],
  none,
  none,
  mz_qa (.iload_n 1) 1 [1],
  mz_qa .ireturn 1 [0]]
def tb_Mo_kindOf : mz_T := [mz_qa (.iload_n 0) 1 [0],
  mz_qc (.bipush 116) 2 (116),
  none,
  mz_qa (.if_icmp .ne 7) 3 [10],
  none,
  none,
  mz_qc (.iconst 1) 1 (1),
  mz_qa (.goto 34) 3 [41],
  none,
  none,
  mz_qa (.iload_n 0) 1 [0],
  mz_qc (.bipush 115) 2 (115),
  none,
  mz_qa (.if_icmp .ne 7) 3 [20],
  none,
  none,
  mz_qc (.iconst 2) 1 (2),
  mz_qa (.goto 24) 3 [41],
  none,
  none,
  mz_qa (.iload_n 0) 1 [0],
  mz_qc (.bipush 101) 2 (101),
  none,
  mz_qa (.if_icmp .ne 7) 3 [30],
  none,
  none,
  mz_qc (.iconst 3) 1 (3),
  mz_qa (.goto 14) 3 [41],
  none,
  none,
  mz_qa (.iload_n 0) 1 [0],
  mz_qc (.bipush 113) 2 (113),
  none,
  mz_qa (.if_icmp .ne 7) 3 [40],
  none,
  none,
  mz_qc (.iconst 4) 1 (4),
  mz_qa (.goto 4) 3 [41],
  none,
  none,
  mz_qc (.iconst (-1)) 1 (-1),
  mz_qa .ireturn 1 [0]]
def tb_Mo_readsAtom : mz_T := [mz_qa (.aload_n 0) 1 [0],
  mz_qa (.aload_n 0) 1 [0],
  mz_qa (.invokevirtual 203) 3 [7, 133, 1, 1, 0, 1, 0, 991],
  none,
  none,
  mz_qa (.invokestatic 210) 3 [1, 136, 1, 1, 0, 1, 0, 999],
  none,
  none,
  mz_qa (.putfield 213) 3 [7, 14, 0, 0, 764],
  none,
  none,
  mz_qa (.aload_n 0) 1 [0],
  mz_qa (.getfield 213) 3 [7, 14, 0, 764],
  none,
  none,
  mz_qa (.ifCond .ge 29) 3 [44],
  none,
  none,
  mz_qa (.aload_n 0) 1 [0],
  mz_qc (.iconst 0) 1 (0),
  mz_qa (.putfield 213) 3 [7, 14, 0, 0, 764],
  none,
  none,
  mz_qa (.aload_n 0) 1 [0],
  mz_qa (.aload_n 0) 1 [0],
  mz_qa (.invokevirtual 216) 3 [7, 135, 1, 1, 0, 2, 0, 1002],
  none,
  none,
  mz_qa (.putfield 219) 3 [7, 15, 0, 0, 765],
  none,
  none,
  mz_qa (.aload_n 0) 1 [0],
  mz_qa (.getfield 219) 3 [7, 15, 0, 765],
  none,
  none,
  mz_qa (.ifCond .lt 7) 3 [42],
  none,
  none,
  mz_qc (.iconst 1) 1 (1),
  mz_qa (.goto 4) 3 [43],
  none,
  none,
  mz_qc (.iconst 0) 1 (0),
  mz_qa .ireturn 1 [1],
  mz_qa (.aload_n 0) 1 [0],
  mz_q .dup 1,
  mz_qa (.getfield 200) 3 [7, 11, 0, 761],
  none,
  none,
  mz_qc (.iconst 1) 1 (1),
  mz_q .iadd 1,
  mz_qa (.putfield 200) 3 [7, 11, 0, 0, 761],
  none,
  none,
  mz_qa (.aload_n 0) 1 [0],
  mz_qc (.bipush 40) 2 (40),
  none,
  mz_qa (.invokevirtual 222) 3 [7, 134, 2, 1, 0, 2, 0, 1008],
  none,
  none,
  mz_qa (.ifCond .ne 5) 3 [65],
  none,
  none,
  mz_qc (.iconst 0) 1 (0),
  mz_qa .ireturn 1 [1],
  mz_qa (.aload_n 0) 1 [0],
  mz_qa (.invokevirtual 203) 3 [7, 133, 1, 1, 0, 1, 0, 991],
  none,
  none,
  mz_q .i2l 1,
  mz_ql (.ldc2_w 206) 3 (48) [1006],
  none,
  none,
  mz_ql (.ldc2_w 208) 3 (57) [1007],
  none,
  none,
  mz_qa (.invokestatic 72) 3 [1, 101, 3, 1, 0, 6, 0, 843],
  none,
  none,
  mz_qa (.istore_n 1) 1 [1],
  mz_qa (.aload_n 0) 1 [0],
  mz_qa (.getfield 200) 3 [7, 11, 0, 761],
  none,
  none,
  mz_qa (.istore_n 2) 1 [2],
  mz_qa (.aload_n 0) 1 [0],
  mz_qa (.iload_n 1) 1 [1],
  mz_qa (.ifCond .eq 10) 3 [97],
  none,
  none,
  mz_qa (.aload_n 0) 1 [0],
  mz_qa (.invokevirtual 216) 3 [7, 135, 1, 1, 0, 2, 0, 1002],
  none,
  none,
  mz_qa (.goto 4) 3 [98],
  none,
  none,
  mz_qc (.iconst (-1)) 1 (-1),
  mz_qa (.putfield 219) 3 [7, 15, 0, 0, 765],
  none,
  none,
  mz_qa (.aload_n 0) 1 [0],
  mz_qa (.getfield 213) 3 [7, 14, 0, 764],
  none,
  none,
  mz_qa (.aload_n 0) 1 [0],
  mz_qa (.getfield 219) 3 [7, 15, 0, 765],
  none,
  none,
  mz_qa (.invokestatic 142) 3 [1, 117, 2, 1, 0, 2, 0, 846],
  none,
  none,
  mz_qa (.ifCond .ne 10) 3 [122],
  none,
  none,
  mz_qa (.aload_n 0) 1 [0],
  mz_qa (.iload_n 2) 1 [2],
  mz_qa (.putfield 200) 3 [7, 11, 0, 0, 761],
  none,
  none,
  mz_qc (.iconst 0) 1 (0),
  mz_qa .ireturn 1 [1],
  mz_qa (.aload_n 0) 1 [0],
  mz_qc (.bipush 41) 2 (41),
  none,
  mz_qa (.invokevirtual 222) 3 [7, 134, 2, 1, 0, 2, 0, 1008],
  none,
  none,
  mz_qa .ireturn 1 [1]]
def tb_Mo_isText : mz_T := [mz_qa (.aload_n 0) 1 [0],
  mz_qc (.iconst 0) 1 (0),
  mz_qa (.putfield 200) 3 [7, 11, 0, 0, 761],
  none,
  none,
  mz_qc (.iconst 0) 1 (0),
  mz_qa (.istore_n 1) 1 [1],
  mz_qc (.iconst 1) 1 (1),
  mz_qa (.istore_n 2) 1 [2],
  mz_qc (.iconst 0) 1 (0),
  mz_qa (.istore_n 3) 1 [3],
  mz_qc (.iconst 1) 1 (1),
  mz_qk (.istore 4) 2 (0) [4] [] (none) (some [0, 1, 2, 3, 4]),
  none,
  mz_qa (.iload 4) 2 [4],
  none,
  mz_qk (.ifCond .eq 234) 3 (0) [250] [] (some [1, 4]) (none),
  none,
  none,
  mz_qa (.iload_n 2) 1 [2],
  mz_qk (.ifCond .ne 10) 3 (0) [30] [] (some [0, 1, 2, 3, 4]) (none),
  none,
  none,
  mz_qa (.aload_n 0) 1 [0],
  mz_qa (.invokevirtual 203) 3 [7, 133, 1, 1, 0, 1, 0, 991],
  none,
  none,
  mz_qk (.ifCond .eq 223) 3 (0) [250] [] (some [1, 4]) (some [0, 1, 2, 3, 4]),
  none,
  none,
  mz_qa (.aload_n 0) 1 [0],
  mz_qa (.invokevirtual 203) 3 [7, 133, 1, 1, 0, 1, 0, 991],
  none,
  none,
  mz_qa (.istore 5) 2 [5],
  none,
  mz_qa (.iload_n 2) 1 [2],
  mz_qk (.ifCond .eq 32) 3 (0) [69] [] (some [0, 1, 2, 3, 4, 5]) (none),
  none,
  none,
  mz_qa (.iload 5) 2 [5],
  none,
  mz_qc (.bipush 40) 2 (40),
  none,
  mz_qk (.if_icmp .ne 25) 3 (0) [69] [] (some [0, 1, 2, 3, 4, 5]) (none),
  none,
  none,
  mz_qa (.iload_n 1) 1 [1],
  mz_qc (.bipush 6) 2 (6),
  none,
  mz_qk (.if_icmp .ge 19) 3 (0) [69] [] (some [0, 1, 2, 3, 4, 5]) (none),
  none,
  none,
  mz_qk (.iinc 1 1) 3 (1) [1] [] (none) (none),
  none,
  none,
  mz_qa (.aload_n 0) 1 [0],
  mz_q .dup 1,
  mz_qa (.getfield 200) 3 [7, 11, 0, 761],
  none,
  none,
  mz_qc (.iconst 1) 1 (1),
  mz_q .iadd 1,
  mz_qa (.putfield 200) 3 [7, 11, 0, 0, 761],
  none,
  none,
  mz_qa (.goto 181) 3 [247],
  none,
  none,
  mz_qa (.iload_n 2) 1 [2],
  mz_qa (.ifCond .eq 31) 3 [101],
  none,
  none,
  mz_qa (.iload 5) 2 [5],
  none,
  mz_qc (.bipush 40) 2 (40),
  none,
  mz_qa (.if_icmp .eq 14) 3 [91],
  none,
  none,
  mz_qa (.aload_n 0) 1 [0],
  mz_qa (.invokevirtual 225) 3 [7, 137, 1, 1, 0, 3, 0, 995],
  none,
  none,
  mz_qa (.ifCond .eq 7) 3 [91],
  none,
  none,
  mz_qc (.iconst 1) 1 (1),
  mz_qa (.goto 4) 3 [92],
  none,
  none,
  mz_qc (.iconst 0) 1 (0),
  mz_qa (.istore 4) 2 [4],
  none,
  mz_qc (.iconst 0) 1 (0),
  mz_qa (.istore_n 2) 1 [2],
  mz_qc (.iconst 1) 1 (1),
  mz_qa (.istore_n 3) 1 [3],
  mz_qa (.goto 149) 3 [247],
  none,
  none,
  mz_qa (.iload 5) 2 [5],
  none,
  mz_qc (.bipush 94) 2 (94),
  none,
  mz_qk (.if_icmp .ne 57) 3 (0) [162] [] (some [0, 1, 2, 3, 4, 5]) (none),
  none,
  none,
  mz_qa (.iload_n 3) 1 [3],
  mz_qk (.ifCond .eq 53) 3 (0) [162] [] (some [0, 1, 2, 3, 4, 5]) (none),
  none,
  none,
  mz_qa (.aload_n 0) 1 [0],
  mz_q .dup 1,
  mz_qa (.getfield 200) 3 [7, 11, 0, 761],
  none,
  none,
  mz_qc (.iconst 1) 1 (1),
  mz_q .iadd 1,
  mz_qa (.putfield 200) 3 [7, 11, 0, 0, 761],
  none,
  none,
  mz_qa (.aload_n 0) 1 [0],
  mz_qa (.invokevirtual 203) 3 [7, 133, 1, 1, 0, 1, 0, 991],
  none,
  none,
  mz_q .i2l 1,
  mz_ql (.ldc2_w 206) 3 (48) [1006],
  none,
  none,
  mz_ql (.ldc2_w 229) 3 (56) [1012],
  none,
  none,
  mz_qa (.invokestatic 72) 3 [1, 101, 3, 1, 0, 6, 0, 843],
  none,
  none,
  mz_qa (.istore 4) 2 [4],
  none,
  mz_qa (.aload_n 0) 1 [0],
  mz_q .dup 1,
  mz_qa (.getfield 200) 3 [7, 11, 0, 761],
  none,
  none,
  mz_qa (.iload 4) 2 [4],
  none,
  mz_qa (.ifCond .eq 7) 3 [152],
  none,
  none,
  mz_qc (.iconst 1) 1 (1),
  mz_qa (.goto 4) 3 [153],
  none,
  none,
  mz_qc (.iconst 0) 1 (0),
  mz_q .iadd 1,
  mz_qa (.putfield 200) 3 [7, 11, 0, 0, 761],
  none,
  none,
  mz_qc (.iconst 0) 1 (0),
  mz_qa (.istore_n 3) 1 [3],
  mz_qa (.goto 88) 3 [247],
  none,
  none,
  mz_qa (.iload 5) 2 [5],
  none,
  mz_qc (.bipush 41) 2 (41),
  none,
  mz_qk (.if_icmp .ne 25) 3 (0) [191] [] (some [0, 1, 3, 5]) (none),
  none,
  none,
  mz_qa (.iload_n 1) 1 [1],
  mz_qk (.ifCond .le 21) 3 (0) [191] [] (some [0, 1, 3, 5]) (none),
  none,
  none,
  mz_qk (.iinc 1 (-1)) 3 (-1) [1] [] (none) (none),
  none,
  none,
  mz_qa (.aload_n 0) 1 [0],
  mz_q .dup 1,
  mz_qa (.getfield 200) 3 [7, 11, 0, 761],
  none,
  none,
  mz_qc (.iconst 1) 1 (1),
  mz_q .iadd 1,
  mz_qa (.putfield 200) 3 [7, 11, 0, 0, 761],
  none,
  none,
  mz_qc (.iconst 1) 1 (1),
  mz_qa (.istore_n 3) 1 [3],
  mz_qa (.goto 59) 3 [247],
  none,
  none,
  mz_qa (.iload 5) 2 [5],
  none,
  mz_qc (.bipush 42) 2 (42),
  none,
  mz_qa (.if_icmp .eq 24) 3 [219],
  none,
  none,
  mz_qa (.iload 5) 2 [5],
  none,
  mz_qc (.bipush 43) 2 (43),
  none,
  mz_qa (.if_icmp .eq 17) 3 [219],
  none,
  none,
  mz_qa (.iload 5) 2 [5],
  none,
  mz_qc (.bipush 45) 2 (45),
  none,
  mz_qa (.if_icmp .eq 10) 3 [219],
  none,
  none,
  mz_qa (.iload 5) 2 [5],
  none,
  mz_qc (.bipush 47) 2 (47),
  none,
  mz_qa (.if_icmp .ne 7) 3 [223],
  none,
  none,
  mz_qc (.iconst 1) 1 (1),
  mz_qa (.goto 4) 3 [224],
  none,
  none,
  mz_qc (.iconst 0) 1 (0),
  mz_qa (.istore_n 2) 1 [2],
  mz_qa (.iload_n 2) 1 [2],
  mz_qa (.istore 4) 2 [4],
  none,
  mz_qa (.aload_n 0) 1 [0],
  mz_q .dup 1,
  mz_qa (.getfield 200) 3 [7, 11, 0, 761],
  none,
  none,
  mz_qa (.iload 4) 2 [4],
  none,
  mz_qa (.ifCond .eq 7) 3 [242],
  none,
  none,
  mz_qc (.iconst 1) 1 (1),
  mz_qa (.goto 4) 3 [243],
  none,
  none,
  mz_qc (.iconst 0) 1 (0),
  mz_q .iadd 1,
  mz_qa (.putfield 200) 3 [7, 11, 0, 0, 761],
  none,
  none,
  mz_qk (.goto (-233)) 3 (0) [14] [] (some [0, 1, 2, 3, 4]) (none),
  none,
  none,
  mz_qa (.iload 4) 2 [4],
  none,
  mz_qa (.ifCond .eq 11) 3 [263],
  none,
  none,
  mz_qa (.iload_n 1) 1 [1],
  mz_qa (.ifCond .ne 7) 3 [263],
  none,
  none,
  mz_qc (.iconst 1) 1 (1),
  mz_qa (.goto 4) 3 [264],
  none,
  none,
  mz_qc (.iconst 0) 1 (0),
  mz_qa .ireturn 1 [1]]
def tb_Mo_begins : mz_T := [mz_qa (.aload_n 0) 1 [0],
  mz_qa (.getfield 43) 3 [7, 18, 0, 768],
  none,
  none,
  mz_qa (.aload_n 0) 1 [0],
  mz_qa (.getfield 231) 3 [7, 20, 0, 770],
  none,
  none,
  mz_qc (.iconst 0) 1 (0),
  mz_q .iastore 1,
  mz_qa (.aload_n 0) 1 [0],
  mz_qa (.getfield 46) 3 [7, 19, 0, 769],
  none,
  none,
  mz_qa (.aload_n 0) 1 [0],
  mz_qa (.getfield 231) 3 [7, 20, 0, 770],
  none,
  none,
  mz_qc (.iconst 0) 1 (0),
  mz_q .iastore 1,
  mz_q .return_ 1]
def tb_Mo_broke : mz_T := [mz_qa (.aload_n 0) 1 [0],
  mz_qa (.aload_n 0) 1 [0],
  mz_qa (.getfield 231) 3 [7, 20, 0, 770],
  none,
  none,
  mz_qa (.putfield 30) 3 [7, 12, 0, 0, 762],
  none,
  none,
  mz_qa (.aload_n 0) 1 [0],
  mz_qa (.iload_n 2) 1 [2],
  mz_qa (.putfield 34) 3 [7, 13, 0, 0, 763],
  none,
  none,
  mz_qa (.iload_n 1) 1 [1],
  mz_qa .ireturn 1 [0]]
def tb_Mo_lays : mz_T := [mz_qc (.iconst 0) 1 (0),
  mz_qk (.istore_n 2) 1 (0) [2] [] (none) (some [0, 1, 2]),
  mz_qa (.iload_n 2) 1 [2],
  mz_qa (.aload_n 0) 1 [0],
  mz_qa (.getfield 90) 3 [7, 6, 0, 756],
  none,
  none,
  mz_qa (.if_icmp .ge 26) 3 [33],
  none,
  none,
  mz_qa (.aload_n 1) 1 [1],
  mz_qc (.bipush 40) 2 (40),
  none,
  mz_qa (.aload_n 0) 1 [0],
  mz_qa (.getfield 231) 3 [7, 20, 0, 770],
  none,
  none,
  mz_q .imul 1,
  mz_qa (.iload_n 2) 1 [2],
  mz_q .iadd 1,
  mz_qa (.aload_n 0) 1 [0],
  mz_qa (.getfield 20) 3 [7, 5, 0, 755],
  none,
  none,
  mz_qa (.iload_n 2) 1 [2],
  mz_q .laload 1,
  mz_q .lastore 1,
  mz_qk (.iinc 2 1) 3 (1) [2] [] (none) (none),
  none,
  none,
  mz_qk (.goto (-28)) 3 (0) [2] [] (some [0, 1, 2]) (none),
  none,
  none,
  mz_q .return_ 1]
def tb_Mo_takesFrom : mz_T := [mz_qa (.aload_n 0) 1 [0],
  mz_qa (.aload_n 0) 1 [0],
  mz_qa (.getfield 7) 3 [7, 0, 0, 750],
  none,
  none,
  mz_qc (.iconst 0) 1 (0),
  mz_q .iaload 1,
  mz_qa (.putfield 80) 3 [7, 2, 0, 0, 752],
  none,
  none,
  mz_qc (.iconst 0) 1 (0),
  mz_qk (.istore_n 2) 1 (0) [2] [] (none) (some [0, 1, 2]),
  mz_qa (.iload_n 2) 1 [2],
  mz_qa (.aload_n 0) 1 [0],
  mz_qa (.getfield 80) 3 [7, 2, 0, 752],
  none,
  none,
  mz_qa (.if_icmp .ge 26) 3 [43],
  none,
  none,
  mz_qa (.aload_n 0) 1 [0],
  mz_qa (.getfield 13) 3 [7, 1, 0, 751],
  none,
  none,
  mz_qa (.iload_n 2) 1 [2],
  mz_qa (.aload_n 1) 1 [1],
  mz_qc (.bipush 40) 2 (40),
  none,
  mz_qa (.aload_n 0) 1 [0],
  mz_qa (.getfield 231) 3 [7, 20, 0, 770],
  none,
  none,
  mz_q .imul 1,
  mz_qa (.iload_n 2) 1 [2],
  mz_q .iadd 1,
  mz_q .laload 1,
  mz_q .lastore 1,
  mz_qk (.iinc 2 1) 3 (1) [2] [] (none) (none),
  none,
  none,
  mz_qk (.goto (-28)) 3 (0) [12] [] (some [0, 1, 2]) (none),
  none,
  none,
  mz_q .return_ 1]
def tb_Mo_joinsPart : mz_T := [mz_qa (.aload_n 0) 1 [0],
  mz_qa (.getfield 46) 3 [7, 19, 0, 769],
  none,
  none,
  mz_qa (.aload_n 0) 1 [0],
  mz_qa (.getfield 231) 3 [7, 20, 0, 770],
  none,
  none,
  mz_q .iaload 1,
  mz_qa (.istore_n 1) 1 [1],
  mz_qa (.iload_n 1) 1 [1],
  mz_qa (.ifCond .eq 42) 3 [53],
  none,
  none,
  mz_qa (.aload_n 0) 1 [0],
  mz_qa (.invokevirtual 121) 3 [7, 108, 1, 0, 0, 2, 0, 930],
  none,
  none,
  mz_qa (.aload_n 0) 1 [0],
  mz_qa (.aload_n 0) 1 [0],
  mz_qa (.getfield 40) 3 [7, 17, 0, 767],
  none,
  none,
  mz_qa (.invokevirtual 234) 3 [7, 142, 2, 0, 0, 3, 0, 1038],
  none,
  none,
  mz_qa (.aload_n 0) 1 [0],
  mz_qa (.iload_n 1) 1 [1],
  mz_qc (.bipush 42) 2 (42),
  none,
  mz_qa (.if_icmp .ne 7) 3 [37],
  none,
  none,
  mz_qc (.iconst 2) 1 (2),
  mz_qa (.goto 4) 3 [38],
  none,
  none,
  mz_qc (.iconst 3) 1 (3),
  mz_qa (.invokevirtual 131) 3 [7, 113, 2, 1, 0, 3, 0, 890],
  none,
  none,
  mz_qa (.istore_n 2) 1 [2],
  mz_qa (.iload_n 2) 1 [2],
  mz_qa (.ifCond .ge 10) 3 [53],
  none,
  none,
  mz_qa (.aload_n 0) 1 [0],
  mz_qa (.iload_n 2) 1 [2],
  mz_qa (.iload_n 1) 1 [1],
  mz_qa (.invokevirtual 238) 3 [7, 140, 3, 1, 0, 3, 0, 1030],
  none,
  none,
  mz_qa .ireturn 1 [0],
  mz_qa (.aload_n 0) 1 [0],
  mz_qa (.aload_n 0) 1 [0],
  mz_qa (.getfield 40) 3 [7, 17, 0, 767],
  none,
  none,
  mz_qa (.invokevirtual 241) 3 [7, 141, 2, 0, 0, 3, 0, 1042],
  none,
  none,
  mz_qc (.iconst 0) 1 (0),
  mz_qa .ireturn 1 [0]]
def tb_Mo_joinsSum : mz_T := [mz_qa (.aload_n 0) 1 [0],
  mz_qa (.getfield 43) 3 [7, 18, 0, 768],
  none,
  none,
  mz_qa (.aload_n 0) 1 [0],
  mz_qa (.getfield 231) 3 [7, 20, 0, 770],
  none,
  none,
  mz_q .iaload 1,
  mz_qa (.istore_n 1) 1 [1],
  mz_qa (.aload_n 0) 1 [0],
  mz_qa (.aload_n 0) 1 [0],
  mz_qa (.getfield 40) 3 [7, 17, 0, 767],
  none,
  none,
  mz_qa (.invokevirtual 234) 3 [7, 142, 2, 0, 0, 3, 0, 1038],
  none,
  none,
  mz_qa (.iload_n 1) 1 [1],
  mz_qa (.ifCond .ne 42) 3 [61],
  none,
  none,
  mz_qa (.aload_n 0) 1 [0],
  mz_qa (.aload_n 0) 1 [0],
  mz_qa (.getfield 80) 3 [7, 2, 0, 752],
  none,
  none,
  mz_qa (.putfield 90) 3 [7, 6, 0, 0, 756],
  none,
  none,
  mz_qc (.iconst 0) 1 (0),
  mz_qk (.istore_n 2) 1 (0) [2] [] (none) (some [0, 2]),
  mz_qa (.iload_n 2) 1 [2],
  mz_qa (.aload_n 0) 1 [0],
  mz_qa (.getfield 80) 3 [7, 2, 0, 752],
  none,
  none,
  mz_qa (.if_icmp .ge 21) 3 [58],
  none,
  none,
  mz_qa (.aload_n 0) 1 [0],
  mz_qa (.getfield 20) 3 [7, 5, 0, 755],
  none,
  none,
  mz_qa (.iload_n 2) 1 [2],
  mz_qa (.aload_n 0) 1 [0],
  mz_qa (.getfield 13) 3 [7, 1, 0, 751],
  none,
  none,
  mz_qa (.iload_n 2) 1 [2],
  mz_q .laload 1,
  mz_q .lastore 1,
  mz_qk (.iinc 2 1) 3 (1) [2] [] (none) (none),
  none,
  none,
  mz_qk (.goto (-23)) 3 (0) [32] [] (some [0, 2]) (none),
  none,
  none,
  mz_qa (.goto 74) 3 [132],
  none,
  none,
  mz_qa (.aload_n 0) 1 [0],
  mz_qa (.aload_n 0) 1 [0],
  mz_qa (.getfield 80) 3 [7, 2, 0, 752],
  none,
  none,
  mz_qa (.putfield 87) 3 [7, 4, 0, 0, 754],
  none,
  none,
  mz_qc (.iconst 0) 1 (0),
  mz_qk (.istore_n 2) 1 (0) [2] [] (none) (some [0, 1, 2]),
  mz_qa (.iload_n 2) 1 [2],
  mz_qa (.aload_n 0) 1 [0],
  mz_qa (.getfield 80) 3 [7, 2, 0, 752],
  none,
  none,
  mz_qa (.if_icmp .ge 21) 3 [97],
  none,
  none,
  mz_qa (.aload_n 0) 1 [0],
  mz_qa (.getfield 17) 3 [7, 3, 0, 753],
  none,
  none,
  mz_qa (.iload_n 2) 1 [2],
  mz_qa (.aload_n 0) 1 [0],
  mz_qa (.getfield 13) 3 [7, 1, 0, 751],
  none,
  none,
  mz_qa (.iload_n 2) 1 [2],
  mz_q .laload 1,
  mz_q .lastore 1,
  mz_qk (.iinc 2 1) 3 (1) [2] [] (none) (none),
  none,
  none,
  mz_qk (.goto (-23)) 3 (0) [71] [] (some [0, 1, 2]) (none),
  none,
  none,
  mz_qa (.aload_n 0) 1 [0],
  mz_qa (.aload_n 0) 1 [0],
  mz_qa (.getfield 37) 3 [7, 16, 0, 766],
  none,
  none,
  mz_qa (.invokevirtual 234) 3 [7, 142, 2, 0, 0, 3, 0, 1038],
  none,
  none,
  mz_qa (.aload_n 0) 1 [0],
  mz_qa (.iload_n 1) 1 [1],
  mz_qc (.bipush 43) 2 (43),
  none,
  mz_qa (.if_icmp .ne 7) 3 [116],
  none,
  none,
  mz_qc (.iconst 0) 1 (0),
  mz_qa (.goto 4) 3 [117],
  none,
  none,
  mz_qc (.iconst 1) 1 (1),
  mz_qa (.invokevirtual 131) 3 [7, 113, 2, 1, 0, 3, 0, 890],
  none,
  none,
  mz_qa (.istore_n 2) 1 [2],
  mz_qa (.iload_n 2) 1 [2],
  mz_qa (.ifCond .ge 10) 3 [132],
  none,
  none,
  mz_qa (.aload_n 0) 1 [0],
  mz_qa (.iload_n 2) 1 [2],
  mz_qa (.iload_n 1) 1 [1],
  mz_qa (.invokevirtual 238) 3 [7, 140, 3, 1, 0, 3, 0, 1030],
  none,
  none,
  mz_qa .ireturn 1 [0],
  mz_qa (.aload_n 0) 1 [0],
  mz_qa (.aload_n 0) 1 [0],
  mz_qa (.getfield 37) 3 [7, 16, 0, 766],
  none,
  none,
  mz_qa (.invokevirtual 241) 3 [7, 141, 2, 0, 0, 3, 0, 1042],
  none,
  none,
  mz_qc (.iconst 0) 1 (0),
  mz_qa .ireturn 1 [0]]
def tb_Mo_joinsAtom : mz_T := [mz_qa (.aload_n 0) 1 [0],
  mz_qc (.bipush 94) 2 (94),
  none,
  mz_qa (.invokevirtual 222) 3 [7, 134, 2, 1, 0, 2, 0, 1008],
  none,
  none,
  mz_qa (.ifCond .eq 39) 3 [45],
  none,
  none,
  mz_qa (.aload_n 0) 1 [0],
  mz_qa (.invokevirtual 203) 3 [7, 133, 1, 1, 0, 1, 0, 991],
  none,
  none,
  mz_qc (.bipush 48) 2 (48),
  none,
  mz_q .isub 1,
  mz_qa (.istore_n 1) 1 [1],
  mz_qa (.aload_n 0) 1 [0],
  mz_q .dup 1,
  mz_qa (.getfield 200) 3 [7, 11, 0, 761],
  none,
  none,
  mz_qc (.iconst 1) 1 (1),
  mz_q .iadd 1,
  mz_qa (.putfield 200) 3 [7, 11, 0, 0, 761],
  none,
  none,
  mz_qa (.aload_n 0) 1 [0],
  mz_qa (.iload_n 1) 1 [1],
  mz_qa (.invokevirtual 165) 3 [7, 116, 2, 1, 0, 5, 0, 926],
  none,
  none,
  mz_qa (.istore_n 2) 1 [2],
  mz_qa (.iload_n 2) 1 [2],
  mz_qa (.ifCond .ge 11) 3 [45],
  none,
  none,
  mz_qa (.aload_n 0) 1 [0],
  mz_qa (.iload_n 2) 1 [2],
  mz_qc (.bipush 94) 2 (94),
  none,
  mz_qa (.invokevirtual 238) 3 [7, 140, 3, 1, 0, 3, 0, 1030],
  none,
  none,
  mz_qa .ireturn 1 [0],
  mz_qa (.aload_n 0) 1 [0],
  mz_qa (.invokevirtual 244) 3 [7, 143, 1, 1, 0, 3, 0, 1034],
  none,
  none,
  mz_qa .ireturn 1 [0]]
def tb_Mo_makesAtom : mz_T := [mz_qa (.aload_n 0) 1 [0],
  mz_qa (.invokevirtual 225) 3 [7, 137, 1, 1, 0, 3, 0, 995],
  none,
  none,
  mz_qa (.istore_n 1) 1 [1],
  mz_qa (.aload_n 0) 1 [0],
  mz_qa (.aload_n 0) 1 [0],
  mz_qa (.getfield 213) 3 [7, 14, 0, 764],
  none,
  none,
  mz_qa (.iload_n 1) 1 [1],
  mz_qa (.ifCond .eq 17) 3 [28],
  none,
  none,
  mz_qa (.aload_n 0) 1 [0],
  mz_qa (.getfield 213) 3 [7, 14, 0, 764],
  none,
  none,
  mz_qa (.ifCond .le 10) 3 [28],
  none,
  none,
  mz_qa (.aload_n 0) 1 [0],
  mz_qa (.getfield 219) 3 [7, 15, 0, 765],
  none,
  none,
  mz_qa (.goto 4) 3 [29],
  none,
  none,
  mz_qc (.iconst 0) 1 (0),
  mz_qa (.aload_n 0) 1 [0],
  mz_qa (.getfield 7) 3 [7, 0, 0, 750],
  none,
  none,
  mz_qc (.iconst 0) 1 (0),
  mz_q .iaload 1,
  mz_qa (.invokevirtual 124) 3 [7, 114, 4, 0, 0, 6, 0, 852],
  none,
  none,
  mz_qa (.aload_n 0) 1 [0],
  mz_qa (.getfield 20) 3 [7, 5, 0, 755],
  none,
  none,
  mz_qc (.iconst 0) 1 (0),
  mz_qa (.aload_n 0) 1 [0],
  mz_qa (.getfield 213) 3 [7, 14, 0, 764],
  none,
  none,
  mz_qa (.ifCond .ne 11) 3 [58],
  none,
  none,
  mz_qa (.aload_n 0) 1 [0],
  mz_qa (.getfield 219) 3 [7, 15, 0, 765],
  none,
  none,
  mz_q .i2l 1,
  mz_qa (.goto 9) 3 [64],
  none,
  none,
  mz_qa (.aload_n 0) 1 [0],
  mz_qa (.getfield 20) 3 [7, 5, 0, 755],
  none,
  none,
  mz_qc (.iconst 0) 1 (0),
  mz_q .laload 1,
  mz_q .lastore 1,
  mz_qa (.aload_n 0) 1 [0],
  mz_qa (.invokevirtual 247) 3 [7, 145, 1, 1, 0, 3, 0, 1026],
  none,
  none,
  mz_qa .ireturn 1 [0]]
def tb_Mo_works : mz_T := [mz_qa (.aload_n 0) 1 [0],
  mz_qc (.iconst 0) 1 (0),
  mz_qa (.putfield 200) 3 [7, 11, 0, 0, 761],
  none,
  none,
  mz_qa (.aload_n 0) 1 [0],
  mz_qc (.iconst 0) 1 (0),
  mz_qa (.putfield 231) 3 [7, 20, 0, 0, 770],
  none,
  none,
  mz_qa (.aload_n 0) 1 [0],
  mz_qa (.invokevirtual 250) 3 [7, 139, 1, 0, 0, 1, 0, 1018],
  none,
  none,
  mz_qc (.iconst 0) 1 (0),
  mz_qa (.istore_n 1) 1 [1],
  mz_qc (.iconst 1) 1 (1),
  mz_qk (.istore_n 2) 1 (0) [2] [] (none) (some [0, 1, 2]),
  mz_qa (.iload_n 1) 1 [1],
  mz_qa (.ifCond .ne 183) 3 [202],
  none,
  none,
  mz_qa (.aload_n 0) 1 [0],
  mz_qa (.invokevirtual 203) 3 [7, 133, 1, 1, 0, 1, 0, 991],
  none,
  none,
  mz_qa (.ifCond .eq 176) 3 [202],
  none,
  none,
  mz_qa (.aload_n 0) 1 [0],
  mz_qa (.invokevirtual 203) 3 [7, 133, 1, 1, 0, 1, 0, 991],
  none,
  none,
  mz_qa (.istore_n 3) 1 [3],
  mz_qa (.iload_n 2) 1 [2],
  mz_qa (.ifCond .eq 36) 3 [71],
  none,
  none,
  mz_qa (.iload_n 3) 1 [3],
  mz_qc (.bipush 40) 2 (40),
  none,
  mz_qa (.if_icmp .ne 30) 3 [71],
  none,
  none,
  mz_qa (.aload_n 0) 1 [0],
  mz_q .dup 1,
  mz_qa (.getfield 200) 3 [7, 11, 0, 761],
  none,
  none,
  mz_qc (.iconst 1) 1 (1),
  mz_q .iadd 1,
  mz_qa (.putfield 200) 3 [7, 11, 0, 0, 761],
  none,
  none,
  mz_qa (.aload_n 0) 1 [0],
  mz_q .dup 1,
  mz_qa (.getfield 231) 3 [7, 20, 0, 770],
  none,
  none,
  mz_qc (.iconst 1) 1 (1),
  mz_q .iadd 1,
  mz_qa (.putfield 231) 3 [7, 20, 0, 0, 770],
  none,
  none,
  mz_qa (.aload_n 0) 1 [0],
  mz_qa (.invokevirtual 250) 3 [7, 139, 1, 0, 0, 1, 0, 1018],
  none,
  none,
  mz_qa (.goto 131) 3 [199],
  none,
  none,
  mz_qa (.iload_n 2) 1 [2],
  mz_qa (.ifCond .eq 13) 3 [85],
  none,
  none,
  mz_qa (.aload_n 0) 1 [0],
  mz_qa (.invokevirtual 253) 3 [7, 146, 1, 1, 0, 2, 0, 1022],
  none,
  none,
  mz_qa (.istore_n 1) 1 [1],
  mz_qc (.iconst 0) 1 (0),
  mz_qa (.istore_n 2) 1 [2],
  mz_qa (.goto 117) 3 [199],
  none,
  none,
  mz_qa (.iload_n 3) 1 [3],
  mz_qc (.bipush 42) 2 (42),
  none,
  mz_qa (.if_icmp .eq 9) 3 [97],
  none,
  none,
  mz_qa (.iload_n 3) 1 [3],
  mz_qc (.bipush 47) 2 (47),
  none,
  mz_qa (.if_icmp .ne 28) 3 [122],
  none,
  none,
  mz_qa (.aload_n 0) 1 [0],
  mz_qa (.getfield 46) 3 [7, 19, 0, 769],
  none,
  none,
  mz_qa (.aload_n 0) 1 [0],
  mz_qa (.getfield 231) 3 [7, 20, 0, 770],
  none,
  none,
  mz_qa (.iload_n 3) 1 [3],
  mz_q .iastore 1,
  mz_qa (.aload_n 0) 1 [0],
  mz_q .dup 1,
  mz_qa (.getfield 200) 3 [7, 11, 0, 761],
  none,
  none,
  mz_qc (.iconst 1) 1 (1),
  mz_q .iadd 1,
  mz_qa (.putfield 200) 3 [7, 11, 0, 0, 761],
  none,
  none,
  mz_qc (.iconst 1) 1 (1),
  mz_qa (.istore_n 2) 1 [2],
  mz_qa (.goto 80) 3 [199],
  none,
  none,
  mz_qa (.aload_n 0) 1 [0],
  mz_qa (.invokevirtual 256) 3 [7, 144, 1, 1, 0, 3, 0, 1046],
  none,
  none,
  mz_qa (.istore_n 1) 1 [1],
  mz_qa (.aload_n 0) 1 [0],
  mz_q .dup 1,
  mz_qa (.getfield 200) 3 [7, 11, 0, 761],
  none,
  none,
  mz_qc (.iconst 1) 1 (1),
  mz_q .iadd 1,
  mz_qa (.putfield 200) 3 [7, 11, 0, 0, 761],
  none,
  none,
  mz_qa (.iload_n 3) 1 [3],
  mz_qc (.bipush 41) 2 (41),
  none,
  mz_qa (.if_icmp .eq 7) 3 [147],
  none,
  none,
  mz_qc (.iconst 1) 1 (1),
  mz_qa (.goto 4) 3 [148],
  none,
  none,
  mz_qc (.iconst 0) 1 (0),
  mz_qa (.istore_n 2) 1 [2],
  mz_qa (.iload_n 1) 1 [1],
  mz_qa (.ifCond .ne 30) 3 [180],
  none,
  none,
  mz_qa (.iload_n 2) 1 [2],
  mz_qa (.ifCond .eq 26) 3 [180],
  none,
  none,
  mz_qa (.aload_n 0) 1 [0],
  mz_qa (.getfield 43) 3 [7, 18, 0, 768],
  none,
  none,
  mz_qa (.aload_n 0) 1 [0],
  mz_qa (.getfield 231) 3 [7, 20, 0, 770],
  none,
  none,
  mz_qa (.iload_n 3) 1 [3],
  mz_q .iastore 1,
  mz_qa (.aload_n 0) 1 [0],
  mz_qa (.getfield 46) 3 [7, 19, 0, 769],
  none,
  none,
  mz_qa (.aload_n 0) 1 [0],
  mz_qa (.getfield 231) 3 [7, 20, 0, 770],
  none,
  none,
  mz_qc (.iconst 0) 1 (0),
  mz_q .iastore 1,
  mz_qa (.goto 22) 3 [199],
  none,
  none,
  mz_qa (.iload_n 1) 1 [1],
  mz_qa (.ifCond .ne 18) 3 [199],
  none,
  none,
  mz_qa (.aload_n 0) 1 [0],
  mz_q .dup 1,
  mz_qa (.getfield 231) 3 [7, 20, 0, 770],
  none,
  none,
  mz_qc (.iconst 1) 1 (1),
  mz_q .isub 1,
  mz_qa (.putfield 231) 3 [7, 20, 0, 0, 770],
  none,
  none,
  mz_qa (.aload_n 0) 1 [0],
  mz_qa (.invokevirtual 247) 3 [7, 145, 1, 1, 0, 3, 0, 1026],
  none,
  none,
  mz_qa (.istore_n 1) 1 [1],
  mz_qk (.goto (-181)) 3 (0) [18] [] (some [0, 1, 2]) (none),
  none,
  none,
  mz_qa (.iload_n 1) 1 [1],
  mz_qa (.ifCond .ne 10) 3 [213],
  none,
  none,
  mz_qa (.aload_n 0) 1 [0],
  mz_qa (.invokevirtual 256) 3 [7, 144, 1, 1, 0, 3, 0, 1046],
  none,
  none,
  mz_qa (.goto 4) 3 [214],
  none,
  none,
  mz_qa (.iload_n 1) 1 [1],
  mz_qa .ireturn 1 [0]]
def tb_Mo_work : mz_T := [mz_qa (.iload_n 1) 1 [1],
  mz_qa (.invokestatic 138) 3 [1, 102, 1, 1, 0, 1, 0, 839],
  none,
  none,
  mz_qa (.ifCond .ne 6) 3 [10],
  none,
  none,
  mz_qk (.ldc 146) 2 (-1000001) [851] [] (none) (none),
  none,
  mz_qa .ireturn 1 [0],
  mz_qa (.aload_n 0) 1 [0],
  mz_qa (.invokevirtual 259) 3 [7, 138, 1, 1, 0, 6, 0, 987],
  none,
  none,
  mz_qa (.ifCond .ne 43) 3 [57],
  none,
  none,
  mz_qa (.aload_n 0) 1 [0],
  mz_qa (.invokevirtual 203) 3 [7, 133, 1, 1, 0, 1, 0, 991],
  none,
  none,
  mz_qa (.ifCond .ne 7) 3 [28],
  none,
  none,
  mz_qc (.iconst 1) 1 (1),
  mz_qa (.goto 4) 3 [29],
  none,
  none,
  mz_qc (.iconst 0) 1 (0),
  mz_qa (.istore_n 2) 1 [2],
  mz_qk (.ldc_w 262) 3 (-1000020) [1013] [] (none) (none),
  none,
  none,
  mz_qa (.iload_n 2) 1 [2],
  mz_qa (.ifCond .eq 10) 3 [44],
  none,
  none,
  mz_qa (.aload_n 0) 1 [0],
  mz_qa (.getfield 196) 3 [7, 10, 0, 760],
  none,
  none,
  mz_qa (.goto 7) 3 [48],
  none,
  none,
  mz_qa (.aload_n 0) 1 [0],
  mz_qa (.getfield 200) 3 [7, 11, 0, 761],
  none,
  none,
  mz_q .isub 1,
  mz_qa (.istore_n 3) 1 [3],
  mz_qa (.aload_n 0) 1 [0],
  mz_qc (.iconst 0) 1 (0),
  mz_qa (.putfield 196) 3 [7, 10, 0, 0, 760],
  none,
  none,
  mz_qa (.iload_n 3) 1 [3],
  mz_qa .ireturn 1 [0],
  mz_qa (.aload_n 0) 1 [0],
  mz_qk (.ldc 29) 2 (-1000004) [749] [] (none) (none),
  none,
  mz_qa (.putfield 30) 3 [7, 12, 0, 0, 762],
  none,
  none,
  mz_qa (.aload_n 0) 1 [0],
  mz_qk (.ldc 29) 2 (-1000004) [749] [] (none) (none),
  none,
  mz_qa (.putfield 34) 3 [7, 13, 0, 0, 763],
  none,
  none,
  mz_qa (.aload_n 0) 1 [0],
  mz_qa (.invokevirtual 263) 3 [7, 147, 1, 1, 0, 4, 0, 1014],
  none,
  none,
  mz_qa (.istore_n 2) 1 [2],
  mz_qa (.aload_n 0) 1 [0],
  mz_qc (.iconst 0) 1 (0),
  mz_qa (.putfield 196) 3 [7, 10, 0, 0, 760],
  none,
  none,
  mz_qa (.iload_n 2) 1 [2],
  mz_qa (.ifCond .ge 7) 3 [87],
  none,
  none,
  mz_qa (.iload_n 2) 1 [2],
  mz_qa (.goto 8) 3 [92],
  none,
  none,
  mz_qa (.aload_n 0) 1 [0],
  mz_qa (.iload_n 1) 1 [1],
  mz_qa (.invokevirtual 147) 3 [7, 109, 2, 1, 0, 3, 0, 861],
  none,
  none,
  mz_qa .ireturn 1 [0]]
def tb_Mo_first : mz_T := [mz_qa (.iload_n 1) 1 [1],
  mz_qa (.invokestatic 138) 3 [1, 102, 1, 1, 0, 1, 0, 839],
  none,
  none,
  mz_qa (.ifCond .eq 10) 3 [14],
  none,
  none,
  mz_qa (.iload_n 2) 1 [2],
  mz_qa (.invokestatic 138) 3 [1, 102, 1, 1, 0, 1, 0, 839],
  none,
  none,
  mz_qa (.ifCond .ne 6) 3 [17],
  none,
  none,
  mz_qk (.ldc 146) 2 (-1000001) [851] [] (none) (none),
  none,
  mz_qa .ireturn 1 [0],
  mz_qa (.aload_n 0) 1 [0],
  mz_qa (.iload_n 1) 1 [1],
  mz_qa (.invokevirtual 76) 3 [7, 103, 2, 1, 0, 2, 0, 873],
  none,
  none,
  mz_qa (.ifCond .eq 11) 3 [33],
  none,
  none,
  mz_qa (.aload_n 0) 1 [0],
  mz_qa (.iload_n 2) 1 [2],
  mz_qa (.invokevirtual 76) 3 [7, 103, 2, 1, 0, 2, 0, 873],
  none,
  none,
  mz_qa (.ifCond .ne 6) 3 [36],
  none,
  none,
  mz_qk (.ldc 150) 2 (-1000011) [877] [] (none) (none),
  none,
  mz_qa .ireturn 1 [0],
  mz_qa (.aload_n 0) 1 [0],
  mz_qa (.iload_n 1) 1 [1],
  mz_qa (.invokevirtual 76) 3 [7, 103, 2, 1, 0, 2, 0, 873],
  none,
  none,
  mz_qa (.aload_n 0) 1 [0],
  mz_qa (.iload_n 2) 1 [2],
  mz_qa (.invokevirtual 76) 3 [7, 103, 2, 1, 0, 2, 0, 873],
  none,
  none,
  mz_qa (.if_icmp .ge 11) 3 [57],
  none,
  none,
  mz_qa (.aload_n 0) 1 [0],
  mz_qa (.iload_n 1) 1 [1],
  mz_qa (.invokevirtual 76) 3 [7, 103, 2, 1, 0, 2, 0, 873],
  none,
  none,
  mz_qa (.goto 8) 3 [62],
  none,
  none,
  mz_qa (.aload_n 0) 1 [0],
  mz_qa (.iload_n 2) 1 [2],
  mz_qa (.invokevirtual 76) 3 [7, 103, 2, 1, 0, 2, 0, 873],
  none,
  none,
  mz_qa (.istore_n 3) 1 [3],
  mz_qk (.ldc 29) 2 (-1000004) [749] [] (none) (none),
  none,
  mz_qa (.istore 4) 2 [4],
  none,
  mz_qa (.iload_n 3) 1 [3],
  mz_qc (.iconst 1) 1 (1),
  mz_q .isub 1,
  mz_qk (.istore 5) 2 (0) [5] [] (none) (some [0, 1, 2, 4, 5]),
  none,
  mz_qa (.iload 5) 2 [5],
  none,
  mz_qa (.ifCond .lt 35) 3 [109],
  none,
  none,
  mz_qa (.aload_n 0) 1 [0],
  mz_qa (.iload_n 1) 1 [1],
  mz_qa (.iload 5) 2 [5],
  none,
  mz_qa (.invokevirtual 83) 3 [7, 104, 3, 1, 0, 3, 0, 882],
  none,
  none,
  mz_qa (.aload_n 0) 1 [0],
  mz_qa (.iload_n 2) 1 [2],
  mz_qa (.iload 5) 2 [5],
  none,
  mz_qa (.invokevirtual 83) 3 [7, 104, 3, 1, 0, 3, 0, 882],
  none,
  none,
  mz_qa (.if_icmp .eq 8) 3 [99],
  none,
  none,
  mz_qa (.iload 5) 2 [5],
  none,
  mz_qa (.goto 5) 3 [101],
  none,
  none,
  mz_qa (.iload 4) 2 [4],
  none,
  mz_qa (.istore 4) 2 [4],
  none,
  mz_qk (.iinc 5 (-1)) 3 (-1) [5] [] (none) (none),
  none,
  none,
  mz_qk (.goto (-34)) 3 (0) [72] [] (some [0, 1, 2, 4, 5]) (none),
  none,
  none,
  mz_qa (.iload 4) 2 [4],
  none,
  mz_qa .ireturn 1 [0]]
def tb_Mo_isStep : mz_T := [mz_qa (.iload_n 0) 1 [0],
  mz_q .i2l 1,
  mz_ql (.lconst 1) 1 (1) [],
  mz_ql (.ldc2_w 158) 3 (8) [918],
  none,
  none,
  mz_qa (.invokestatic 72) 3 [1, 101, 3, 1, 0, 6, 0, 843],
  none,
  none,
  mz_qa (.ifCond .eq 20) 3 [29],
  none,
  none,
  mz_qa (.iload_n 1) 1 [1],
  mz_q .i2l 1,
  mz_ql (.lconst 0) 1 (0) [],
  mz_qa (.iload_n 0) 1 [0],
  mz_qc (.iconst 1) 1 (1),
  mz_q .isub 1,
  mz_q .i2l 1,
  mz_qa (.invokestatic 72) 3 [1, 101, 3, 1, 0, 6, 0, 843],
  none,
  none,
  mz_qa (.ifCond .eq 7) 3 [29],
  none,
  none,
  mz_qc (.iconst 1) 1 (1),
  mz_qa (.goto 4) 3 [30],
  none,
  none,
  mz_qc (.iconst 0) 1 (0),
  mz_qa .ireturn 1 [1]]
def tb_Mo_failsAt : mz_T := [mz_qk (.ldc 29) 2 (-1000004) [749] [] (none) (none),
  none,
  mz_qa (.istore 5) 2 [5],
  none,
  mz_qa (.aload_n 0) 1 [0],
  mz_qa (.iload_n 1) 1 [1],
  mz_qa (.invokevirtual 76) 3 [7, 103, 2, 1, 0, 2, 0, 873],
  none,
  none,
  mz_qc (.iconst 1) 1 (1),
  mz_q .isub 1,
  mz_qk (.istore 6) 2 (0) [6] [] (none) (some [0, 1, 2, 3, 4, 5, 6]),
  none,
  mz_qa (.iload 6) 2 [6],
  none,
  mz_qa (.ifCond .lt 39) 3 [54],
  none,
  none,
  mz_qa (.iload 6) 2 [6],
  none,
  mz_qa (.iload_n 2) 1 [2],
  mz_q .irem 1,
  mz_qa (.iload_n 3) 1 [3],
  mz_qa (.if_icmp .ne 21) 3 [44],
  none,
  none,
  mz_qa (.aload_n 0) 1 [0],
  mz_qa (.iload_n 1) 1 [1],
  mz_qa (.iload 6) 2 [6],
  none,
  mz_qa (.invokevirtual 83) 3 [7, 104, 3, 1, 0, 3, 0, 882],
  none,
  none,
  mz_qa (.iload 4) 2 [4],
  none,
  mz_q .irem 1,
  mz_qa (.ifCond .eq 8) 3 [44],
  none,
  none,
  mz_qa (.iload 6) 2 [6],
  none,
  mz_qa (.goto 5) 3 [46],
  none,
  none,
  mz_qa (.iload 5) 2 [5],
  none,
  mz_qa (.istore 5) 2 [5],
  none,
  mz_qk (.iinc 6 (-1)) 3 (-1) [6] [] (none) (none),
  none,
  none,
  mz_qk (.goto (-38)) 3 (0) [13] [] (some [0, 1, 2, 3, 4, 5, 6]) (none),
  none,
  none,
  mz_qa (.iload 5) 2 [5],
  none,
  mz_qa .ireturn 1 [0]]
def tb_Mo_fits : mz_T := [mz_qa (.iload_n 1) 1 [1],
  mz_qa (.invokestatic 138) 3 [1, 102, 1, 1, 0, 1, 0, 839],
  none,
  none,
  mz_qa (.ifCond .eq 37) 3 [41],
  none,
  none,
  mz_qa (.iload_n 2) 1 [2],
  mz_qa (.iload_n 3) 1 [3],
  mz_qa (.invokestatic 266) 3 [1, 150, 2, 1, 0, 2, 0, 1058],
  none,
  none,
  mz_qa (.ifCond .eq 29) 3 [41],
  none,
  none,
  mz_qa (.iload 4) 2 [4],
  none,
  mz_q .i2l 1,
  mz_ql (.ldc2_w 119) 3 (2) [860],
  none,
  none,
  mz_ql (.ldc2_w 136) 3 (9) [850],
  none,
  none,
  mz_qa (.invokestatic 72) 3 [1, 101, 3, 1, 0, 6, 0, 843],
  none,
  none,
  mz_qa (.ifCond .eq 14) 3 [41],
  none,
  none,
  mz_qa (.iload 5) 2 [5],
  none,
  mz_q .i2l 1,
  mz_ql (.lconst 0) 1 (0) [],
  mz_ql (.lconst 1) 1 (1) [],
  mz_qa (.invokestatic 72) 3 [1, 101, 3, 1, 0, 6, 0, 843],
  none,
  none,
  mz_qa (.ifCond .ne 6) 3 [44],
  none,
  none,
  mz_qk (.ldc 146) 2 (-1000001) [851] [] (none) (none),
  none,
  mz_qa .ireturn 1 [0],
  mz_qa (.aload_n 0) 1 [0],
  mz_qa (.iload_n 1) 1 [1],
  mz_qa (.invokevirtual 76) 3 [7, 103, 2, 1, 0, 2, 0, 873],
  none,
  none,
  mz_qa (.ifCond .ne 6) 3 [55],
  none,
  none,
  mz_qk (.ldc 150) 2 (-1000011) [877] [] (none) (none),
  none,
  mz_qa .ireturn 1 [0],
  mz_qa (.aload_n 0) 1 [0],
  mz_qa (.iload_n 1) 1 [1],
  mz_qa (.iload_n 2) 1 [2],
  mz_qa (.iload_n 3) 1 [3],
  mz_qa (.iload 4) 2 [4],
  none,
  mz_qa (.invokevirtual 269) 3 [7, 151, 5, 1, 0, 7, 0, 1061],
  none,
  none,
  mz_qa (.istore 6) 2 [6],
  none,
  mz_qa (.iload 5) 2 [5],
  none,
  mz_qc (.iconst 1) 1 (1),
  mz_qa (.if_icmp .ne 8) 3 [77],
  none,
  none,
  mz_qa (.iload 6) 2 [6],
  none,
  mz_qa (.goto 15) 3 [89],
  none,
  none,
  mz_qa (.iload 6) 2 [6],
  none,
  mz_qk (.ldc 29) 2 (-1000004) [749] [] (none) (none),
  none,
  mz_qa (.if_icmp .ne 7) 3 [88],
  none,
  none,
  mz_qc (.iconst 1) 1 (1),
  mz_qa (.goto 4) 3 [89],
  none,
  none,
  mz_qc (.iconst 0) 1 (0),
  mz_qa .ireturn 1 [0]]
def tb_Mo_found : mz_T := [mz_qa (.iload_n 1) 1 [1],
  mz_qa (.invokestatic 138) 3 [1, 102, 1, 1, 0, 1, 0, 839],
  none,
  none,
  mz_qa (.ifCond .eq 11) 3 [15],
  none,
  none,
  mz_qa (.iload_n 2) 1 [2],
  mz_qa (.iload_n 3) 1 [3],
  mz_qa (.invokestatic 266) 3 [1, 150, 2, 1, 0, 2, 0, 1058],
  none,
  none,
  mz_qa (.ifCond .ne 6) 3 [18],
  none,
  none,
  mz_qk (.ldc 146) 2 (-1000001) [851] [] (none) (none),
  none,
  mz_qa .ireturn 1 [0],
  mz_qa (.aload_n 0) 1 [0],
  mz_qa (.iload_n 1) 1 [1],
  mz_qa (.invokevirtual 76) 3 [7, 103, 2, 1, 0, 2, 0, 873],
  none,
  none,
  mz_qa (.ifCond .ne 6) 3 [29],
  none,
  none,
  mz_qk (.ldc 150) 2 (-1000011) [877] [] (none) (none),
  none,
  mz_qa .ireturn 1 [0],
  mz_qa (.iload_n 2) 1 [2],
  mz_qk (.istore 4) 2 (0) [4] [] (none) (some [0, 1, 2, 3, 4]),
  none,
  mz_qa (.iload 4) 2 [4],
  none,
  mz_qc (.bipush 9) 2 (9),
  none,
  mz_qa (.if_icmp .ge 98) 3 [134],
  none,
  none,
  mz_qa (.iload 4) 2 [4],
  none,
  mz_qa (.iload_n 2) 1 [2],
  mz_qa (.if_icmp .ne 7) 3 [49],
  none,
  none,
  mz_qa (.iload_n 3) 1 [3],
  mz_qa (.goto 4) 3 [50],
  none,
  none,
  mz_qc (.iconst 0) 1 (0),
  mz_qk (.istore 5) 2 (0) [5] [] (none) (some [0, 1, 2, 3, 4, 5]),
  none,
  mz_qa (.iload 5) 2 [5],
  none,
  mz_qa (.iload 4) 2 [4],
  none,
  mz_qa (.if_icmp .ge 72) 3 [128],
  none,
  none,
  mz_qa (.iload 5) 2 [5],
  none,
  mz_qc (.iconst 2) 1 (2),
  mz_qa (.iload 4) 2 [4],
  none,
  mz_q .imul 1,
  mz_q .iadd 1,
  mz_qa (.aload_n 0) 1 [0],
  mz_qa (.iload_n 1) 1 [1],
  mz_qa (.invokevirtual 76) 3 [7, 103, 2, 1, 0, 2, 0, 873],
  none,
  none,
  mz_qa (.if_icmp .ge 57) 3 [128],
  none,
  none,
  mz_qc (.iconst 2) 1 (2),
  mz_qk (.istore 6) 2 (0) [6] [] (none) (some [0, 1, 2, 3, 4, 5, 6]),
  none,
  mz_qa (.iload 6) 2 [6],
  none,
  mz_qc (.bipush 10) 2 (10),
  none,
  mz_qa (.if_icmp .ge 41) 3 [122],
  none,
  none,
  mz_qa (.aload_n 0) 1 [0],
  mz_qa (.iload_n 1) 1 [1],
  mz_qa (.iload 4) 2 [4],
  none,
  mz_qa (.iload 5) 2 [5],
  none,
  mz_qa (.iload 6) 2 [6],
  none,
  mz_qa (.invokevirtual 269) 3 [7, 151, 5, 1, 0, 7, 0, 1061],
  none,
  none,
  mz_qk (.ldc 29) 2 (-1000004) [749] [] (none) (none),
  none,
  mz_qa (.if_icmp .ne 19) 3 [116],
  none,
  none,
  mz_qc (.sipush 1000) 3 (1000),
  none,
  none,
  mz_qa (.iload 4) 2 [4],
  none,
  mz_q .imul 1,
  mz_qc (.bipush 100) 2 (100),
  none,
  mz_qa (.iload 5) 2 [5],
  none,
  mz_q .imul 1,
  mz_q .iadd 1,
  mz_qa (.iload 6) 2 [6],
  none,
  mz_q .iadd 1,
  mz_qa .ireturn 1 [0],
  mz_qk (.iinc 6 1) 3 (1) [6] [] (none) (none),
  none,
  none,
  mz_qk (.goto (-42)) 3 (0) [77] [] (some [0, 1, 2, 3, 4, 5, 6]) (none),
  none,
  none,
  mz_qk (.iinc 5 1) 3 (1) [5] [] (none) (none),
  none,
  none,
  mz_qk (.goto (-73)) 3 (0) [52] [] (some [0, 1, 2, 3, 4, 5]) (none),
  none,
  none,
  mz_qk (.iinc 4 1) 3 (1) [4] [] (none) (none),
  none,
  none,
  mz_qk (.goto (-99)) 3 (0) [32] [] (some [0, 1, 2, 3, 4]) (none),
  none,
  none,
  mz_qk (.ldc 29) 2 (-1000004) [749] [] (none) (none),
  none,
  mz_qa .ireturn 1 [0]]
def tb_Mo_guess : mz_T := [mz_qa (.iload_n 1) 1 [1],
  mz_qa (.invokestatic 138) 3 [1, 102, 1, 1, 0, 1, 0, 839],
  none,
  none,
  mz_qa (.ifCond .eq 38) 3 [42],
  none,
  none,
  mz_qa (.iload_n 2) 1 [2],
  mz_q .i2l 1,
  mz_ql (.lconst 0) 1 (0) [],
  mz_ql (.ldc2_w 273) 3 (6) [1073],
  none,
  none,
  mz_qa (.invokestatic 72) 3 [1, 101, 3, 1, 0, 6, 0, 843],
  none,
  none,
  mz_qa (.ifCond .eq 26) 3 [42],
  none,
  none,
  mz_qa (.iload_n 3) 1 [3],
  mz_q .i2l 1,
  mz_ql (.lconst 0) 1 (0) [],
  mz_ql (.ldc2_w 275) 3 (10) [1074],
  none,
  none,
  mz_qa (.invokestatic 72) 3 [1, 101, 3, 1, 0, 6, 0, 843],
  none,
  none,
  mz_qa (.ifCond .eq 14) 3 [42],
  none,
  none,
  mz_qa (.iload 4) 2 [4],
  none,
  mz_q .i2l 1,
  mz_ql (.lconst 0) 1 (0) [],
  mz_ql (.lconst 1) 1 (1) [],
  mz_qa (.invokestatic 72) 3 [1, 101, 3, 1, 0, 6, 0, 843],
  none,
  none,
  mz_qa (.ifCond .ne 6) 3 [45],
  none,
  none,
  mz_qk (.ldc 146) 2 (-1000001) [851] [] (none) (none),
  none,
  mz_qa .ireturn 1 [0],
  mz_qa (.aload_n 0) 1 [0],
  mz_qa (.iload_n 1) 1 [1],
  mz_qa (.invokevirtual 76) 3 [7, 103, 2, 1, 0, 2, 0, 873],
  none,
  none,
  mz_qa (.ifCond .ne 6) 3 [56],
  none,
  none,
  mz_qk (.ldc 150) 2 (-1000011) [877] [] (none) (none),
  none,
  mz_qa .ireturn 1 [0],
  mz_qa (.iload_n 2) 1 [2],
  mz_qa (.aload_n 0) 1 [0],
  mz_qa (.iload_n 1) 1 [1],
  mz_qa (.invokevirtual 76) 3 [7, 103, 2, 1, 0, 2, 0, 873],
  none,
  none,
  mz_qa (.if_icmp .le 6) 3 [68],
  none,
  none,
  mz_qk (.ldc 146) 2 (-1000001) [851] [] (none) (none),
  none,
  mz_qa .ireturn 1 [0],
  mz_qc (.iconst 1) 1 (1),
  mz_qa (.istore 5) 2 [5],
  none,
  mz_qc (.iconst 1) 1 (1),
  mz_qa (.istore 6) 2 [6],
  none,
  mz_qc (.iconst 0) 1 (0),
  mz_qk (.istore 7) 2 (0) [7] [] (none) (some [0, 1, 2, 3, 4, 5, 6, 7]),
  none,
  mz_qa (.iload 7) 2 [7],
  none,
  mz_qa (.iload_n 2) 1 [2],
  mz_qa (.if_icmp .ge 41) 3 [121],
  none,
  none,
  mz_qa (.iload 5) 2 [5],
  none,
  mz_qa (.aload_n 0) 1 [0],
  mz_qa (.iload_n 1) 1 [1],
  mz_qa (.iload 7) 2 [7],
  none,
  mz_qa (.invokevirtual 83) 3 [7, 104, 3, 1, 0, 3, 0, 882],
  none,
  none,
  mz_qc (.iconst 2) 1 (2),
  mz_q .irem 1,
  mz_qa (.ifCond .ne 10) 3 [104],
  none,
  none,
  mz_qc (.bipush 10) 2 (10),
  none,
  mz_qa (.iload_n 3) 1 [3],
  mz_q .isub 1,
  mz_qa (.goto 4) 3 [105],
  none,
  none,
  mz_qa (.iload_n 3) 1 [3],
  mz_q .imul 1,
  mz_qa (.istore 5) 2 [5],
  none,
  mz_qa (.iload 6) 2 [6],
  none,
  mz_qc (.bipush 10) 2 (10),
  none,
  mz_q .imul 1,
  mz_qa (.istore 6) 2 [6],
  none,
  mz_qk (.iinc 7 1) 3 (1) [7] [] (none) (none),
  none,
  none,
  mz_qk (.goto (-41)) 3 (0) [77] [] (some [0, 1, 2, 3, 4, 5, 6, 7]) (none),
  none,
  none,
  mz_qa (.iload 5) 2 [5],
  none,
  mz_qa (.istore 7) 2 [7],
  none,
  mz_qa (.iload 6) 2 [6],
  none,
  mz_qk (.istore 8) 2 (0) [8] [] (none) (some [4, 5, 6, 7, 8]),
  none,
  mz_qa (.iload 8) 2 [8],
  none,
  mz_qa (.ifCond .eq 21) 3 [152],
  none,
  none,
  mz_qa (.iload 7) 2 [7],
  none,
  mz_qa (.iload 8) 2 [8],
  none,
  mz_q .irem 1,
  mz_qa (.istore 9) 2 [9],
  none,
  mz_qa (.iload 8) 2 [8],
  none,
  mz_qa (.istore 7) 2 [7],
  none,
  mz_qa (.iload 9) 2 [9],
  none,
  mz_qa (.istore 8) 2 [8],
  none,
  mz_qk (.goto (-20)) 3 (0) [129] [] (some [4, 5, 6, 7, 8]) (none),
  none,
  none,
  mz_qa (.iload 4) 2 [4],
  none,
  mz_qa (.ifCond .ne 8) 3 [162],
  none,
  none,
  mz_qa (.iload 5) 2 [5],
  none,
  mz_qa (.goto 5) 3 [164],
  none,
  none,
  mz_qa (.iload 6) 2 [6],
  none,
  mz_qa (.iload 7) 2 [7],
  none,
  mz_q .idiv 1,
  mz_qa .ireturn 1 [0]]
def tb_Mo_image : mz_T := [mz_qc (.iconst 0) 1 (0),
  mz_qk (.istore_n 1) 1 (0) [1] [] (none) (some [0, 1]),
  mz_qa (.iload_n 1) 1 [1],
  mz_qc (.sipush 166) 3 (166),
  none,
  none,
  mz_qa (.if_icmp .ge 21) 3 [27],
  none,
  none,
  mz_qa (.aload_n 0) 1 [0],
  mz_qa (.getfield 49) 3 [7, 21, 0, 771],
  none,
  none,
  mz_qa (.iload_n 1) 1 [1],
  mz_qa (.aload_n 0) 1 [0],
  mz_qa (.getfield 7) 3 [7, 0, 0, 750],
  none,
  none,
  mz_qa (.iload_n 1) 1 [1],
  mz_q .iaload 1,
  mz_q .iastore 1,
  mz_qk (.iinc 1 1) 3 (1) [1] [] (none) (none),
  none,
  none,
  mz_qk (.goto (-22)) 3 (0) [2] [] (some [0, 1]) (none),
  none,
  none,
  mz_qc (.iconst 0) 1 (0),
  mz_qk (.istore_n 1) 1 (0) [1] [] (none) (some [0, 1]),
  mz_qa (.iload_n 1) 1 [1],
  mz_qc (.sipush 996) 3 (996),
  none,
  none,
  mz_qa (.if_icmp .ge 21) 3 [54],
  none,
  none,
  mz_qa (.aload_n 0) 1 [0],
  mz_qa (.getfield 52) 3 [7, 22, 0, 772],
  none,
  none,
  mz_qa (.iload_n 1) 1 [1],
  mz_qa (.aload_n 0) 1 [0],
  mz_qa (.getfield 23) 3 [7, 7, 0, 757],
  none,
  none,
  mz_qa (.iload_n 1) 1 [1],
  mz_q .iaload 1,
  mz_q .iastore 1,
  mz_qk (.iinc 1 1) 3 (1) [1] [] (none) (none),
  none,
  none,
  mz_qk (.goto (-22)) 3 (0) [29] [] (some [0, 1]) (none),
  none,
  none,
  mz_qa (.aload_n 0) 1 [0],
  mz_qa (.aload_n 0) 1 [0],
  mz_qa (.getfield 189) 3 [7, 8, 0, 758],
  none,
  none,
  mz_qa (.putfield 55) 3 [7, 23, 0, 0, 773],
  none,
  none,
  mz_qc (.iconst 1) 1 (1),
  mz_qa .ireturn 1 [0]]
def tb_Mo_restore : mz_T := [mz_qa (.aload_n 0) 1 [0],
  mz_qa (.getfield 55) 3 [7, 23, 0, 773],
  none,
  none,
  mz_qa (.ifCond .ge 6) 3 [10],
  none,
  none,
  mz_qk (.ldc 29) 2 (-1000004) [749] [] (none) (none),
  none,
  mz_qa .ireturn 1 [0],
  mz_qc (.iconst 0) 1 (0),
  mz_qk (.istore_n 1) 1 (0) [1] [] (none) (some [0, 1]),
  mz_qa (.iload_n 1) 1 [1],
  mz_qc (.sipush 166) 3 (166),
  none,
  none,
  mz_qa (.if_icmp .ge 21) 3 [37],
  none,
  none,
  mz_qa (.aload_n 0) 1 [0],
  mz_qa (.getfield 7) 3 [7, 0, 0, 750],
  none,
  none,
  mz_qa (.iload_n 1) 1 [1],
  mz_qa (.aload_n 0) 1 [0],
  mz_qa (.getfield 49) 3 [7, 21, 0, 771],
  none,
  none,
  mz_qa (.iload_n 1) 1 [1],
  mz_q .iaload 1,
  mz_q .iastore 1,
  mz_qk (.iinc 1 1) 3 (1) [1] [] (none) (none),
  none,
  none,
  mz_qk (.goto (-22)) 3 (0) [12] [] (some [0, 1]) (none),
  none,
  none,
  mz_qc (.iconst 0) 1 (0),
  mz_qk (.istore_n 1) 1 (0) [1] [] (none) (some [0, 1]),
  mz_qa (.iload_n 1) 1 [1],
  mz_qc (.sipush 996) 3 (996),
  none,
  none,
  mz_qa (.if_icmp .ge 21) 3 [64],
  none,
  none,
  mz_qa (.aload_n 0) 1 [0],
  mz_qa (.getfield 23) 3 [7, 7, 0, 757],
  none,
  none,
  mz_qa (.iload_n 1) 1 [1],
  mz_qa (.aload_n 0) 1 [0],
  mz_qa (.getfield 52) 3 [7, 22, 0, 772],
  none,
  none,
  mz_qa (.iload_n 1) 1 [1],
  mz_q .iaload 1,
  mz_q .iastore 1,
  mz_qk (.iinc 1 1) 3 (1) [1] [] (none) (none),
  none,
  none,
  mz_qk (.goto (-22)) 3 (0) [39] [] (some [0, 1]) (none),
  none,
  none,
  mz_qa (.aload_n 0) 1 [0],
  mz_qa (.aload_n 0) 1 [0],
  mz_qa (.getfield 55) 3 [7, 23, 0, 773],
  none,
  none,
  mz_qa (.putfield 189) 3 [7, 8, 0, 0, 758],
  none,
  none,
  mz_qc (.iconst 1) 1 (1),
  mz_qa .ireturn 1 [0]]
def tb_Mo_isSheet : mz_T := [mz_qa (.iload_n 0) 1 [0],
  mz_q .i2l 1,
  mz_ql (.lconst 0) 1 (0) [],
  mz_ql (.ldc2_w 70) 3 (3) [842],
  none,
  none,
  mz_qa (.invokestatic 72) 3 [1, 101, 3, 1, 0, 6, 0, 843],
  none,
  none,
  mz_qa .ireturn 1 [1]]
def tb_Mo_cut : mz_T := [mz_qa (.iload_n 2) 1 [2],
  mz_qa (.ifCond .ne 10) 3 [11],
  none,
  none,
  mz_qa (.lload_n 0) 1 [0],
  mz_q .l2i 1,
  mz_q .i2b 1,
  mz_q .i2l 1,
  mz_qa (.goto 27) 3 [35],
  none,
  none,
  mz_qa (.iload_n 2) 1 [2],
  mz_qc (.iconst 1) 1 (1),
  mz_qa (.if_icmp .ne 10) 3 [23],
  none,
  none,
  mz_qa (.lload_n 0) 1 [0],
  mz_q .l2i 1,
  mz_q .i2s 1,
  mz_q .i2l 1,
  mz_qa (.goto 15) 3 [35],
  none,
  none,
  mz_qa (.iload_n 2) 1 [2],
  mz_qc (.iconst 2) 1 (2),
  mz_qa (.if_icmp .ne 9) 3 [34],
  none,
  none,
  mz_qa (.lload_n 0) 1 [0],
  mz_q .l2i 1,
  mz_q .i2l 1,
  mz_qa (.goto 4) 3 [35],
  none,
  none,
  mz_qa (.lload_n 0) 1 [0],
  mz_q .lreturn 1]
def tb_Mo_sheet : mz_T := [mz_qa (.iload_n 1) 1 [1],
  mz_qa (.invokestatic 277) 3 [1, 157, 1, 1, 0, 1, 0, 1087],
  none,
  none,
  mz_qa (.ifCond .eq 21) 3 [25],
  none,
  none,
  mz_qa (.iload_n 2) 1 [2],
  mz_q .i2l 1,
  mz_ql (.lconst 0) 1 (0) [],
  mz_ql (.ldc2_w 70) 3 (3) [842],
  none,
  none,
  mz_qa (.invokestatic 72) 3 [1, 101, 3, 1, 0, 6, 0, 843],
  none,
  none,
  mz_qa (.ifCond .eq 9) 3 [25],
  none,
  none,
  mz_qa (.iload_n 3) 1 [3],
  mz_qc (.bipush 40) 2 (40),
  none,
  mz_qa (.if_icmp .le 6) 3 [28],
  none,
  none,
  mz_qk (.ldc 146) 2 (-1000001) [851] [] (none) (none),
  none,
  mz_qa .ireturn 1 [0],
  mz_qa (.iload_n 3) 1 [3],
  mz_qa (.ifCond .ge 7) 3 [36],
  none,
  none,
  mz_qk (.ldc_w 280) 3 (-1000014) [1090] [] (none) (none),
  none,
  none,
  mz_qa .ireturn 1 [0],
  mz_qa (.aload_n 0) 1 [0],
  mz_qa (.getfield 58) 3 [7, 24, 0, 774],
  none,
  none,
  mz_qa (.iload_n 1) 1 [1],
  mz_qa (.iload_n 2) 1 [2],
  mz_q .iastore 1,
  mz_qa (.aload_n 0) 1 [0],
  mz_qa (.getfield 61) 3 [7, 25, 0, 775],
  none,
  none,
  mz_qa (.iload_n 1) 1 [1],
  mz_qa (.iload_n 3) 1 [3],
  mz_q .iastore 1,
  mz_qc (.iconst 0) 1 (0),
  mz_qk (.istore 4) 2 (0) [4] [] (none) (some [0, 1, 3, 4]),
  none,
  mz_qa (.iload 4) 2 [4],
  none,
  mz_qc (.bipush 40) 2 (40),
  none,
  mz_qa (.if_icmp .ge 22) 3 [79],
  none,
  none,
  mz_qa (.aload_n 0) 1 [0],
  mz_qa (.getfield 64) 3 [7, 26, 0, 776],
  none,
  none,
  mz_qc (.bipush 40) 2 (40),
  none,
  mz_qa (.iload_n 1) 1 [1],
  mz_q .imul 1,
  mz_qa (.iload 4) 2 [4],
  none,
  mz_q .iadd 1,
  mz_ql (.lconst 0) 1 (0) [],
  mz_q .lastore 1,
  mz_qk (.iinc 4 1) 3 (1) [4] [] (none) (none),
  none,
  none,
  mz_qk (.goto (-23)) 3 (0) [53] [] (some [0, 1, 3, 4]) (none),
  none,
  none,
  mz_qa (.iload_n 3) 1 [3],
  mz_qa .ireturn 1 [0]]
def tb_Mo_drop : mz_T := [mz_qa (.iload_n 1) 1 [1],
  mz_qa (.invokestatic 277) 3 [1, 157, 1, 1, 0, 1, 0, 1087],
  none,
  none,
  mz_qa (.ifCond .ne 6) 3 [10],
  none,
  none,
  mz_qk (.ldc 146) 2 (-1000001) [851] [] (none) (none),
  none,
  mz_qa .ireturn 1 [0],
  mz_qa (.aload_n 0) 1 [0],
  mz_qa (.getfield 58) 3 [7, 24, 0, 774],
  none,
  none,
  mz_qa (.iload_n 1) 1 [1],
  mz_q .iaload 1,
  mz_qa (.ifCond .ge 6) 3 [22],
  none,
  none,
  mz_qk (.ldc 150) 2 (-1000011) [877] [] (none) (none),
  none,
  mz_qa .ireturn 1 [0],
  mz_qa (.aload_n 0) 1 [0],
  mz_qa (.getfield 58) 3 [7, 24, 0, 774],
  none,
  none,
  mz_qa (.iload_n 1) 1 [1],
  mz_qc (.iconst (-1)) 1 (-1),
  mz_q .iastore 1,
  mz_qa (.aload_n 0) 1 [0],
  mz_qa (.getfield 61) 3 [7, 25, 0, 775],
  none,
  none,
  mz_qa (.iload_n 1) 1 [1],
  mz_q .iaload 1,
  mz_qa .ireturn 1 [0]]
def tb_Mo_why : mz_T := [mz_qa (.aload_n 0) 1 [0],
  mz_qa (.getfield 58) 3 [7, 24, 0, 774],
  none,
  none,
  mz_qa (.iload_n 1) 1 [1],
  mz_q .iaload 1,
  mz_qa (.ifCond .ge 6) 3 [12],
  none,
  none,
  mz_qk (.ldc 150) 2 (-1000011) [877] [] (none) (none),
  none,
  mz_qa .ireturn 1 [0],
  mz_qa (.aload_n 0) 1 [0],
  mz_qa (.getfield 58) 3 [7, 24, 0, 774],
  none,
  none,
  mz_qa (.iload_n 1) 1 [1],
  mz_q .iaload 1,
  mz_qa (.iload_n 2) 1 [2],
  mz_qa (.if_icmp .eq 7) 3 [26],
  none,
  none,
  mz_qk (.ldc_w 281) 3 (-1000012) [1103] [] (none) (none),
  none,
  none,
  mz_qa .ireturn 1 [0],
  mz_qa (.iload_n 3) 1 [3],
  mz_qa (.ifCond .lt 16) 3 [43],
  none,
  none,
  mz_qa (.iload 4) 2 [4],
  none,
  mz_qa (.aload_n 0) 1 [0],
  mz_qa (.getfield 61) 3 [7, 25, 0, 775],
  none,
  none,
  mz_qa (.iload_n 1) 1 [1],
  mz_q .iaload 1,
  mz_qa (.iload_n 3) 1 [3],
  mz_q .isub 1,
  mz_qa (.if_icmp .le 9) 3 [49],
  none,
  none,
  mz_qk (.ldc_w 282) 3 (-1000013) [1104] [] (none) (none),
  none,
  none,
  mz_qa (.goto 4) 3 [50],
  none,
  none,
  mz_qc (.iconst 0) 1 (0),
  mz_qa .ireturn 1 [0]]
def tb_Mo_item : mz_T := [mz_qa (.iload_n 1) 1 [1],
  mz_qa (.invokestatic 277) 3 [1, 157, 1, 1, 0, 1, 0, 1087],
  none,
  none,
  mz_qa (.ifCond .eq 15) 3 [19],
  none,
  none,
  mz_qa (.iload_n 2) 1 [2],
  mz_q .i2l 1,
  mz_ql (.lconst 0) 1 (0) [],
  mz_ql (.ldc2_w 70) 3 (3) [842],
  none,
  none,
  mz_qa (.invokestatic 72) 3 [1, 101, 3, 1, 0, 6, 0, 843],
  none,
  none,
  mz_qa (.ifCond .ne 6) 3 [22],
  none,
  none,
  mz_qk (.ldc 146) 2 (-1000001) [851] [] (none) (none),
  none,
  mz_qa .ireturn 1 [0],
  mz_qa (.aload_n 0) 1 [0],
  mz_qa (.iload_n 1) 1 [1],
  mz_qa (.iload_n 2) 1 [2],
  mz_qa (.iload_n 3) 1 [3],
  mz_qc (.iconst 1) 1 (1),
  mz_qa (.invokevirtual 283) 3 [7, 161, 5, 1, 0, 5, 0, 1099],
  none,
  none,
  mz_qa (.istore 6) 2 [6],
  none,
  mz_qa (.iload 6) 2 [6],
  none,
  mz_qa (.ifCond .ge 6) 3 [40],
  none,
  none,
  mz_qa (.iload 6) 2 [6],
  none,
  mz_qa .ireturn 1 [0],
  mz_qa (.aload_n 0) 1 [0],
  mz_qa (.getfield 64) 3 [7, 26, 0, 776],
  none,
  none,
  mz_qc (.bipush 40) 2 (40),
  none,
  mz_qa (.iload_n 1) 1 [1],
  mz_q .imul 1,
  mz_qa (.iload_n 3) 1 [3],
  mz_q .iadd 1,
  mz_qa (.lload 4) 2 [4],
  none,
  mz_qa (.iload_n 2) 1 [2],
  mz_qa (.invokestatic 286) 3 [1, 158, 2, 2, 0, 3, 0, 1105],
  none,
  none,
  mz_q .lastore 1,
  mz_qc (.iconst 1) 1 (1),
  mz_qa .ireturn 1 [0]]
def tb_Mo_copy : mz_T := [mz_qa (.iload_n 1) 1 [1],
  mz_qa (.invokestatic 277) 3 [1, 157, 1, 1, 0, 1, 0, 1087],
  none,
  none,
  mz_qa (.ifCond .eq 10) 3 [14],
  none,
  none,
  mz_qa (.iload_n 3) 1 [3],
  mz_qa (.invokestatic 277) 3 [1, 157, 1, 1, 0, 1, 0, 1087],
  none,
  none,
  mz_qa (.ifCond .ne 6) 3 [17],
  none,
  none,
  mz_qk (.ldc 146) 2 (-1000001) [851] [] (none) (none),
  none,
  mz_qa .ireturn 1 [0],
  mz_qa (.aload_n 0) 1 [0],
  mz_qa (.getfield 58) 3 [7, 24, 0, 774],
  none,
  none,
  mz_qa (.iload_n 1) 1 [1],
  mz_q .iaload 1,
  mz_qa (.ifCond .lt 12) 3 [35],
  none,
  none,
  mz_qa (.aload_n 0) 1 [0],
  mz_qa (.getfield 58) 3 [7, 24, 0, 774],
  none,
  none,
  mz_qa (.iload_n 3) 1 [3],
  mz_q .iaload 1,
  mz_qa (.ifCond .ge 6) 3 [38],
  none,
  none,
  mz_qk (.ldc 150) 2 (-1000011) [877] [] (none) (none),
  none,
  mz_qa .ireturn 1 [0],
  mz_qa (.aload_n 0) 1 [0],
  mz_qa (.getfield 58) 3 [7, 24, 0, 774],
  none,
  none,
  mz_qa (.iload_n 1) 1 [1],
  mz_q .iaload 1,
  mz_qa (.aload_n 0) 1 [0],
  mz_qa (.getfield 58) 3 [7, 24, 0, 774],
  none,
  none,
  mz_qa (.iload_n 3) 1 [3],
  mz_q .iaload 1,
  mz_qa (.if_icmp .eq 7) 3 [57],
  none,
  none,
  mz_qk (.ldc_w 281) 3 (-1000012) [1103] [] (none) (none),
  none,
  none,
  mz_qa .ireturn 1 [0],
  mz_qa (.iload 5) 2 [5],
  none,
  mz_qa (.ifCond .lt 47) 3 [106],
  none,
  none,
  mz_qa (.iload_n 2) 1 [2],
  mz_qa (.ifCond .lt 43) 3 [106],
  none,
  none,
  mz_qa (.iload 4) 2 [4],
  none,
  mz_qa (.ifCond .lt 38) 3 [106],
  none,
  none,
  mz_qa (.iload_n 2) 1 [2],
  mz_q .i2l 1,
  mz_qa (.iload 5) 2 [5],
  none,
  mz_q .i2l 1,
  mz_q .ladd 1,
  mz_qa (.aload_n 0) 1 [0],
  mz_qa (.getfield 61) 3 [7, 25, 0, 775],
  none,
  none,
  mz_qa (.iload_n 1) 1 [1],
  mz_q .iaload 1,
  mz_q .i2l 1,
  mz_q .lcmp 1,
  mz_qa (.ifCond .gt 21) 3 [106],
  none,
  none,
  mz_qa (.iload 4) 2 [4],
  none,
  mz_q .i2l 1,
  mz_qa (.iload 5) 2 [5],
  none,
  mz_q .i2l 1,
  mz_q .ladd 1,
  mz_qa (.aload_n 0) 1 [0],
  mz_qa (.getfield 61) 3 [7, 25, 0, 775],
  none,
  none,
  mz_qa (.iload_n 3) 1 [3],
  mz_q .iaload 1,
  mz_q .i2l 1,
  mz_q .lcmp 1,
  mz_qa (.ifCond .le 7) 3 [110],
  none,
  none,
  mz_qk (.ldc_w 282) 3 (-1000013) [1104] [] (none) (none),
  none,
  none,
  mz_qa .ireturn 1 [0],
  mz_qc (.iconst 0) 1 (0),
  mz_qk (.istore 6) 2 (0) [6] [] (none) (some [0, 1, 2, 3, 4, 5, 6]),
  none,
  mz_qa (.iload 6) 2 [6],
  none,
  mz_qa (.iload 5) 2 [5],
  none,
  mz_qa (.if_icmp .ge 30) 3 [147],
  none,
  none,
  mz_qa (.aload_n 0) 1 [0],
  mz_qa (.getfield 67) 3 [7, 27, 0, 777],
  none,
  none,
  mz_qa (.iload 6) 2 [6],
  none,
  mz_qa (.aload_n 0) 1 [0],
  mz_qa (.getfield 64) 3 [7, 26, 0, 776],
  none,
  none,
  mz_qc (.bipush 40) 2 (40),
  none,
  mz_qa (.iload_n 1) 1 [1],
  mz_q .imul 1,
  mz_qa (.iload_n 2) 1 [2],
  mz_q .iadd 1,
  mz_qa (.iload 6) 2 [6],
  none,
  mz_q .iadd 1,
  mz_q .laload 1,
  mz_q .lastore 1,
  mz_qk (.iinc 6 1) 3 (1) [6] [] (none) (none),
  none,
  none,
  mz_qk (.goto (-31)) 3 (0) [113] [] (some [0, 1, 2, 3, 4, 5, 6]) (none),
  none,
  none,
  mz_qc (.iconst 0) 1 (0),
  mz_qk (.istore 6) 2 (0) [6] [] (none) (some [0, 3, 4, 5, 6]),
  none,
  mz_qa (.iload 6) 2 [6],
  none,
  mz_qa (.iload 5) 2 [5],
  none,
  mz_qa (.if_icmp .ge 31) 3 [185],
  none,
  none,
  mz_qa (.aload_n 0) 1 [0],
  mz_qa (.getfield 64) 3 [7, 26, 0, 776],
  none,
  none,
  mz_qc (.bipush 40) 2 (40),
  none,
  mz_qa (.iload_n 3) 1 [3],
  mz_q .imul 1,
  mz_qa (.iload 4) 2 [4],
  none,
  mz_q .iadd 1,
  mz_qa (.iload 6) 2 [6],
  none,
  mz_q .iadd 1,
  mz_qa (.aload_n 0) 1 [0],
  mz_qa (.getfield 67) 3 [7, 27, 0, 777],
  none,
  none,
  mz_qa (.iload 6) 2 [6],
  none,
  mz_q .laload 1,
  mz_q .lastore 1,
  mz_qk (.iinc 6 1) 3 (1) [6] [] (none) (none),
  none,
  none,
  mz_qk (.goto (-32)) 3 (0) [150] [] (some [0, 3, 4, 5, 6]) (none),
  none,
  none,
  mz_qa (.iload 5) 2 [5],
  none,
  mz_qa .ireturn 1 [0]]
def tb_Mo_whyPairs : mz_T := [mz_qa (.aload_n 0) 1 [0],
  mz_qa (.iload_n 1) 1 [1],
  mz_qa (.iload_n 2) 1 [2],
  mz_qa (.iload_n 3) 1 [3],
  mz_qc (.iconst 2) 1 (2),
  mz_qa (.iload 4) 2 [4],
  none,
  mz_q .imul 1,
  mz_qa (.invokevirtual 283) 3 [7, 161, 5, 1, 0, 5, 0, 1099],
  none,
  none,
  mz_qa (.istore 5) 2 [5],
  none,
  mz_qc (.iconst 0) 1 (0),
  mz_qk (.istore 6) 2 (0) [6] [] (none) (some [0, 1, 3, 4, 5, 6]),
  none,
  mz_qa (.iload 6) 2 [6],
  none,
  mz_qa (.iload 4) 2 [4],
  none,
  mz_qa (.if_icmp .ge 73) 3 [93],
  none,
  none,
  mz_qa (.iload 5) 2 [5],
  none,
  mz_qa (.ifCond .ne 68) 3 [93],
  none,
  none,
  mz_qc (.bipush 40) 2 (40),
  none,
  mz_qa (.iload_n 1) 1 [1],
  mz_q .imul 1,
  mz_qa (.iload_n 3) 1 [3],
  mz_q .iadd 1,
  mz_qc (.iconst 2) 1 (2),
  mz_qa (.iload 6) 2 [6],
  none,
  mz_q .imul 1,
  mz_q .iadd 1,
  mz_qa (.istore 7) 2 [7],
  none,
  mz_qa (.aload_n 0) 1 [0],
  mz_qa (.getfield 64) 3 [7, 26, 0, 776],
  none,
  none,
  mz_qa (.iload 7) 2 [7],
  none,
  mz_q .laload 1,
  mz_ql (.lconst 1) 1 (1) [],
  mz_ql (.ldc2_w 290) 3 (12) [1120],
  none,
  none,
  mz_qa (.invokestatic 72) 3 [1, 101, 3, 1, 0, 6, 0, 843],
  none,
  none,
  mz_qa (.ifCond .eq 28) 3 [83],
  none,
  none,
  mz_qa (.aload_n 0) 1 [0],
  mz_qa (.getfield 64) 3 [7, 26, 0, 776],
  none,
  none,
  mz_qa (.iload 7) 2 [7],
  none,
  mz_qc (.iconst 1) 1 (1),
  mz_q .iadd 1,
  mz_q .laload 1,
  mz_ql (.ldc2_w 292) 3 (-9) [1121],
  none,
  none,
  mz_ql (.ldc2_w 136) 3 (9) [850],
  none,
  none,
  mz_qa (.invokestatic 72) 3 [1, 101, 3, 1, 0, 6, 0, 843],
  none,
  none,
  mz_qa (.ifCond .eq 7) 3 [83],
  none,
  none,
  mz_qc (.iconst 0) 1 (0),
  mz_qa (.goto 5) 3 [85],
  none,
  none,
  mz_qk (.ldc 164) 2 (-1000002) [925] [] (none) (none),
  none,
  mz_qa (.istore 5) 2 [5],
  none,
  mz_qk (.iinc 6 1) 3 (1) [6] [] (none) (none),
  none,
  none,
  mz_qk (.goto (-74)) 3 (0) [16] [] (some [0, 1, 3, 4, 5, 6]) (none),
  none,
  none,
  mz_qa (.iload 5) 2 [5],
  none,
  mz_qa .ireturn 1 [0]]
def tb_Mo_levelOf : mz_T := [mz_qc (.iconst 1) 1 (1),
  mz_qk (.istore_n 3) 1 (0) [3] [] (none) (some [0, 1, 2, 3]),
  mz_qa (.iload_n 3) 1 [3],
  mz_qc (.sipush 600) 3 (600),
  none,
  none,
  mz_qa (.if_icmp .gt 142) 3 [148],
  none,
  none,
  mz_ql (.lconst 0) 1 (0) [],
  mz_qa (.lstore 4) 2 [4],
  none,
  mz_ql (.lconst 0) 1 (0) [],
  mz_qa (.lstore 6) 2 [6],
  none,
  mz_qc (.iconst 1) 1 (1),
  mz_qa (.istore 8) 2 [8],
  none,
  mz_qc (.iconst 0) 1 (0),
  mz_qk (.istore 9) 2 (0) [9] [] (none) (some [0, 1, 2, 3, 4, 6, 8, 9]),
  none,
  mz_qa (.iload 9) 2 [9],
  none,
  mz_qa (.iload_n 2) 1 [2],
  mz_qa (.if_icmp .ge 89) 3 [113],
  none,
  none,
  mz_qa (.aload_n 0) 1 [0],
  mz_qa (.getfield 64) 3 [7, 26, 0, 776],
  none,
  none,
  mz_qa (.iload_n 1) 1 [1],
  mz_qc (.iconst 2) 1 (2),
  mz_qa (.iload 9) 2 [9],
  none,
  mz_q .imul 1,
  mz_q .iadd 1,
  mz_q .laload 1,
  mz_qa (.lstore 10) 2 [10],
  none,
  mz_qa (.aload_n 0) 1 [0],
  mz_qa (.getfield 64) 3 [7, 26, 0, 776],
  none,
  none,
  mz_qa (.iload_n 1) 1 [1],
  mz_qc (.iconst 2) 1 (2),
  mz_qa (.iload 9) 2 [9],
  none,
  mz_q .imul 1,
  mz_q .iadd 1,
  mz_qc (.iconst 1) 1 (1),
  mz_q .iadd 1,
  mz_q .laload 1,
  mz_qa (.lstore 12) 2 [12],
  none,
  mz_qa (.iload 8) 2 [8],
  none,
  mz_qa (.ifCond .eq 24) 3 [81],
  none,
  none,
  mz_qa (.lload 12) 2 [12],
  none,
  mz_ql (.lconst 0) 1 (0) [],
  mz_q .lcmp 1,
  mz_qa (.ifCond .eq 13) 3 [77],
  none,
  none,
  mz_qa (.iload_n 3) 1 [3],
  mz_q .i2l 1,
  mz_qa (.lload 10) 2 [10],
  none,
  mz_q .lrem 1,
  mz_ql (.lconst 0) 1 (0) [],
  mz_q .lcmp 1,
  mz_qa (.ifCond .ne 7) 3 [81],
  none,
  none,
  mz_qc (.iconst 1) 1 (1),
  mz_qa (.goto 4) 3 [82],
  none,
  none,
  mz_qc (.iconst 0) 1 (0),
  mz_qa (.istore 8) 2 [8],
  none,
  mz_qa (.lload 4) 2 [4],
  none,
  mz_qa (.lload 10) 2 [10],
  none,
  mz_qa (.lload 12) 2 [12],
  none,
  mz_q .lmul 1,
  mz_q .ladd 1,
  mz_qa (.lstore 4) 2 [4],
  none,
  mz_qa (.lload 6) 2 [6],
  none,
  mz_qa (.iload_n 3) 1 [3],
  mz_q .i2l 1,
  mz_qa (.lload 10) 2 [10],
  none,
  mz_q .ldiv 1,
  mz_qa (.lload 12) 2 [12],
  none,
  mz_q .lmul 1,
  mz_q .ladd 1,
  mz_qa (.lstore 6) 2 [6],
  none,
  mz_qk (.iinc 9 1) 3 (1) [9] [] (none) (none),
  none,
  none,
  mz_qk (.goto (-89)) 3 (0) [21] [] (some [0, 1, 2, 3, 4, 6, 8, 9]) (none),
  none,
  none,
  mz_qa (.iload 8) 2 [8],
  none,
  mz_qa (.ifCond .eq 27) 3 [142],
  none,
  none,
  mz_qa (.lload 4) 2 [4],
  none,
  mz_ql (.ldc2_w 294) 3 (24) [1126],
  none,
  none,
  mz_q .lrem 1,
  mz_ql (.lconst 0) 1 (0) [],
  mz_q .lcmp 1,
  mz_qa (.ifCond .ne 16) 3 [142],
  none,
  none,
  mz_qa (.lload 6) 2 [6],
  none,
  mz_ql (.ldc2_w 294) 3 (24) [1126],
  none,
  none,
  mz_q .lrem 1,
  mz_ql (.lconst 0) 1 (0) [],
  mz_q .lcmp 1,
  mz_qa (.ifCond .ne 5) 3 [142],
  none,
  none,
  mz_qa (.iload_n 3) 1 [3],
  mz_qa .ireturn 1 [0],
  mz_qk (.iinc 3 1) 3 (1) [3] [] (none) (none),
  none,
  none,
  mz_qk (.goto (-143)) 3 (0) [2] [] (some [0, 1, 2, 3]) (none),
  none,
  none,
  mz_qk (.ldc 29) 2 (-1000004) [749] [] (none) (none),
  none,
  mz_qa .ireturn 1 [0]]
def tb_Mo_indexOf : mz_T := [mz_qa (.iload_n 0) 1 [0],
  mz_qa (.istore_n 1) 1 [1],
  mz_qa (.iload_n 0) 1 [0],
  mz_qa (.istore_n 2) 1 [2],
  mz_qc (.iconst 2) 1 (2),
  mz_qk (.istore_n 3) 1 (0) [3] [] (none) (some [1, 2, 3]),
  mz_qa (.iload_n 3) 1 [3],
  mz_qa (.iload_n 2) 1 [2],
  mz_qa (.if_icmp .gt 36) 3 [44],
  none,
  none,
  mz_qa (.iload_n 2) 1 [2],
  mz_qa (.iload_n 3) 1 [3],
  mz_q .irem 1,
  mz_qa (.ifCond .ne 24) 3 [38],
  none,
  none,
  mz_qa (.iload_n 1) 1 [1],
  mz_qa (.iload_n 3) 1 [3],
  mz_q .idiv 1,
  mz_qa (.iload_n 3) 1 [3],
  mz_qc (.iconst 1) 1 (1),
  mz_q .iadd 1,
  mz_q .imul 1,
  mz_qk (.istore_n 1) 1 (0) [1] [] (none) (some [1, 2, 3]),
  mz_qa (.iload_n 2) 1 [2],
  mz_qa (.iload_n 3) 1 [3],
  mz_q .irem 1,
  mz_qa (.ifCond .ne 10) 3 [38],
  none,
  none,
  mz_qa (.iload_n 2) 1 [2],
  mz_qa (.iload_n 3) 1 [3],
  mz_q .idiv 1,
  mz_qa (.istore_n 2) 1 [2],
  mz_qk (.goto (-10)) 3 (0) [25] [] (some [1, 2, 3]) (none),
  none,
  none,
  mz_qk (.iinc 3 1) 3 (1) [3] [] (none) (none),
  none,
  none,
  mz_qk (.goto (-35)) 3 (0) [6] [] (some [1, 2, 3]) (none),
  none,
  none,
  mz_qa (.iload_n 1) 1 [1],
  mz_qa .ireturn 1 [0]]
def tb_Mo_told : mz_T := [mz_qa (.iload_n 1) 1 [1],
  mz_qa (.invokestatic 277) 3 [1, 157, 1, 1, 0, 1, 0, 1087],
  none,
  none,
  mz_qa (.ifCond .eq 41) 3 [45],
  none,
  none,
  mz_qa (.iload_n 2) 1 [2],
  mz_q .i2l 1,
  mz_ql (.lconst 0) 1 (0) [],
  mz_ql (.ldc2_w 70) 3 (3) [842],
  none,
  none,
  mz_qa (.invokestatic 72) 3 [1, 101, 3, 1, 0, 6, 0, 843],
  none,
  none,
  mz_qa (.ifCond .eq 29) 3 [45],
  none,
  none,
  mz_qa (.iload 4) 2 [4],
  none,
  mz_q .i2l 1,
  mz_ql (.lconst 1) 1 (1) [],
  mz_ql (.ldc2_w 273) 3 (6) [1073],
  none,
  none,
  mz_qa (.invokestatic 72) 3 [1, 101, 3, 1, 0, 6, 0, 843],
  none,
  none,
  mz_qa (.ifCond .eq 16) 3 [45],
  none,
  none,
  mz_qa (.iload 5) 2 [5],
  none,
  mz_q .i2l 1,
  mz_ql (.lconst 0) 1 (0) [],
  mz_ql (.ldc2_w 119) 3 (2) [860],
  none,
  none,
  mz_qa (.invokestatic 72) 3 [1, 101, 3, 1, 0, 6, 0, 843],
  none,
  none,
  mz_qa (.ifCond .ne 6) 3 [48],
  none,
  none,
  mz_qk (.ldc 146) 2 (-1000001) [851] [] (none) (none),
  none,
  mz_qa .ireturn 1 [0],
  mz_qa (.aload_n 0) 1 [0],
  mz_qa (.iload_n 1) 1 [1],
  mz_qa (.iload_n 2) 1 [2],
  mz_qa (.iload_n 3) 1 [3],
  mz_qa (.iload 4) 2 [4],
  none,
  mz_qa (.invokevirtual 296) 3 [7, 164, 5, 1, 0, 8, 0, 1116],
  none,
  none,
  mz_qa (.istore 6) 2 [6],
  none,
  mz_qa (.iload 6) 2 [6],
  none,
  mz_qa (.ifCond .ge 6) 3 [67],
  none,
  none,
  mz_qa (.iload 6) 2 [6],
  none,
  mz_qa .ireturn 1 [0],
  mz_qc (.bipush 40) 2 (40),
  none,
  mz_qa (.iload_n 1) 1 [1],
  mz_q .imul 1,
  mz_qa (.iload_n 3) 1 [3],
  mz_q .iadd 1,
  mz_qa (.istore 7) 2 [7],
  none,
  mz_qc (.iconst 0) 1 (0),
  mz_qa (.istore 8) 2 [8],
  none,
  mz_qc (.iconst 0) 1 (0),
  mz_qk (.istore 9) 2 (0) [9] [] (none) (some [0, 4, 5, 7, 8, 9]),
  none,
  mz_qa (.iload 9) 2 [9],
  none,
  mz_qa (.iload 4) 2 [4],
  none,
  mz_qa (.if_icmp .ge 29) 3 [114],
  none,
  none,
  mz_qa (.iload 8) 2 [8],
  none,
  mz_qa (.aload_n 0) 1 [0],
  mz_qa (.getfield 64) 3 [7, 26, 0, 776],
  none,
  none,
  mz_qa (.iload 7) 2 [7],
  none,
  mz_qc (.iconst 2) 1 (2),
  mz_qa (.iload 9) 2 [9],
  none,
  mz_q .imul 1,
  mz_q .iadd 1,
  mz_qc (.iconst 1) 1 (1),
  mz_q .iadd 1,
  mz_q .laload 1,
  mz_q .l2i 1,
  mz_q .iadd 1,
  mz_qa (.istore 8) 2 [8],
  none,
  mz_qk (.iinc 9 1) 3 (1) [9] [] (none) (none),
  none,
  none,
  mz_qk (.goto (-30)) 3 (0) [81] [] (some [0, 4, 5, 7, 8, 9]) (none),
  none,
  none,
  mz_qa (.iload 5) 2 [5],
  none,
  mz_qa (.ifCond .ne 6) 3 [122],
  none,
  none,
  mz_qa (.iload 8) 2 [8],
  none,
  mz_qa .ireturn 1 [0],
  mz_qa (.aload_n 0) 1 [0],
  mz_qa (.iload 7) 2 [7],
  none,
  mz_qa (.iload 4) 2 [4],
  none,
  mz_qa (.invokevirtual 299) 3 [7, 165, 3, 1, 0, 14, 0, 1122],
  none,
  none,
  mz_qa (.istore 9) 2 [9],
  none,
  mz_qa (.iload 5) 2 [5],
  none,
  mz_qc (.iconst 1) 1 (1),
  mz_qa (.if_icmp .eq 10) 3 [145],
  none,
  none,
  mz_qa (.iload 9) 2 [9],
  none,
  mz_qk (.ldc 29) 2 (-1000004) [749] [] (none) (none),
  none,
  mz_qa (.if_icmp .ne 8) 3 [150],
  none,
  none,
  mz_qa (.iload 9) 2 [9],
  none,
  mz_qa (.goto 26) 3 [173],
  none,
  none,
  mz_qa (.iload 8) 2 [8],
  none,
  mz_qa (.ifCond .ge 8) 3 [160],
  none,
  none,
  mz_qk (.ldc 29) 2 (-1000004) [749] [] (none) (none),
  none,
  mz_qa (.goto 16) 3 [173],
  none,
  none,
  mz_qa (.iload 8) 2 [8],
  none,
  mz_qa (.iload 9) 2 [9],
  none,
  mz_qa (.invokestatic 302) 3 [1, 166, 1, 1, 0, 4, 0, 1127],
  none,
  none,
  mz_q .imul 1,
  mz_qc (.bipush 24) 2 (24),
  none,
  mz_q .idiv 1,
  mz_qc (.iconst 1) 1 (1),
  mz_q .iadd 1,
  mz_qa .ireturn 1 [0]]
def tb_Mo_quotient : mz_T := [mz_qa (.iload_n 1) 1 [1],
  mz_qa (.invokestatic 138) 3 [1, 102, 1, 1, 0, 1, 0, 839],
  none,
  none,
  mz_qa (.ifCond .eq 35) 3 [39],
  none,
  none,
  mz_qa (.iload_n 2) 1 [2],
  mz_qa (.invokestatic 277) 3 [1, 157, 1, 1, 0, 1, 0, 1087],
  none,
  none,
  mz_qa (.ifCond .eq 28) 3 [39],
  none,
  none,
  mz_qa (.iload_n 3) 1 [3],
  mz_q .i2l 1,
  mz_ql (.lconst 0) 1 (0) [],
  mz_ql (.ldc2_w 70) 3 (3) [842],
  none,
  none,
  mz_qa (.invokestatic 72) 3 [1, 101, 3, 1, 0, 6, 0, 843],
  none,
  none,
  mz_qa (.ifCond .eq 16) 3 [39],
  none,
  none,
  mz_qa (.iload 5) 2 [5],
  none,
  mz_q .i2l 1,
  mz_ql (.lconst 1) 1 (1) [],
  mz_ql (.ldc2_w 273) 3 (6) [1073],
  none,
  none,
  mz_qa (.invokestatic 72) 3 [1, 101, 3, 1, 0, 6, 0, 843],
  none,
  none,
  mz_qa (.ifCond .ne 6) 3 [42],
  none,
  none,
  mz_qk (.ldc 146) 2 (-1000001) [851] [] (none) (none),
  none,
  mz_qa .ireturn 1 [0],
  mz_qa (.aload_n 0) 1 [0],
  mz_qa (.iload_n 2) 1 [2],
  mz_qa (.iload_n 3) 1 [3],
  mz_qa (.iload 4) 2 [4],
  none,
  mz_qa (.iload 5) 2 [5],
  none,
  mz_qa (.invokevirtual 296) 3 [7, 164, 5, 1, 0, 8, 0, 1116],
  none,
  none,
  mz_qa (.istore 6) 2 [6],
  none,
  mz_qa (.iload 6) 2 [6],
  none,
  mz_qa (.ifCond .ge 6) 3 [62],
  none,
  none,
  mz_qa (.iload 6) 2 [6],
  none,
  mz_qa .ireturn 1 [0],
  mz_qa (.aload_n 0) 1 [0],
  mz_qc (.iconst 0) 1 (0),
  mz_qc (.iconst 0) 1 (0),
  mz_qa (.aload_n 0) 1 [0],
  mz_qa (.getfield 7) 3 [7, 0, 0, 750],
  none,
  none,
  mz_qc (.iconst 0) 1 (0),
  mz_q .iaload 1,
  mz_qa (.invokevirtual 124) 3 [7, 114, 4, 0, 0, 6, 0, 852],
  none,
  none,
  mz_qa (.aload_n 0) 1 [0],
  mz_qa (.invokevirtual 128) 3 [7, 107, 1, 0, 0, 2, 0, 934],
  none,
  none,
  mz_qc (.iconst 0) 1 (0),
  mz_qk (.istore 7) 2 (0) [7] [] (none) (some [0, 1, 2, 4, 5, 7]),
  none,
  mz_qa (.iload 7) 2 [7],
  none,
  mz_qa (.iload 5) 2 [5],
  none,
  mz_qa (.if_icmp .ge 113) 3 [198],
  none,
  none,
  mz_qc (.bipush 40) 2 (40),
  none,
  mz_qa (.iload_n 2) 1 [2],
  mz_q .imul 1,
  mz_qa (.iload 4) 2 [4],
  none,
  mz_q .iadd 1,
  mz_qc (.iconst 2) 1 (2),
  mz_qa (.iload 7) 2 [7],
  none,
  mz_q .imul 1,
  mz_q .iadd 1,
  mz_qa (.istore 8) 2 [8],
  none,
  mz_qa (.aload_n 0) 1 [0],
  mz_qa (.getfield 64) 3 [7, 26, 0, 776],
  none,
  none,
  mz_qa (.iload 8) 2 [8],
  none,
  mz_qc (.iconst 1) 1 (1),
  mz_q .iadd 1,
  mz_q .laload 1,
  mz_q .l2i 1,
  mz_qa (.istore 9) 2 [9],
  none,
  mz_qa (.aload_n 0) 1 [0],
  mz_qc (.iconst 3) 1 (3),
  mz_qa (.aload_n 0) 1 [0],
  mz_qa (.getfield 64) 3 [7, 26, 0, 776],
  none,
  none,
  mz_qa (.iload 8) 2 [8],
  none,
  mz_q .laload 1,
  mz_q .l2i 1,
  mz_qa (.aload_n 0) 1 [0],
  mz_qa (.getfield 7) 3 [7, 0, 0, 750],
  none,
  none,
  mz_qc (.iconst 0) 1 (0),
  mz_q .iaload 1,
  mz_qa (.invokevirtual 124) 3 [7, 114, 4, 0, 0, 6, 0, 852],
  none,
  none,
  mz_qa (.aload_n 0) 1 [0],
  mz_qa (.invokevirtual 121) 3 [7, 108, 1, 0, 0, 2, 0, 930],
  none,
  none,
  mz_qc (.iconst 0) 1 (0),
  mz_qk (.istore 10) 2 (0) [10] [] (none) (some [0, 1, 2, 4, 5, 7, 9, 10]),
  none,
  mz_qa (.iload 10) 2 [10],
  none,
  mz_qa (.iload 9) 2 [9],
  none,
  mz_qa (.ifCond .ge 9) 3 [153],
  none,
  none,
  mz_qa (.iload 9) 2 [9],
  none,
  mz_q .ineg 1,
  mz_qa (.goto 5) 3 [155],
  none,
  none,
  mz_qa (.iload 9) 2 [9],
  none,
  mz_qa (.if_icmp .ge 37) 3 [192],
  none,
  none,
  mz_qa (.aload_n 0) 1 [0],
  mz_qa (.iload 9) 2 [9],
  none,
  mz_qa (.ifCond .ge 7) 3 [168],
  none,
  none,
  mz_qc (.iconst 3) 1 (3),
  mz_qa (.goto 4) 3 [169],
  none,
  none,
  mz_qc (.iconst 2) 1 (2),
  mz_qa (.invokevirtual 131) 3 [7, 113, 2, 1, 0, 3, 0, 890],
  none,
  none,
  mz_qa (.istore 6) 2 [6],
  none,
  mz_qa (.iload 6) 2 [6],
  none,
  mz_qa (.ifCond .ge 6) 3 [182],
  none,
  none,
  mz_qa (.iload 6) 2 [6],
  none,
  mz_qa .ireturn 1 [0],
  mz_qa (.aload_n 0) 1 [0],
  mz_qa (.invokevirtual 128) 3 [7, 107, 1, 0, 0, 2, 0, 934],
  none,
  none,
  mz_qk (.iinc 10 1) 3 (1) [10] [] (none) (none),
  none,
  none,
  mz_qk (.goto (-49)) 3 (0) [140] [] (some [0, 1, 2, 4, 5, 7, 9, 10]) (none),
  none,
  none,
  mz_qk (.iinc 7 1) 3 (1) [7] [] (none) (none),
  none,
  none,
  mz_qk (.goto (-114)) 3 (0) [81] [] (some [0, 1, 2, 4, 5, 7]) (none),
  none,
  none,
  mz_qa (.aload_n 0) 1 [0],
  mz_qa (.aload_n 0) 1 [0],
  mz_qa (.getfield 80) 3 [7, 2, 0, 752],
  none,
  none,
  mz_qa (.putfield 90) 3 [7, 6, 0, 0, 756],
  none,
  none,
  mz_qc (.iconst 0) 1 (0),
  mz_qk (.istore 7) 2 (0) [7] [] (none) (some [0, 1, 7]),
  none,
  mz_qa (.iload 7) 2 [7],
  none,
  mz_qa (.aload_n 0) 1 [0],
  mz_qa (.getfield 80) 3 [7, 2, 0, 752],
  none,
  none,
  mz_qa (.if_icmp .ge 23) 3 [238],
  none,
  none,
  mz_qa (.aload_n 0) 1 [0],
  mz_qa (.getfield 20) 3 [7, 5, 0, 755],
  none,
  none,
  mz_qa (.iload 7) 2 [7],
  none,
  mz_qa (.aload_n 0) 1 [0],
  mz_qa (.getfield 13) 3 [7, 1, 0, 751],
  none,
  none,
  mz_qa (.iload 7) 2 [7],
  none,
  mz_q .laload 1,
  mz_q .lastore 1,
  mz_qk (.iinc 7 1) 3 (1) [7] [] (none) (none),
  none,
  none,
  mz_qk (.goto (-26)) 3 (0) [209] [] (some [0, 1, 7]) (none),
  none,
  none,
  mz_qa (.aload_n 0) 1 [0],
  mz_qa (.iload_n 1) 1 [1],
  mz_qa (.invokevirtual 147) 3 [7, 109, 2, 1, 0, 3, 0, 861],
  none,
  none,
  mz_qa .ireturn 1 [0]]
def tb_Mo_wrought : mz_T := [mz_qa (.iload_n 1) 1 [1],
  mz_qa (.invokestatic 138) 3 [1, 102, 1, 1, 0, 1, 0, 839],
  none,
  none,
  mz_qa (.ifCond .eq 43) 3 [47],
  none,
  none,
  mz_qa (.iload_n 2) 1 [2],
  mz_qa (.invokestatic 138) 3 [1, 102, 1, 1, 0, 1, 0, 839],
  none,
  none,
  mz_qa (.ifCond .eq 36) 3 [47],
  none,
  none,
  mz_qa (.iload_n 3) 1 [3],
  mz_qa (.invokestatic 277) 3 [1, 157, 1, 1, 0, 1, 0, 1087],
  none,
  none,
  mz_qa (.ifCond .eq 29) 3 [47],
  none,
  none,
  mz_qa (.iload 4) 2 [4],
  none,
  mz_q .i2l 1,
  mz_ql (.lconst 0) 1 (0) [],
  mz_ql (.ldc2_w 70) 3 (3) [842],
  none,
  none,
  mz_qa (.invokestatic 72) 3 [1, 101, 3, 1, 0, 6, 0, 843],
  none,
  none,
  mz_qa (.ifCond .eq 16) 3 [47],
  none,
  none,
  mz_qa (.iload 6) 2 [6],
  none,
  mz_q .i2l 1,
  mz_ql (.lconst 1) 1 (1) [],
  mz_ql (.ldc2_w 290) 3 (12) [1120],
  none,
  none,
  mz_qa (.invokestatic 72) 3 [1, 101, 3, 1, 0, 6, 0, 843],
  none,
  none,
  mz_qa (.ifCond .ne 6) 3 [50],
  none,
  none,
  mz_qk (.ldc 146) 2 (-1000001) [851] [] (none) (none),
  none,
  mz_qa .ireturn 1 [0],
  mz_qa (.aload_n 0) 1 [0],
  mz_qa (.iload_n 3) 1 [3],
  mz_qa (.iload 4) 2 [4],
  none,
  mz_qa (.iload 5) 2 [5],
  none,
  mz_qa (.iload 6) 2 [6],
  none,
  mz_qa (.invokevirtual 283) 3 [7, 161, 5, 1, 0, 5, 0, 1099],
  none,
  none,
  mz_qa (.istore 7) 2 [7],
  none,
  mz_qa (.iload 7) 2 [7],
  none,
  mz_qa (.ifCond .ge 6) 3 [71],
  none,
  none,
  mz_qa (.iload 7) 2 [7],
  none,
  mz_qa .ireturn 1 [0],
  mz_qa (.aload_n 0) 1 [0],
  mz_qa (.iload_n 1) 1 [1],
  mz_qa (.invokevirtual 76) 3 [7, 103, 2, 1, 0, 2, 0, 873],
  none,
  none,
  mz_qa (.ifCond .eq 11) 3 [87],
  none,
  none,
  mz_qa (.aload_n 0) 1 [0],
  mz_qa (.iload_n 2) 1 [2],
  mz_qa (.invokevirtual 76) 3 [7, 103, 2, 1, 0, 2, 0, 873],
  none,
  none,
  mz_qa (.ifCond .ne 6) 3 [90],
  none,
  none,
  mz_qk (.ldc 164) 2 (-1000002) [925] [] (none) (none),
  none,
  mz_qa .ireturn 1 [0],
  mz_qc (.iconst 0) 1 (0),
  mz_qa (.istore 8) 2 [8],
  none,
  mz_qc (.iconst 0) 1 (0),
  mz_qk (.istore 9) 2 (0) [9] [] (none) (some [0, 1, 2, 3, 5, 6, 8, 9]),
  none,
  mz_qa (.iload 9) 2 [9],
  none,
  mz_qc (.iconst 4) 1 (4),
  mz_qa (.if_icmp .ge 116) 3 [215],
  none,
  none,
  mz_qa (.aload_n 0) 1 [0],
  mz_qa (.iload_n 1) 1 [1],
  mz_qa (.invokevirtual 151) 3 [7, 105, 2, 0, 0, 3, 0, 878],
  none,
  none,
  mz_qa (.aload_n 0) 1 [0],
  mz_qa (.iload_n 2) 1 [2],
  mz_qa (.invokevirtual 155) 3 [7, 106, 2, 0, 0, 3, 0, 886],
  none,
  none,
  mz_qa (.aload_n 0) 1 [0],
  mz_qa (.iload 9) 2 [9],
  none,
  mz_qa (.invokevirtual 131) 3 [7, 113, 2, 1, 0, 3, 0, 890],
  none,
  none,
  mz_qa (.ifCond .ne 16) 3 [134],
  none,
  none,
  mz_qa (.aload_n 0) 1 [0],
  mz_qa (.getfield 90) 3 [7, 6, 0, 756],
  none,
  none,
  mz_qa (.iload 6) 2 [6],
  none,
  mz_qa (.if_icmp .lt 7) 3 [134],
  none,
  none,
  mz_qc (.iconst 1) 1 (1),
  mz_qa (.goto 4) 3 [135],
  none,
  none,
  mz_qc (.iconst 0) 1 (0),
  mz_qa (.istore 10) 2 [10],
  none,
  mz_qc (.iconst 0) 1 (0),
  mz_qk (.istore 11) 2 (0) [11] [] (none) (some [0, 1, 2, 3, 5, 6, 8, 9, 10, 11]),
  none,
  mz_qa (.iload 11) 2 [11],
  none,
  mz_qa (.iload 6) 2 [6],
  none,
  mz_qa (.if_icmp .ge 47) 3 [191],
  none,
  none,
  mz_qa (.iload 10) 2 [10],
  none,
  mz_qa (.ifCond .eq 42) 3 [191],
  none,
  none,
  mz_qa (.aload_n 0) 1 [0],
  mz_qa (.getfield 20) 3 [7, 5, 0, 755],
  none,
  none,
  mz_qa (.iload 11) 2 [11],
  none,
  mz_q .laload 1,
  mz_qa (.aload_n 0) 1 [0],
  mz_qa (.getfield 64) 3 [7, 26, 0, 776],
  none,
  none,
  mz_qc (.bipush 40) 2 (40),
  none,
  mz_qa (.iload_n 3) 1 [3],
  mz_q .imul 1,
  mz_qa (.iload 5) 2 [5],
  none,
  mz_q .iadd 1,
  mz_qa (.iload 11) 2 [11],
  none,
  mz_q .iadd 1,
  mz_q .laload 1,
  mz_q .lcmp 1,
  mz_qa (.ifCond .ne 7) 3 [182],
  none,
  none,
  mz_qc (.iconst 1) 1 (1),
  mz_qa (.goto 4) 3 [183],
  none,
  none,
  mz_qc (.iconst 0) 1 (0),
  mz_qa (.istore 10) 2 [10],
  none,
  mz_qk (.iinc 11 1) 3 (1) [11] [] (none) (none),
  none,
  none,
  mz_qk (.goto (-48)) 3 (0) [140] [] (some [0, 1, 2, 3, 5, 6, 8, 9, 10, 11]) (none),
  none,
  none,
  mz_qa (.iload 8) 2 [8],
  none,
  mz_qa (.iload 10) 2 [10],
  none,
  mz_qa (.ifCond .eq 10) 3 [205],
  none,
  none,
  mz_qc (.iconst 1) 1 (1),
  mz_qa (.iload 9) 2 [9],
  none,
  mz_q .ishl 1,
  mz_qa (.goto 4) 3 [206],
  none,
  none,
  mz_qc (.iconst 0) 1 (0),
  mz_q .ior 1,
  mz_qa (.istore 8) 2 [8],
  none,
  mz_qk (.iinc 9 1) 3 (1) [9] [] (none) (none),
  none,
  none,
  mz_qk (.goto (-116)) 3 (0) [96] [] (some [0, 1, 2, 3, 5, 6, 8, 9]) (none),
  none,
  none,
  mz_qa (.iload 8) 2 [8],
  none,
  mz_qa .ireturn 1 [0]]
def tb_Mo_film : mz_T := [mz_qa (.iload_n 1) 1 [1],
  mz_qa (.invokestatic 138) 3 [1, 102, 1, 1, 0, 1, 0, 839],
  none,
  none,
  mz_qa (.ifCond .eq 22) 3 [26],
  none,
  none,
  mz_qa (.iload_n 2) 1 [2],
  mz_qa (.invokestatic 277) 3 [1, 157, 1, 1, 0, 1, 0, 1087],
  none,
  none,
  mz_qa (.ifCond .eq 15) 3 [26],
  none,
  none,
  mz_qa (.iload_n 3) 1 [3],
  mz_q .i2l 1,
  mz_ql (.lconst 0) 1 (0) [],
  mz_ql (.ldc2_w 70) 3 (3) [842],
  none,
  none,
  mz_qa (.invokestatic 72) 3 [1, 101, 3, 1, 0, 6, 0, 843],
  none,
  none,
  mz_qa (.ifCond .ne 6) 3 [29],
  none,
  none,
  mz_qk (.ldc 146) 2 (-1000001) [851] [] (none) (none),
  none,
  mz_qa .ireturn 1 [0],
  mz_qa (.aload_n 0) 1 [0],
  mz_qa (.iload_n 1) 1 [1],
  mz_qa (.invokevirtual 76) 3 [7, 103, 2, 1, 0, 2, 0, 873],
  none,
  none,
  mz_qa (.istore 5) 2 [5],
  none,
  mz_qa (.iload 5) 2 [5],
  none,
  mz_qa (.ifCond .ne 6) 3 [44],
  none,
  none,
  mz_qk (.ldc 164) 2 (-1000002) [925] [] (none) (none),
  none,
  mz_qa .ireturn 1 [0],
  mz_qa (.aload_n 0) 1 [0],
  mz_qa (.iload_n 2) 1 [2],
  mz_qa (.iload_n 3) 1 [3],
  mz_qa (.iload 4) 2 [4],
  none,
  mz_qa (.iload 5) 2 [5],
  none,
  mz_qa (.invokevirtual 283) 3 [7, 161, 5, 1, 0, 5, 0, 1099],
  none,
  none,
  mz_qa (.istore 6) 2 [6],
  none,
  mz_qa (.iload 6) 2 [6],
  none,
  mz_qa (.ifCond .ge 6) 3 [64],
  none,
  none,
  mz_qa (.iload 6) 2 [6],
  none,
  mz_qa .ireturn 1 [0],
  mz_qc (.iconst 0) 1 (0),
  mz_qk (.istore 7) 2 (0) [7] [] (none) (some [0, 1, 2, 3, 4, 5, 7]),
  none,
  mz_qa (.iload 7) 2 [7],
  none,
  mz_qa (.iload 5) 2 [5],
  none,
  mz_qa (.if_icmp .ge 36) 3 [107],
  none,
  none,
  mz_qa (.aload_n 0) 1 [0],
  mz_qa (.getfield 64) 3 [7, 26, 0, 776],
  none,
  none,
  mz_qc (.bipush 40) 2 (40),
  none,
  mz_qa (.iload_n 2) 1 [2],
  mz_q .imul 1,
  mz_qa (.iload 4) 2 [4],
  none,
  mz_q .iadd 1,
  mz_qa (.iload 7) 2 [7],
  none,
  mz_q .iadd 1,
  mz_qa (.aload_n 0) 1 [0],
  mz_qa (.iload_n 1) 1 [1],
  mz_qa (.iload 7) 2 [7],
  none,
  mz_qa (.invokevirtual 83) 3 [7, 104, 3, 1, 0, 3, 0, 882],
  none,
  none,
  mz_q .i2l 1,
  mz_qa (.iload_n 3) 1 [3],
  mz_qa (.invokestatic 286) 3 [1, 158, 2, 2, 0, 3, 0, 1105],
  none,
  none,
  mz_q .lastore 1,
  mz_qk (.iinc 7 1) 3 (1) [7] [] (none) (none),
  none,
  none,
  mz_qk (.goto (-37)) 3 (0) [67] [] (some [0, 1, 2, 3, 4, 5, 7]) (none),
  none,
  none,
  mz_qa (.iload 5) 2 [5],
  none,
  mz_qa .ireturn 1 [0]]
def me_Math_max : mz_Me := (⟨"java/lang/Math", "max", "(II)I"⟩, prog_10_method_65_code, 2, some .int, 2, true, [321, 101, 320, 0], tb_Math_max)
def me_Math_min : mz_Me := (⟨"java/lang/Math", "min", "(II)I"⟩, prog_10_method_69_code, 2, some .int, 2, true, [318, 101, 317, 0], tb_Math_min)
def me_Math_abs : mz_Me := (⟨"java/lang/Math", "abs", "(I)I"⟩, prog_10_method_59_code, 1, some .int, 1, true, [697, 101, 696, 0], tb_Math_abs)
def me_Math_floorMod : mz_Me := (⟨"java/lang/Math", "floorMod", "(II)I"⟩, prog_10_method_50_code, 3, some .int, 2, true, [337, 101, 336, 0], tb_Math_floorMod)
def me_Leaf_hold : mz_Me := (⟨"EtaSeries$Leaf", "hold", "(II)V"⟩, prog_2_method_2_code, 4, none, 2, false, [724, 99, 723, 56], tb_Leaf_hold)
def me_Leaf_hasItems : mz_Me := (⟨"EtaSeries$Leaf", "hasItems", "(II)Z"⟩, prog_2_method_3_code, 3, some .boolean, 2, false, [645, 99, 644, 45], tb_Leaf_hasItems)
def me_Leaf_refuse : mz_Me := (⟨"EtaSeries$Leaf", "refuse", "(III)I"⟩, prog_2_method_4_code, 4, some .int, 3, false, [639, 99, 638, 44], tb_Leaf_refuse)
def me_Leaf_refusePairs : mz_Me := (⟨"EtaSeries$Leaf", "refusePairs", "(III)I"⟩, prog_2_method_5_code, 10, some .int, 3, false, [635, 99, 634, 43], tb_Leaf_refusePairs)
def me_Leaf_at : mz_Me := (⟨"EtaSeries$Leaf", "at", "(I)J"⟩, prog_2_method_6_code, 2, some .long, 1, false, [650, 99, 649, 46], tb_Leaf_at)
def me_Leaf_put : mz_Me := (⟨"EtaSeries$Leaf", "put", "(IJ)V"⟩, prog_2_method_7_code, 4, none, 2, false, [715, 99, 714, 55], tb_Leaf_put)
def me_Leaf_begins : mz_Me := (⟨"EtaSeries$Leaf", "begins", "(IILEtaSeries$Row;)Z"⟩, prog_2_method_8_code, 5, some .boolean, 3, false, [706, 99, 705, 54], tb_Leaf_begins)
def me_Leaf_divisor : mz_Me := (⟨"EtaSeries$Leaf", "divisor", "(II)I"⟩, prog_2_method_9_code, 3, some .int, 2, false, [674, 99, 673, 51], tb_Leaf_divisor)
def me_Leaf_exponent : mz_Me := (⟨"EtaSeries$Leaf", "exponent", "(II)I"⟩, prog_2_method_10_code, 3, some .int, 2, false, [662, 99, 661, 48], tb_Leaf_exponent)
def me_Leaf_weight : mz_Me := (⟨"EtaSeries$Leaf", "weight", "(II)I"⟩, prog_2_method_11_code, 5, some .int, 2, false, [658, 99, 657, 47], tb_Leaf_weight)
def me_Leaf_level : mz_Me := (⟨"EtaSeries$Leaf", "level", "(II)I"⟩, prog_2_method_12_code, 4, some .int, 2, false, [666, 99, 665, 49], tb_Leaf_level)
def me_Leaf_isLevel : mz_Me := (⟨"EtaSeries$Leaf", "isLevel", "(III)Z"⟩, prog_2_method_13_code, 9, some .boolean, 3, false, [670, 99, 669, 50], tb_Leaf_isLevel)
def me_Leaf_bound : mz_Me := (⟨"EtaSeries$Leaf", "bound", "(II)I"⟩, prog_2_method_14_code, 5, some .int, 2, false, [679, 99, 678, 52], tb_Leaf_bound)
def me_Leaf_indexOf : mz_Me := (⟨"EtaSeries$Leaf", "indexOf", "(I)I"⟩, prog_2_method_15_code, 5, some .int, 1, true, [684, 99, 683, 0], tb_Leaf_indexOf)
def me_Mill_result : mz_Me := (⟨"EtaSeries$Mill", "result", "()LEtaSeries$Row;"⟩, prog_3_method_2_code, 1, some (.object "EtaSeries$Row"), 0, false, [542, 98, 541, 38], tb_Mill_result)
def me_Mill_reset : mz_Me := (⟨"EtaSeries$Mill", "reset", "(I)V"⟩, prog_3_method_3_code, 2, none, 1, false, [494, 98, 493, 29], tb_Mill_reset)
def me_Mill_workSum : mz_Me := (⟨"EtaSeries$Mill", "workSum", "(I)I"⟩, prog_3_method_4_code, 5, some .int, 1, false, [498, 98, 497, 30], tb_Mill_workSum)
def me_Mill_workPart : mz_Me := (⟨"EtaSeries$Mill", "workPart", "(I)I"⟩, prog_3_method_5_code, 5, some .int, 1, false, [503, 98, 502, 31], tb_Mill_workPart)
def me_Mill_workPower : mz_Me := (⟨"EtaSeries$Mill", "workPower", "(I)I"⟩, prog_3_method_6_code, 3, some .int, 1, false, [507, 98, 506, 32], tb_Mill_workPower)
def me_Mill_workAtom : mz_Me := (⟨"EtaSeries$Mill", "workAtom", "(I)I"⟩, prog_3_method_7_code, 5, some .int, 1, false, [511, 98, 510, 33], tb_Mill_workAtom)
def me_Mill_combine : mz_Me := (⟨"EtaSeries$Mill", "combine", "(LEtaSeries$Row;ILEtaSeries$Row;I)I"⟩, prog_3_method_8_code, 5, some .int, 4, false, [534, 98, 533, 37], tb_Mill_combine)
def me_Mill_finish : mz_Me := (⟨"EtaSeries$Mill", "finish", "(ILEtaSeries$Row;II)I"⟩, prog_3_method_9_code, 5, some .int, 4, false, [530, 98, 529, 36], tb_Mill_finish)
def me_Mill_actOf : mz_Me := (⟨"EtaSeries$Mill", "actOf", "(I)I"⟩, prog_3_method_10_code, 1, some .int, 1, true, [537, 98, 536, 0], tb_Mill_actOf)
def me_Mill_workQuotient : mz_Me := (⟨"EtaSeries$Mill", "workQuotient", "(LEtaSeries$Leaf;III)I"⟩, prog_3_method_11_code, 11, some .int, 4, false, [692, 98, 691, 53], tb_Mill_workQuotient)
def me_Past_remember : mz_Me := (⟨"EtaSeries$Past", "remember", "(LEtaSeries$Shelf;)V"⟩, prog_4_method_2_code, 2, none, 1, false, [334, 96, 333, 4], tb_Past_remember)
def me_Past_bringBack : mz_Me := (⟨"EtaSeries$Past", "bringBack", "(LEtaSeries$Shelf;)Z"⟩, prog_4_method_3_code, 2, some .boolean, 1, false, [568, 96, 567, 41], tb_Past_bringBack)
def me_Past_takeAll : mz_Me := (⟨"EtaSeries$Past", "takeAll", "(LEtaSeries$Past;)V"⟩, prog_4_method_4_code, 3, none, 1, false, [620, 96, 619, 42], tb_Past_takeAll)
def me_Row_begin : mz_Me := (⟨"EtaSeries$Row", "begin", "(I)V"⟩, prog_5_method_2_code, 3, none, 1, false, [315, 95, 314, 1], tb_Row_begin)
def me_Row_at : mz_Me := (⟨"EtaSeries$Row", "at", "(I)I"⟩, prog_5_method_3_code, 2, some .int, 1, false, [372, 95, 371, 10], tb_Row_at)
def me_Row_put : mz_Me := (⟨"EtaSeries$Row", "put", "(IJ)V"⟩, prog_5_method_4_code, 4, none, 2, false, [325, 95, 324, 2], tb_Row_put)
def me_Row_take : mz_Me := (⟨"EtaSeries$Row", "take", "(LEtaSeries$Row;)V"⟩, prog_5_method_5_code, 2, none, 1, false, [345, 95, 344, 6], tb_Row_take)
def me_Row_become : mz_Me := (⟨"EtaSeries$Row", "become", "(III)V"⟩, prog_5_method_6_code, 6, none, 3, false, [311, 95, 310, 0], tb_Row_become)
def me_Row_becomeJoined : mz_Me := (⟨"EtaSeries$Row", "becomeJoined", "(ILEtaSeries$Row;LEtaSeries$Row;)I"⟩, prog_5_method_7_code, 4, some .int, 3, false, [364, 95, 363, 8], tb_Row_becomeJoined)
def me_Row_sum : mz_Me := (⟨"EtaSeries$Row", "sum", "(LEtaSeries$Row;LEtaSeries$Row;I)I"⟩, prog_5_method_8_code, 7, some .int, 3, false, [368, 95, 367, 9], tb_Row_sum)
def me_Row_product : mz_Me := (⟨"EtaSeries$Row", "product", "(LEtaSeries$Row;LEtaSeries$Row;)I"⟩, prog_5_method_9_code, 7, some .int, 2, false, [382, 95, 381, 11], tb_Row_product)
def me_Row_ratio : mz_Me := (⟨"EtaSeries$Row", "ratio", "(LEtaSeries$Row;LEtaSeries$Row;)I"⟩, prog_5_method_10_code, 8, some .int, 2, false, [386, 95, 385, 12], tb_Row_ratio)
def me_Row_becomePower : mz_Me := (⟨"EtaSeries$Row", "becomePower", "(LEtaSeries$Row;ILEtaSeries$Row;)I"⟩, prog_5_method_11_code, 6, some .int, 3, false, [404, 95, 403, 13], tb_Row_becomePower)
def me_Row_becomeChanged : mz_Me := (⟨"EtaSeries$Row", "becomeChanged", "(IILEtaSeries$Row;)I"⟩, prog_5_method_12_code, 7, some .int, 3, false, [409, 95, 408, 14], tb_Row_becomeChanged)
def me_Row_pick : mz_Me := (⟨"EtaSeries$Row", "pick", "(IILEtaSeries$Row;)I"⟩, prog_5_method_13_code, 5, some .int, 3, false, [413, 95, 412, 15], tb_Row_pick)
def me_Shelf_take : mz_Me := (⟨"EtaSeries$Shelf", "take", "(LEtaSeries$Shelf;)V"⟩, prog_6_method_2_code, 3, none, 1, false, [341, 94, 340, 5], tb_Shelf_take)
def me_Shelf_isMissing : mz_Me := (⟨"EtaSeries$Shelf", "isMissing", "(I)Z"⟩, prog_6_method_3_code, 2, some .boolean, 1, false, [358, 94, 357, 7], tb_Shelf_isMissing)
def me_Shelf_present : mz_Me := (⟨"EtaSeries$Shelf", "present", "()I"⟩, prog_6_method_4_code, 3, some .int, 0, false, [560, 94, 559, 40], tb_Shelf_present)
def me_Shelf_turnDraw : mz_Me := (⟨"EtaSeries$Shelf", "turnDraw", "()V"⟩, prog_6_method_5_code, 2, none, 0, false, [550, 94, 549, 39], tb_Shelf_turnDraw)
def me_Tape_write : mz_Me := (⟨"EtaSeries$Tape", "write", "(I)Z"⟩, prog_7_method_2_code, 2, some .boolean, 1, false, [432, 97, 431, 16], tb_Tape_write)
def me_Tape_parse : mz_Me := (⟨"EtaSeries$Tape", "parse", "()I"⟩, prog_7_method_3_code, 3, some .int, 0, false, [441, 97, 440, 17], tb_Tape_parse)
def me_Tape_here : mz_Me := (⟨"EtaSeries$Tape", "here", "()I"⟩, prog_7_method_4_code, 1, some .int, 0, false, [449, 97, 448, 19], tb_Tape_here)
def me_Tape_skipBlanks : mz_Me := (⟨"EtaSeries$Tape", "skipBlanks", "()V"⟩, prog_7_method_5_code, 2, none, 0, false, [445, 97, 444, 18], tb_Tape_skipBlanks)
def me_Tape_digitIsHere : mz_Me := (⟨"EtaSeries$Tape", "digitIsHere", "()Z"⟩, prog_7_method_6_code, 1, some .boolean, 0, false, [473, 97, 472, 25], tb_Tape_digitIsHere)
def me_Tape_readAtom : mz_Me := (⟨"EtaSeries$Tape", "readAtom", "()I"⟩, prog_7_method_7_code, 2, some .int, 0, false, [453, 97, 452, 20], tb_Tape_readAtom)
def me_Tape_readOpen : mz_Me := (⟨"EtaSeries$Tape", "readOpen", "()I"⟩, prog_7_method_8_code, 1, some .int, 0, false, [457, 97, 456, 21], tb_Tape_readOpen)
def me_Tape_readFamily : mz_Me := (⟨"EtaSeries$Tape", "readFamily", "(I)I"⟩, prog_7_method_9_code, 4, some .int, 1, false, [469, 97, 468, 24], tb_Tape_readFamily)
def me_Tape_readBehindAtom : mz_Me := (⟨"EtaSeries$Tape", "readBehindAtom", "(I)I"⟩, prog_7_method_10_code, 3, some .int, 1, false, [485, 97, 484, 27], tb_Tape_readBehindAtom)
def me_Tape_readFigure : mz_Me := (⟨"EtaSeries$Tape", "readFigure", "()I"⟩, prog_7_method_11_code, 2, some .int, 0, false, [489, 97, 488, 28], tb_Tape_readFigure)
def me_Tape_readNumber : mz_Me := (⟨"EtaSeries$Tape", "readNumber", "()I"⟩, prog_7_method_12_code, 3, some .int, 0, false, [477, 97, 476, 26], tb_Tape_readNumber)
def me_Tape_pass : mz_Me := (⟨"EtaSeries$Tape", "pass", "(II)I"⟩, prog_7_method_13_code, 3, some .int, 2, false, [461, 97, 460, 22], tb_Tape_pass)
def me_Tape_note : mz_Me := (⟨"EtaSeries$Tape", "note", "(II)V"⟩, prog_7_method_14_code, 3, none, 2, false, [465, 97, 464, 23], tb_Tape_note)
def me_Tape_signAt : mz_Me := (⟨"EtaSeries$Tape", "signAt", "(I)I"⟩, prog_7_method_15_code, 2, some .int, 1, false, [515, 97, 514, 34], tb_Tape_signAt)
def me_Tape_valueAt : mz_Me := (⟨"EtaSeries$Tape", "valueAt", "(I)I"⟩, prog_7_method_16_code, 2, some .int, 1, false, [519, 97, 518, 35], tb_Tape_valueAt)
def me_Tape_kindOf : mz_Me := (⟨"EtaSeries$Tape", "kindOf", "(I)I"⟩, prog_7_method_17_code, 1, some .int, 1, true, [480, 97, 479, 0], tb_Tape_kindOf)
def me_ES_make : mz_Me := (⟨"EtaSeries", "make", "(III)I"⟩, prog_1_method_2_code, 4, some .int, 3, false, [300, 93, 298, 299], tb_ES_make)
def me_ES_join : mz_Me := (⟨"EtaSeries", "join", "(IIII)I"⟩, prog_1_method_3_code, 6, some .int, 4, false, [354, 93, 352, 353], tb_ES_join)
def me_ES_change : mz_Me := (⟨"EtaSeries", "change", "(III)I"⟩, prog_1_method_4_code, 6, some .int, 3, false, [391, 93, 389, 390], tb_ES_change)
def me_ES_out : mz_Me := (⟨"EtaSeries", "out", "(I)I"⟩, prog_1_method_5_code, 3, some .int, 1, false, [418, 93, 416, 417], tb_ES_out)
def me_ES_length : mz_Me := (⟨"EtaSeries", "length", "(I)I"⟩, prog_1_method_6_code, 3, some .int, 1, false, [423, 93, 421, 422], tb_ES_length)
def me_ES_type : mz_Me := (⟨"EtaSeries", "type", "(I)I"⟩, prog_1_method_7_code, 2, some .int, 1, false, [428, 93, 426, 427], tb_ES_type)
def me_ES_work : mz_Me := (⟨"EtaSeries", "work", "(I)I"⟩, prog_1_method_8_code, 4, some .int, 1, false, [437, 93, 435, 436], tb_ES_work)
def me_ES_drift : mz_Me := (⟨"EtaSeries", "drift", "(I)I"⟩, prog_1_method_9_code, 3, some .int, 1, false, [546, 93, 544, 545], tb_ES_drift)
def me_ES_undo : mz_Me := (⟨"EtaSeries", "undo", "()I"⟩, prog_1_method_10_code, 1, some .int, 0, false, [564, 93, 562, 563], tb_ES_undo)
def me_ES_seed : mz_Me := (⟨"EtaSeries", "seed", "(I)I"⟩, prog_1_method_11_code, 3, some .int, 1, false, [573, 93, 571, 572], tb_ES_seed)
def me_ES_term : mz_Me := (⟨"EtaSeries", "term", "(II)I"⟩, prog_1_method_12_code, 4, some .int, 2, false, [577, 93, 575, 576], tb_ES_term)
def me_ES_count : mz_Me := (⟨"EtaSeries", "count", "(I)I"⟩, prog_1_method_13_code, 2, some .int, 1, false, [582, 93, 580, 581], tb_ES_count)
def me_ES_first : mz_Me := (⟨"EtaSeries", "first", "(II)I"⟩, prog_1_method_14_code, 3, some .int, 2, false, [586, 93, 584, 585], tb_ES_first)
def me_ES_fits : mz_Me := (⟨"EtaSeries", "fits", "(IIIII)I"⟩, prog_1_method_15_code, 8, some .int, 5, false, [594, 93, 592, 593], tb_ES_fits)
def me_ES_found : mz_Me := (⟨"EtaSeries", "found", "(III)I"⟩, prog_1_method_16_code, 8, some .int, 3, false, [601, 93, 599, 600], tb_ES_found)
def me_ES_guess : mz_Me := (⟨"EtaSeries", "guess", "(IIII)I"⟩, prog_1_method_17_code, 6, some .int, 4, false, [608, 93, 606, 607], tb_ES_guess)
def me_ES_image : mz_Me := (⟨"EtaSeries", "image", "()I"⟩, prog_1_method_18_code, 1, some .int, 0, false, [615, 93, 613, 614], tb_ES_image)
def me_ES_restore : mz_Me := (⟨"EtaSeries", "restore", "()I"⟩, prog_1_method_19_code, 1, some .int, 0, false, [624, 93, 622, 623], tb_ES_restore)
def me_ES_told : mz_Me := (⟨"EtaSeries", "told", "(IIIII)I"⟩, prog_1_method_20_code, 8, some .int, 5, false, [628, 93, 626, 627], tb_ES_told)
def me_ES_quotient : mz_Me := (⟨"EtaSeries", "quotient", "(IIIII)I"⟩, prog_1_method_21_code, 9, some .int, 5, false, [688, 93, 686, 687], tb_ES_quotient)
def me_ES_wrought : mz_Me := (⟨"EtaSeries", "wrought", "(IIIIII)I"⟩, prog_1_method_22_code, 12, some .int, 6, false, [701, 93, 699, 700], tb_ES_wrought)
def me_ES_film : mz_Me := (⟨"EtaSeries", "film", "(IIII)I"⟩, prog_1_method_23_code, 8, some .int, 4, false, [711, 93, 709, 710], tb_ES_film)
def me_ES_sheet : mz_Me := (⟨"EtaSeries", "sheet", "(III)I"⟩, prog_1_method_24_code, 4, some .int, 3, false, [719, 93, 717, 718], tb_ES_sheet)
def me_ES_drop : mz_Me := (⟨"EtaSeries", "drop", "(I)I"⟩, prog_1_method_25_code, 3, some .int, 1, false, [730, 93, 728, 729], tb_ES_drop)
def me_ES_item : mz_Me := (⟨"EtaSeries", "item", "(IIIJ)I"⟩, prog_1_method_26_code, 7, some .int, 4, false, [734, 93, 732, 733], tb_ES_item)
def me_ES_copy : mz_Me := (⟨"EtaSeries", "copy", "(IIIII)I"⟩, prog_1_method_27_code, 8, some .int, 5, false, [738, 93, 736, 737], tb_ES_copy)
def me_ES_isOneOfFour : mz_Me := (⟨"EtaSeries", "isOneOfFour", "(I)Z"⟩, prog_1_method_28_code, 1, some .boolean, 1, true, [303, 93, 302, 0], tb_ES_isOneOfFour)
def me_ES_isWithin : mz_Me := (⟨"EtaSeries", "isWithin", "(II)Z"⟩, prog_1_method_29_code, 2, some .boolean, 2, true, [397, 93, 396, 0], tb_ES_isWithin)
def me_ES_isPairs : mz_Me := (⟨"EtaSeries", "isPairs", "(I)Z"⟩, prog_1_method_30_code, 1, some .boolean, 1, true, [631, 93, 630, 0], tb_ES_isPairs)
def me_ES_isStep : mz_Me := (⟨"EtaSeries", "isStep", "(II)Z"⟩, prog_1_method_31_code, 2, some .boolean, 2, true, [400, 93, 399, 0], tb_ES_isStep)
def me_ES_isKind : mz_Me := (⟨"EtaSeries", "isKind", "(II)Z"⟩, prog_1_method_32_code, 2, some .boolean, 2, true, [306, 93, 305, 0], tb_ES_isKind)
def me_ES_isChange : mz_Me := (⟨"EtaSeries", "isChange", "(II)Z"⟩, prog_1_method_33_code, 2, some .boolean, 2, true, [394, 93, 393, 0], tb_ES_isChange)
def me_ES_isWide : mz_Me := (⟨"EtaSeries", "isWide", "(J)Z"⟩, prog_1_method_34_code, 2, some .boolean, 1, true, [375, 93, 374, 0], tb_ES_isWide)
def me_ES_settle : mz_Me := (⟨"EtaSeries", "settle", "(ILEtaSeries$Row;)I"⟩, prog_1_method_35_code, 3, some .int, 2, false, [330, 93, 329, 3], tb_ES_settle)
def me_ES_firstUnlike : mz_Me := (⟨"EtaSeries", "firstUnlike", "(LEtaSeries$Row;LEtaSeries$Row;)I"⟩, prog_1_method_36_code, 4, some .int, 2, true, [589, 93, 588, 0], tb_ES_firstUnlike)
def me_ES_firstMisfit : mz_Me := (⟨"EtaSeries", "firstMisfit", "(LEtaSeries$Row;III)I"⟩, prog_1_method_37_code, 5, some .int, 4, true, [597, 93, 596, 0], tb_ES_firstMisfit)
def me_ES_leastFitting : mz_Me := (⟨"EtaSeries", "leastFitting", "(LEtaSeries$Row;II)I"⟩, prog_1_method_38_code, 4, some .int, 3, true, [604, 93, 603, 0], tb_ES_leastFitting)
def me_ES_chanceOfEven : mz_Me := (⟨"EtaSeries", "chanceOfEven", "(LEtaSeries$Row;IIZ)I"⟩, prog_1_method_39_code, 7, some .int, 4, true, [611, 93, 610, 0], tb_ES_chanceOfEven)
def me_Mo_in : mz_Me := (⟨"EtaSeriesModel", "in", "(JJJ)Z"⟩, prog_9_method_2_code, 6, some .boolean, 3, true, [845, 100, 844, 0], tb_Mo_in)
def me_Mo_isSeries : mz_Me := (⟨"EtaSeriesModel", "isSeries", "(I)Z"⟩, prog_9_method_4_code, 1, some .boolean, 1, true, [841, 100, 840, 0], tb_Mo_isSeries)
def me_Mo_many : mz_Me := (⟨"EtaSeriesModel", "many", "(I)I"⟩, prog_9_method_5_code, 2, some .int, 1, false, [876, 100, 875, 61], tb_Mo_many)
def me_Mo_termOf : mz_Me := (⟨"EtaSeriesModel", "termOf", "(II)I"⟩, prog_9_method_6_code, 3, some .int, 2, false, [885, 100, 884, 63], tb_Mo_termOf)
def me_Mo_takesOne : mz_Me := (⟨"EtaSeriesModel", "takesOne", "(I)V"⟩, prog_9_method_7_code, 3, none, 1, false, [881, 100, 880, 62], tb_Mo_takesOne)
def me_Mo_takesTwo : mz_Me := (⟨"EtaSeriesModel", "takesTwo", "(I)V"⟩, prog_9_method_8_code, 3, none, 1, false, [889, 100, 888, 64], tb_Mo_takesTwo)
def me_Mo_goesOn : mz_Me := (⟨"EtaSeriesModel", "goesOn", "()V"⟩, prog_9_method_9_code, 2, none, 0, false, [937, 100, 936, 72], tb_Mo_goesOn)
def me_Mo_copiesToTwo : mz_Me := (⟨"EtaSeriesModel", "copiesToTwo", "()V"⟩, prog_9_method_10_code, 2, none, 0, false, [933, 100, 932, 71], tb_Mo_copiesToTwo)
def me_Mo_keeps : mz_Me := (⟨"EtaSeriesModel", "keeps", "(I)I"⟩, prog_9_method_11_code, 3, some .int, 1, false, [864, 100, 863, 59], tb_Mo_keeps)
def me_Mo_wide : mz_Me := (⟨"EtaSeriesModel", "wide", "()I"⟩, prog_9_method_12_code, 3, some .int, 0, false, [910, 100, 909, 68], tb_Mo_wide)
def me_Mo_product : mz_Me := (⟨"EtaSeriesModel", "product", "(I)J"⟩, prog_9_method_13_code, 5, some .long, 1, false, [906, 100, 905, 67], tb_Mo_product)
def me_Mo_over : mz_Me := (⟨"EtaSeriesModel", "over", "()I"⟩, prog_9_method_14_code, 5, some .int, 0, false, [897, 100, 896, 66], tb_Mo_over)
def me_Mo_joins : mz_Me := (⟨"EtaSeriesModel", "joins", "(I)I"⟩, prog_9_method_15_code, 3, some .int, 1, false, [893, 100, 892, 65], tb_Mo_joins)
def me_Mo_makes : mz_Me := (⟨"EtaSeriesModel", "makes", "(III)V"⟩, prog_9_method_16_code, 6, none, 3, false, [855, 100, 854, 57], tb_Mo_makes)
def me_Mo_euler : mz_Me := (⟨"EtaSeriesModel", "euler", "(II)V"⟩, prog_9_method_17_code, 5, none, 2, false, [859, 100, 858, 58], tb_Mo_euler)
def me_Mo_powers : mz_Me := (⟨"EtaSeriesModel", "powers", "(I)I"⟩, prog_9_method_18_code, 5, some .int, 1, false, [929, 100, 928, 70], tb_Mo_powers)
def me_Mo_isKind : mz_Me := (⟨"EtaSeriesModel", "isKind", "(II)Z"⟩, prog_9_method_19_code, 2, some .boolean, 2, true, [848, 100, 847, 0], tb_Mo_isKind)
def me_Mo_make : mz_Me := (⟨"EtaSeriesModel", "make", "(III)I"⟩, prog_9_method_20_code, 4, some .int, 3, false, [838, 100, 836, 837], tb_Mo_make)
def me_Mo_join : mz_Me := (⟨"EtaSeriesModel", "join", "(IIII)I"⟩, prog_9_method_21_code, 6, some .int, 4, false, [872, 100, 870, 871], tb_Mo_join)
def me_Mo_isChange : mz_Me := (⟨"EtaSeriesModel", "isChange", "(II)Z"⟩, prog_9_method_22_code, 2, some .boolean, 2, true, [917, 100, 916, 0], tb_Mo_isChange)
def me_Mo_changes : mz_Me := (⟨"EtaSeriesModel", "changes", "(II)I"⟩, prog_9_method_23_code, 4, some .int, 2, false, [924, 100, 923, 69], tb_Mo_changes)
def me_Mo_change : mz_Me := (⟨"EtaSeriesModel", "change", "(III)I"⟩, prog_9_method_24_code, 5, some .int, 3, false, [914, 100, 912, 913], tb_Mo_change)
def me_Mo_out : mz_Me := (⟨"EtaSeriesModel", "out", "(I)I"⟩, prog_9_method_25_code, 3, some .int, 1, false, [941, 100, 939, 940], tb_Mo_out)
def me_Mo_length : mz_Me := (⟨"EtaSeriesModel", "length", "(I)I"⟩, prog_9_method_26_code, 3, some .int, 1, false, [945, 100, 943, 944], tb_Mo_length)
def me_Mo_there : mz_Me := (⟨"EtaSeriesModel", "there", "()I"⟩, prog_9_method_27_code, 3, some .int, 0, false, [959, 100, 958, 73], tb_Mo_there)
def me_Mo_drift : mz_Me := (⟨"EtaSeriesModel", "drift", "(I)I"⟩, prog_9_method_28_code, 6, some .int, 1, false, [951, 100, 949, 950], tb_Mo_drift)
def me_Mo_notes : mz_Me := (⟨"EtaSeriesModel", "notes", "()V"⟩, prog_9_method_29_code, 2, none, 0, false, [868, 100, 867, 60], tb_Mo_notes)
def me_Mo_undo : mz_Me := (⟨"EtaSeriesModel", "undo", "()I"⟩, prog_9_method_30_code, 2, some .int, 0, false, [963, 100, 961, 962], tb_Mo_undo)
def me_Mo_seed : mz_Me := (⟨"EtaSeriesModel", "seed", "(I)I"⟩, prog_9_method_31_code, 3, some .int, 1, false, [967, 100, 965, 966], tb_Mo_seed)
def me_Mo_term : mz_Me := (⟨"EtaSeriesModel", "term", "(II)I"⟩, prog_9_method_32_code, 3, some .int, 2, false, [971, 100, 969, 970], tb_Mo_term)
def me_Mo_count : mz_Me := (⟨"EtaSeriesModel", "count", "(I)I"⟩, prog_9_method_33_code, 2, some .int, 1, false, [975, 100, 973, 974], tb_Mo_count)
def me_Mo_type : mz_Me := (⟨"EtaSeriesModel", "type", "(I)I"⟩, prog_9_method_34_code, 2, some .int, 1, false, [979, 100, 977, 978], tb_Mo_type)
def me_Mo_here : mz_Me := (⟨"EtaSeriesModel", "here", "()I"⟩, prog_9_method_35_code, 1, some .int, 0, false, [994, 100, 993, 75], tb_Mo_here)
def me_Mo_has : mz_Me := (⟨"EtaSeriesModel", "has", "(I)Z"⟩, prog_9_method_36_code, 2, some .boolean, 1, false, [1011, 100, 1010, 78], tb_Mo_has)
def me_Mo_number : mz_Me := (⟨"EtaSeriesModel", "number", "()I"⟩, prog_9_method_37_code, 2, some .int, 0, false, [1005, 100, 1004, 77], tb_Mo_number)
def me_Mo_kindOf : mz_Me := (⟨"EtaSeriesModel", "kindOf", "(I)I"⟩, prog_9_method_38_code, 1, some .int, 1, true, [1001, 100, 1000, 0], tb_Mo_kindOf)
def me_Mo_readsAtom : mz_Me := (⟨"EtaSeriesModel", "readsAtom", "()Z"⟩, prog_9_method_39_code, 3, some .boolean, 0, false, [998, 100, 997, 76], tb_Mo_readsAtom)
def me_Mo_isText : mz_Me := (⟨"EtaSeriesModel", "isText", "()Z"⟩, prog_9_method_40_code, 6, some .boolean, 0, false, [990, 100, 989, 74], tb_Mo_isText)
def me_Mo_begins : mz_Me := (⟨"EtaSeriesModel", "begins", "()V"⟩, prog_9_method_41_code, 1, none, 0, false, [1021, 100, 1020, 80], tb_Mo_begins)
def me_Mo_broke : mz_Me := (⟨"EtaSeriesModel", "broke", "(II)I"⟩, prog_9_method_42_code, 3, some .int, 2, false, [1033, 100, 1032, 83], tb_Mo_broke)
def me_Mo_lays : mz_Me := (⟨"EtaSeriesModel", "lays", "([J)V"⟩, prog_9_method_43_code, 3, none, 1, false, [1045, 100, 1044, 86], tb_Mo_lays)
def me_Mo_takesFrom : mz_Me := (⟨"EtaSeriesModel", "takesFrom", "([J)V"⟩, prog_9_method_44_code, 3, none, 1, false, [1041, 100, 1040, 85], tb_Mo_takesFrom)
def me_Mo_joinsPart : mz_Me := (⟨"EtaSeriesModel", "joinsPart", "()I"⟩, prog_9_method_45_code, 3, some .int, 0, false, [1037, 100, 1036, 84], tb_Mo_joinsPart)
def me_Mo_joinsSum : mz_Me := (⟨"EtaSeriesModel", "joinsSum", "()I"⟩, prog_9_method_46_code, 3, some .int, 0, false, [1049, 100, 1048, 87], tb_Mo_joinsSum)
def me_Mo_joinsAtom : mz_Me := (⟨"EtaSeriesModel", "joinsAtom", "()I"⟩, prog_9_method_47_code, 3, some .int, 0, false, [1029, 100, 1028, 82], tb_Mo_joinsAtom)
def me_Mo_makesAtom : mz_Me := (⟨"EtaSeriesModel", "makesAtom", "()I"⟩, prog_9_method_48_code, 2, some .int, 0, false, [1025, 100, 1024, 81], tb_Mo_makesAtom)
def me_Mo_works : mz_Me := (⟨"EtaSeriesModel", "works", "()I"⟩, prog_9_method_49_code, 4, some .int, 0, false, [1017, 100, 1016, 79], tb_Mo_works)
def me_Mo_work : mz_Me := (⟨"EtaSeriesModel", "work", "(I)I"⟩, prog_9_method_50_code, 4, some .int, 1, false, [986, 100, 984, 985], tb_Mo_work)
def me_Mo_first : mz_Me := (⟨"EtaSeriesModel", "first", "(II)I"⟩, prog_9_method_51_code, 6, some .int, 2, false, [1053, 100, 1051, 1052], tb_Mo_first)
def me_Mo_isStep : mz_Me := (⟨"EtaSeriesModel", "isStep", "(II)Z"⟩, prog_9_method_52_code, 2, some .boolean, 2, true, [1060, 100, 1059, 0], tb_Mo_isStep)
def me_Mo_failsAt : mz_Me := (⟨"EtaSeriesModel", "failsAt", "(IIII)I"⟩, prog_9_method_53_code, 7, some .int, 4, false, [1064, 100, 1063, 88], tb_Mo_failsAt)
def me_Mo_fits : mz_Me := (⟨"EtaSeriesModel", "fits", "(IIIII)I"⟩, prog_9_method_54_code, 7, some .int, 5, false, [1057, 100, 1055, 1056], tb_Mo_fits)
def me_Mo_found : mz_Me := (⟨"EtaSeriesModel", "found", "(III)I"⟩, prog_9_method_55_code, 7, some .int, 3, false, [1068, 100, 1066, 1067], tb_Mo_found)
def me_Mo_guess : mz_Me := (⟨"EtaSeriesModel", "guess", "(IIII)I"⟩, prog_9_method_56_code, 10, some .int, 4, false, [1072, 100, 1070, 1071], tb_Mo_guess)
def me_Mo_image : mz_Me := (⟨"EtaSeriesModel", "image", "()I"⟩, prog_9_method_57_code, 2, some .int, 0, false, [1078, 100, 1076, 1077], tb_Mo_image)
def me_Mo_restore : mz_Me := (⟨"EtaSeriesModel", "restore", "()I"⟩, prog_9_method_58_code, 2, some .int, 0, false, [1082, 100, 1080, 1081], tb_Mo_restore)
def me_Mo_isSheet : mz_Me := (⟨"EtaSeriesModel", "isSheet", "(I)Z"⟩, prog_9_method_59_code, 1, some .boolean, 1, true, [1089, 100, 1088, 0], tb_Mo_isSheet)
def me_Mo_cut : mz_Me := (⟨"EtaSeriesModel", "cut", "(JI)J"⟩, prog_9_method_60_code, 3, some .long, 2, true, [1107, 100, 1106, 0], tb_Mo_cut)
def me_Mo_sheet : mz_Me := (⟨"EtaSeriesModel", "sheet", "(III)I"⟩, prog_9_method_61_code, 5, some .int, 3, false, [1086, 100, 1084, 1085], tb_Mo_sheet)
def me_Mo_drop : mz_Me := (⟨"EtaSeriesModel", "drop", "(I)I"⟩, prog_9_method_62_code, 2, some .int, 1, false, [1094, 100, 1092, 1093], tb_Mo_drop)
def me_Mo_why : mz_Me := (⟨"EtaSeriesModel", "why", "(IIII)I"⟩, prog_9_method_63_code, 5, some .int, 4, false, [1102, 100, 1101, 89], tb_Mo_why)
def me_Mo_item : mz_Me := (⟨"EtaSeriesModel", "item", "(IIIJ)I"⟩, prog_9_method_64_code, 7, some .int, 4, false, [1098, 100, 1096, 1097], tb_Mo_item)
def me_Mo_copy : mz_Me := (⟨"EtaSeriesModel", "copy", "(IIIII)I"⟩, prog_9_method_65_code, 7, some .int, 5, false, [1111, 100, 1109, 1110], tb_Mo_copy)
def me_Mo_whyPairs : mz_Me := (⟨"EtaSeriesModel", "whyPairs", "(IIII)I"⟩, prog_9_method_66_code, 8, some .int, 4, false, [1119, 100, 1118, 90], tb_Mo_whyPairs)
def me_Mo_levelOf : mz_Me := (⟨"EtaSeriesModel", "levelOf", "(II)I"⟩, prog_9_method_67_code, 14, some .int, 2, false, [1125, 100, 1124, 91], tb_Mo_levelOf)
def me_Mo_indexOf : mz_Me := (⟨"EtaSeriesModel", "indexOf", "(I)I"⟩, prog_9_method_68_code, 4, some .int, 1, true, [1129, 100, 1128, 0], tb_Mo_indexOf)
def me_Mo_told : mz_Me := (⟨"EtaSeriesModel", "told", "(IIIII)I"⟩, prog_9_method_69_code, 10, some .int, 5, false, [1115, 100, 1113, 1114], tb_Mo_told)
def me_Mo_quotient : mz_Me := (⟨"EtaSeriesModel", "quotient", "(IIIII)I"⟩, prog_9_method_70_code, 11, some .int, 5, false, [1133, 100, 1131, 1132], tb_Mo_quotient)
def me_Mo_wrought : mz_Me := (⟨"EtaSeriesModel", "wrought", "(IIIIII)I"⟩, prog_9_method_71_code, 12, some .int, 6, false, [1137, 100, 1135, 1136], tb_Mo_wrought)
def me_Mo_film : mz_Me := (⟨"EtaSeriesModel", "film", "(IIII)I"⟩, prog_9_method_72_code, 8, some .int, 4, false, [1141, 100, 1139, 1140], tb_Mo_film)
abbrev n_Math_max : Nat := 0
abbrev n_Math_min : Nat := 1
abbrev n_Math_abs : Nat := 2
abbrev n_Math_floorMod : Nat := 3
abbrev n_Leaf_hold : Nat := 4
abbrev n_Leaf_hasItems : Nat := 5
abbrev n_Leaf_refuse : Nat := 6
abbrev n_Leaf_refusePairs : Nat := 7
abbrev n_Leaf_at : Nat := 8
abbrev n_Leaf_put : Nat := 9
abbrev n_Leaf_begins : Nat := 10
abbrev n_Leaf_divisor : Nat := 11
abbrev n_Leaf_exponent : Nat := 12
abbrev n_Leaf_weight : Nat := 13
abbrev n_Leaf_level : Nat := 14
abbrev n_Leaf_isLevel : Nat := 15
abbrev n_Leaf_bound : Nat := 16
abbrev n_Leaf_indexOf : Nat := 17
abbrev n_Mill_result : Nat := 18
abbrev n_Mill_reset : Nat := 19
abbrev n_Mill_workSum : Nat := 20
abbrev n_Mill_workPart : Nat := 21
abbrev n_Mill_workPower : Nat := 22
abbrev n_Mill_workAtom : Nat := 23
abbrev n_Mill_combine : Nat := 24
abbrev n_Mill_finish : Nat := 25
abbrev n_Mill_actOf : Nat := 26
abbrev n_Mill_workQuotient : Nat := 27
abbrev n_Past_remember : Nat := 28
abbrev n_Past_bringBack : Nat := 29
abbrev n_Past_takeAll : Nat := 30
abbrev n_Row_begin : Nat := 31
abbrev n_Row_at : Nat := 32
abbrev n_Row_put : Nat := 33
abbrev n_Row_take : Nat := 34
abbrev n_Row_become : Nat := 35
abbrev n_Row_becomeJoined : Nat := 36
abbrev n_Row_sum : Nat := 37
abbrev n_Row_product : Nat := 38
abbrev n_Row_ratio : Nat := 39
abbrev n_Row_becomePower : Nat := 40
abbrev n_Row_becomeChanged : Nat := 41
abbrev n_Row_pick : Nat := 42
abbrev n_Shelf_take : Nat := 43
abbrev n_Shelf_isMissing : Nat := 44
abbrev n_Shelf_present : Nat := 45
abbrev n_Shelf_turnDraw : Nat := 46
abbrev n_Tape_write : Nat := 47
abbrev n_Tape_parse : Nat := 48
abbrev n_Tape_here : Nat := 49
abbrev n_Tape_skipBlanks : Nat := 50
abbrev n_Tape_digitIsHere : Nat := 51
abbrev n_Tape_readAtom : Nat := 52
abbrev n_Tape_readOpen : Nat := 53
abbrev n_Tape_readFamily : Nat := 54
abbrev n_Tape_readBehindAtom : Nat := 55
abbrev n_Tape_readFigure : Nat := 56
abbrev n_Tape_readNumber : Nat := 57
abbrev n_Tape_pass : Nat := 58
abbrev n_Tape_note : Nat := 59
abbrev n_Tape_signAt : Nat := 60
abbrev n_Tape_valueAt : Nat := 61
abbrev n_Tape_kindOf : Nat := 62
abbrev n_ES_make : Nat := 63
abbrev n_ES_join : Nat := 64
abbrev n_ES_change : Nat := 65
abbrev n_ES_out : Nat := 66
abbrev n_ES_length : Nat := 67
abbrev n_ES_type : Nat := 68
abbrev n_ES_work : Nat := 69
abbrev n_ES_drift : Nat := 70
abbrev n_ES_undo : Nat := 71
abbrev n_ES_seed : Nat := 72
abbrev n_ES_term : Nat := 73
abbrev n_ES_count : Nat := 74
abbrev n_ES_first : Nat := 75
abbrev n_ES_fits : Nat := 76
abbrev n_ES_found : Nat := 77
abbrev n_ES_guess : Nat := 78
abbrev n_ES_image : Nat := 79
abbrev n_ES_restore : Nat := 80
abbrev n_ES_told : Nat := 81
abbrev n_ES_quotient : Nat := 82
abbrev n_ES_wrought : Nat := 83
abbrev n_ES_film : Nat := 84
abbrev n_ES_sheet : Nat := 85
abbrev n_ES_drop : Nat := 86
abbrev n_ES_item : Nat := 87
abbrev n_ES_copy : Nat := 88
abbrev n_ES_isOneOfFour : Nat := 89
abbrev n_ES_isWithin : Nat := 90
abbrev n_ES_isPairs : Nat := 91
abbrev n_ES_isStep : Nat := 92
abbrev n_ES_isKind : Nat := 93
abbrev n_ES_isChange : Nat := 94
abbrev n_ES_isWide : Nat := 95
abbrev n_ES_settle : Nat := 96
abbrev n_ES_firstUnlike : Nat := 97
abbrev n_ES_firstMisfit : Nat := 98
abbrev n_ES_leastFitting : Nat := 99
abbrev n_ES_chanceOfEven : Nat := 100
abbrev n_Mo_in : Nat := 101
abbrev n_Mo_isSeries : Nat := 102
abbrev n_Mo_many : Nat := 103
abbrev n_Mo_termOf : Nat := 104
abbrev n_Mo_takesOne : Nat := 105
abbrev n_Mo_takesTwo : Nat := 106
abbrev n_Mo_goesOn : Nat := 107
abbrev n_Mo_copiesToTwo : Nat := 108
abbrev n_Mo_keeps : Nat := 109
abbrev n_Mo_wide : Nat := 110
abbrev n_Mo_product : Nat := 111
abbrev n_Mo_over : Nat := 112
abbrev n_Mo_joins : Nat := 113
abbrev n_Mo_makes : Nat := 114
abbrev n_Mo_euler : Nat := 115
abbrev n_Mo_powers : Nat := 116
abbrev n_Mo_isKind : Nat := 117
abbrev n_Mo_make : Nat := 118
abbrev n_Mo_join : Nat := 119
abbrev n_Mo_isChange : Nat := 120
abbrev n_Mo_changes : Nat := 121
abbrev n_Mo_change : Nat := 122
abbrev n_Mo_out : Nat := 123
abbrev n_Mo_length : Nat := 124
abbrev n_Mo_there : Nat := 125
abbrev n_Mo_drift : Nat := 126
abbrev n_Mo_notes : Nat := 127
abbrev n_Mo_undo : Nat := 128
abbrev n_Mo_seed : Nat := 129
abbrev n_Mo_term : Nat := 130
abbrev n_Mo_count : Nat := 131
abbrev n_Mo_type : Nat := 132
abbrev n_Mo_here : Nat := 133
abbrev n_Mo_has : Nat := 134
abbrev n_Mo_number : Nat := 135
abbrev n_Mo_kindOf : Nat := 136
abbrev n_Mo_readsAtom : Nat := 137
abbrev n_Mo_isText : Nat := 138
abbrev n_Mo_begins : Nat := 139
abbrev n_Mo_broke : Nat := 140
abbrev n_Mo_lays : Nat := 141
abbrev n_Mo_takesFrom : Nat := 142
abbrev n_Mo_joinsPart : Nat := 143
abbrev n_Mo_joinsSum : Nat := 144
abbrev n_Mo_joinsAtom : Nat := 145
abbrev n_Mo_makesAtom : Nat := 146
abbrev n_Mo_works : Nat := 147
abbrev n_Mo_work : Nat := 148
abbrev n_Mo_first : Nat := 149
abbrev n_Mo_isStep : Nat := 150
abbrev n_Mo_failsAt : Nat := 151
abbrev n_Mo_fits : Nat := 152
abbrev n_Mo_found : Nat := 153
abbrev n_Mo_guess : Nat := 154
abbrev n_Mo_image : Nat := 155
abbrev n_Mo_restore : Nat := 156
abbrev n_Mo_isSheet : Nat := 157
abbrev n_Mo_cut : Nat := 158
abbrev n_Mo_sheet : Nat := 159
abbrev n_Mo_drop : Nat := 160
abbrev n_Mo_why : Nat := 161
abbrev n_Mo_item : Nat := 162
abbrev n_Mo_copy : Nat := 163
abbrev n_Mo_whyPairs : Nat := 164
abbrev n_Mo_levelOf : Nat := 165
abbrev n_Mo_indexOf : Nat := 166
abbrev n_Mo_told : Nat := 167
abbrev n_Mo_quotient : Nat := 168
abbrev n_Mo_wrought : Nat := 169
abbrev n_Mo_film : Nat := 170
def es_MS : List mz_Me := [me_Math_max,
  me_Math_min,
  me_Math_abs,
  me_Math_floorMod,
  me_Leaf_hold,
  me_Leaf_hasItems,
  me_Leaf_refuse,
  me_Leaf_refusePairs,
  me_Leaf_at,
  me_Leaf_put,
  me_Leaf_begins,
  me_Leaf_divisor,
  me_Leaf_exponent,
  me_Leaf_weight,
  me_Leaf_level,
  me_Leaf_isLevel,
  me_Leaf_bound,
  me_Leaf_indexOf,
  me_Mill_result,
  me_Mill_reset,
  me_Mill_workSum,
  me_Mill_workPart,
  me_Mill_workPower,
  me_Mill_workAtom,
  me_Mill_combine,
  me_Mill_finish,
  me_Mill_actOf,
  me_Mill_workQuotient,
  me_Past_remember,
  me_Past_bringBack,
  me_Past_takeAll,
  me_Row_begin,
  me_Row_at,
  me_Row_put,
  me_Row_take,
  me_Row_become,
  me_Row_becomeJoined,
  me_Row_sum,
  me_Row_product,
  me_Row_ratio,
  me_Row_becomePower,
  me_Row_becomeChanged,
  me_Row_pick,
  me_Shelf_take,
  me_Shelf_isMissing,
  me_Shelf_present,
  me_Shelf_turnDraw,
  me_Tape_write,
  me_Tape_parse,
  me_Tape_here,
  me_Tape_skipBlanks,
  me_Tape_digitIsHere,
  me_Tape_readAtom,
  me_Tape_readOpen,
  me_Tape_readFamily,
  me_Tape_readBehindAtom,
  me_Tape_readFigure,
  me_Tape_readNumber,
  me_Tape_pass,
  me_Tape_note,
  me_Tape_signAt,
  me_Tape_valueAt,
  me_Tape_kindOf,
  me_ES_make,
  me_ES_join,
  me_ES_change,
  me_ES_out,
  me_ES_length,
  me_ES_type,
  me_ES_work,
  me_ES_drift,
  me_ES_undo,
  me_ES_seed,
  me_ES_term,
  me_ES_count,
  me_ES_first,
  me_ES_fits,
  me_ES_found,
  me_ES_guess,
  me_ES_image,
  me_ES_restore,
  me_ES_told,
  me_ES_quotient,
  me_ES_wrought,
  me_ES_film,
  me_ES_sheet,
  me_ES_drop,
  me_ES_item,
  me_ES_copy,
  me_ES_isOneOfFour,
  me_ES_isWithin,
  me_ES_isPairs,
  me_ES_isStep,
  me_ES_isKind,
  me_ES_isChange,
  me_ES_isWide,
  me_ES_settle,
  me_ES_firstUnlike,
  me_ES_firstMisfit,
  me_ES_leastFitting,
  me_ES_chanceOfEven,
  me_Mo_in,
  me_Mo_isSeries,
  me_Mo_many,
  me_Mo_termOf,
  me_Mo_takesOne,
  me_Mo_takesTwo,
  me_Mo_goesOn,
  me_Mo_copiesToTwo,
  me_Mo_keeps,
  me_Mo_wide,
  me_Mo_product,
  me_Mo_over,
  me_Mo_joins,
  me_Mo_makes,
  me_Mo_euler,
  me_Mo_powers,
  me_Mo_isKind,
  me_Mo_make,
  me_Mo_join,
  me_Mo_isChange,
  me_Mo_changes,
  me_Mo_change,
  me_Mo_out,
  me_Mo_length,
  me_Mo_there,
  me_Mo_drift,
  me_Mo_notes,
  me_Mo_undo,
  me_Mo_seed,
  me_Mo_term,
  me_Mo_count,
  me_Mo_type,
  me_Mo_here,
  me_Mo_has,
  me_Mo_number,
  me_Mo_kindOf,
  me_Mo_readsAtom,
  me_Mo_isText,
  me_Mo_begins,
  me_Mo_broke,
  me_Mo_lays,
  me_Mo_takesFrom,
  me_Mo_joinsPart,
  me_Mo_joinsSum,
  me_Mo_joinsAtom,
  me_Mo_makesAtom,
  me_Mo_works,
  me_Mo_work,
  me_Mo_first,
  me_Mo_isStep,
  me_Mo_failsAt,
  me_Mo_fits,
  me_Mo_found,
  me_Mo_guess,
  me_Mo_image,
  me_Mo_restore,
  me_Mo_isSheet,
  me_Mo_cut,
  me_Mo_sheet,
  me_Mo_drop,
  me_Mo_why,
  me_Mo_item,
  me_Mo_copy,
  me_Mo_whyPairs,
  me_Mo_levelOf,
  me_Mo_indexOf,
  me_Mo_told,
  me_Mo_quotient,
  me_Mo_wrought,
  me_Mo_film]
def es_TS : List mz_T := [tb_Math_max, tb_Math_min, tb_Math_abs, tb_Math_floorMod, tb_Leaf_hold, tb_Leaf_hasItems, tb_Leaf_refuse, tb_Leaf_refusePairs, tb_Leaf_at, tb_Leaf_put, tb_Leaf_begins, tb_Leaf_divisor, tb_Leaf_exponent, tb_Leaf_weight, tb_Leaf_level, tb_Leaf_isLevel, tb_Leaf_bound, tb_Leaf_indexOf, tb_Mill_result, tb_Mill_reset, tb_Mill_workSum, tb_Mill_workPart, tb_Mill_workPower, tb_Mill_workAtom, tb_Mill_combine, tb_Mill_finish, tb_Mill_actOf, tb_Mill_workQuotient, tb_Past_remember, tb_Past_bringBack, tb_Past_takeAll, tb_Row_begin, tb_Row_at, tb_Row_put, tb_Row_take, tb_Row_become, tb_Row_becomeJoined, tb_Row_sum, tb_Row_product, tb_Row_ratio, tb_Row_becomePower, tb_Row_becomeChanged, tb_Row_pick, tb_Shelf_take, tb_Shelf_isMissing, tb_Shelf_present, tb_Shelf_turnDraw, tb_Tape_write, tb_Tape_parse, tb_Tape_here, tb_Tape_skipBlanks, tb_Tape_digitIsHere, tb_Tape_readAtom, tb_Tape_readOpen, tb_Tape_readFamily, tb_Tape_readBehindAtom, tb_Tape_readFigure, tb_Tape_readNumber, tb_Tape_pass, tb_Tape_note, tb_Tape_signAt, tb_Tape_valueAt, tb_Tape_kindOf, tb_ES_make, tb_ES_join, tb_ES_change, tb_ES_out, tb_ES_length, tb_ES_type, tb_ES_work, tb_ES_drift, tb_ES_undo, tb_ES_seed, tb_ES_term, tb_ES_count, tb_ES_first, tb_ES_fits, tb_ES_found, tb_ES_guess, tb_ES_image, tb_ES_restore, tb_ES_told, tb_ES_quotient, tb_ES_wrought, tb_ES_film, tb_ES_sheet, tb_ES_drop, tb_ES_item, tb_ES_copy, tb_ES_isOneOfFour, tb_ES_isWithin, tb_ES_isPairs, tb_ES_isStep, tb_ES_isKind, tb_ES_isChange, tb_ES_isWide, tb_ES_settle, tb_ES_firstUnlike, tb_ES_firstMisfit, tb_ES_leastFitting, tb_ES_chanceOfEven, tb_Mo_in, tb_Mo_isSeries, tb_Mo_many, tb_Mo_termOf, tb_Mo_takesOne, tb_Mo_takesTwo, tb_Mo_goesOn, tb_Mo_copiesToTwo, tb_Mo_keeps, tb_Mo_wide, tb_Mo_product, tb_Mo_over, tb_Mo_joins, tb_Mo_makes, tb_Mo_euler, tb_Mo_powers, tb_Mo_isKind, tb_Mo_make, tb_Mo_join, tb_Mo_isChange, tb_Mo_changes, tb_Mo_change, tb_Mo_out, tb_Mo_length, tb_Mo_there, tb_Mo_drift, tb_Mo_notes, tb_Mo_undo, tb_Mo_seed, tb_Mo_term, tb_Mo_count, tb_Mo_type, tb_Mo_here, tb_Mo_has, tb_Mo_number, tb_Mo_kindOf, tb_Mo_readsAtom, tb_Mo_isText, tb_Mo_begins, tb_Mo_broke, tb_Mo_lays, tb_Mo_takesFrom, tb_Mo_joinsPart, tb_Mo_joinsSum, tb_Mo_joinsAtom, tb_Mo_makesAtom, tb_Mo_works, tb_Mo_work, tb_Mo_first, tb_Mo_isStep, tb_Mo_failsAt, tb_Mo_fits, tb_Mo_found, tb_Mo_guess, tb_Mo_image, tb_Mo_restore, tb_Mo_isSheet, tb_Mo_cut, tb_Mo_sheet, tb_Mo_drop, tb_Mo_why, tb_Mo_item, tb_Mo_copy, tb_Mo_whyPairs, tb_Mo_levelOf, tb_Mo_indexOf, tb_Mo_told, tb_Mo_quotient, tb_Mo_wrought, tb_Mo_film]
def es_TB (y : Nat) : mz_T := match mz_nth es_TS y with
  | some t => t
  | none => []
end
section
/-! What the stretches of the methods ask: by program, closed by evaluation. -/
/-! java/lang/Math.max(II)I, number 0 -/
abbrev v_Math_max (C : mz_Cl) (Q : Option mz_V → mz_M → Prop) : mz_S → Prop := mz_Ev es_SH tb_Math_max C Q
set_option maxRecDepth 20000 in
set_option maxHeartbeats 4000000 in
theorem w_Math_max_0 {C : mz_Cl} {Q : Option mz_V → mz_M → Prop} (x0 : Int32) (x1 : Int32) (μ : mz_M) (h :
    if (x0 : Int32) < (x1 : Int32) then
      (Q (some (mz_I x1)) μ)
    else
      (Q (some (mz_I x0)) μ)) :
  v_Math_max C Q (0, [(0, mz_I x0), (1, mz_I x1)], [], μ) := mz_Ev.run [] 400 h
/-! java/lang/Math.min(II)I, number 1 -/
abbrev v_Math_min (C : mz_Cl) (Q : Option mz_V → mz_M → Prop) : mz_S → Prop := mz_Ev es_SH tb_Math_min C Q
set_option maxRecDepth 20000 in
set_option maxHeartbeats 4000000 in
theorem w_Math_min_0 {C : mz_Cl} {Q : Option mz_V → mz_M → Prop} (x0 : Int32) (x1 : Int32) (μ : mz_M) (h :
    if (x1 : Int32) < (x0 : Int32) then
      (Q (some (mz_I x1)) μ)
    else
      (Q (some (mz_I x0)) μ)) :
  v_Math_min C Q (0, [(0, mz_I x0), (1, mz_I x1)], [], μ) := mz_Ev.run [] 400 h
/-! java/lang/Math.abs(I)I, number 2 -/
abbrev v_Math_abs (C : mz_Cl) (Q : Option mz_V → mz_M → Prop) : mz_S → Prop := mz_Ev es_SH tb_Math_abs C Q
set_option maxRecDepth 20000 in
set_option maxHeartbeats 4000000 in
theorem w_Math_abs_0 {C : mz_Cl} {Q : Option mz_V → mz_M → Prop} (x0 : Int32) (μ : mz_M) (h :
    if (0 : Int32) ≤ (x0 : Int32) then
      (Q (some (mz_I x0)) μ)
    else
      (Q (some (mz_I (-x0))) μ)) :
  v_Math_abs C Q (0, [(0, mz_I x0)], [], μ) := mz_Ev.run [] 400 h
/-! java/lang/Math.floorMod(II)I, number 3 -/
abbrev v_Math_floorMod (C : mz_Cl) (Q : Option mz_V → mz_M → Prop) : mz_S → Prop := mz_Ev es_SH tb_Math_floorMod C Q
set_option maxRecDepth 20000 in
set_option maxHeartbeats 4000000 in
theorem w_Math_floorMod_0 {C : mz_Cl} {Q : Option mz_V → mz_M → Prop} (x0 : Int32) (x1 : Int32) (μ : mz_M) (h :
    ¬ (x1 : Int32) = 0 ∧ (if (0 : Int32) ≤ (x0 ^^^ x1 : Int32) then
      (Q (some (mz_I (x0 - x0 / x1 * x1))) μ)
    else
      (if (x0 - x0 / x1 * x1 : Int32) = (0 : Int32) then
        (Q (some (mz_I (x0 - x0 / x1 * x1))) μ)
      else
        (Q (some (mz_I ((x0 - x0 / x1 * x1) + x1))) μ)))) :
  v_Math_floorMod C Q (0, [(0, mz_I x0), (1, mz_I x1)], [], μ) := mz_Ev.run [] 400 h
/-! EtaSeries$Past.remember(LEtaSeries$Shelf;)V, number 28 -/
abbrev v_Past_remember (C : mz_Cl) (Q : Option mz_V → mz_M → Prop) : mz_S → Prop := mz_Ev es_SH tb_Past_remember C Q
set_option maxRecDepth 20000 in
set_option maxHeartbeats 4000000 in
theorem w_Past_remember_0 {C : mz_Cl} {Q : Option mz_V → mz_M → Prop} (p0 : Nat) (p1 : Nat) (μ : mz_M) (h :
    ∃ (r2 : Int32) (μ1 : mz_M), C n_Math_floorMod [mz_I (μ.1 p0 2), mz_I 6] μ (some (mz_I r2)) μ1 ∧
      (vp_in r2 6 ∧ (∃ μ3, C n_Shelf_take [mz_R 1 (((p0 + 1) + 1) + 10 * (r2 : Int32).toNatClampNeg), mz_R 1 p1] μ1 none μ3 ∧
        (∃ (r5 : Int32) (μ4 : mz_M), C n_Math_floorMod [mz_I ((μ3.1 p0 2) + 1), mz_I 6] μ3 (some (mz_I r5)) μ4 ∧
          (∃ (r7 : Int32) (μ6 : mz_M), C n_Math_min [mz_I (((mz_wI μ4 p0 2 r5).1 p0 1) + 1), mz_I 6] (mz_wI μ4 p0 2 r5) (some (mz_I r7)) μ6 ∧
            (Q none (mz_wI μ6 p0 1 r7))))))) :
  v_Past_remember C Q (0, [(0, mz_R 5 p0), (1, mz_R 1 p1)], [], μ) := mz_Ev.run [] 400 h
/-! EtaSeries$Past.bringBack(LEtaSeries$Shelf;)Z, number 29 -/
abbrev v_Past_bringBack (C : mz_Cl) (Q : Option mz_V → mz_M → Prop) : mz_S → Prop := mz_Ev es_SH tb_Past_bringBack C Q
set_option maxRecDepth 20000 in
set_option maxHeartbeats 4000000 in
theorem w_Past_bringBack_0 {C : mz_Cl} {Q : Option mz_V → mz_M → Prop} (p0 : Nat) (p1 : Nat) (μ : mz_M) (h :
    if (1 : Int32) ≤ (μ.1 p0 1 : Int32) then
      (∃ (r2 : Int32) (μ1 : mz_M), C n_Math_floorMod [mz_I ((μ.1 p0 2) - 1), mz_I 6] μ (some (mz_I r2)) μ1 ∧
        (vp_in ((mz_wI μ1 p0 2 r2).1 p0 2) 6 ∧ (∃ μ3, C n_Shelf_take [mz_R 1 p1, mz_R 1 (((p0 + 1) + 1) + 10 * ((mz_wI μ1 p0 2 r2).1 p0 2 : Int32).toNatClampNeg)] (mz_wI μ1 p0 2 r2) none μ3 ∧
          (((1 : Int32) = 0 ∨ (1 : Int32) = 1) ∧ Q (some (mz_I 1)) (mz_wI μ3 p0 1 ((μ3.1 p0 1) - 1))))))
    else
      (((0 : Int32) = 0 ∨ (0 : Int32) = 1) ∧ Q (some (mz_I 0)) μ)) :
  v_Past_bringBack C Q (0, [(0, mz_R 5 p0), (1, mz_R 1 p1)], [], μ) := mz_Ev.run [] 400 h
/-! EtaSeries$Past.takeAll(LEtaSeries$Past;)V, number 30 -/
abbrev v_Past_takeAll (C : mz_Cl) (Q : Option mz_V → mz_M → Prop) : mz_S → Prop := mz_Ev es_SH tb_Past_takeAll C Q
set_option maxRecDepth 20000 in
set_option maxHeartbeats 4000000 in
theorem w_Past_takeAll_0 {C : mz_Cl} {Q : Option mz_V → mz_M → Prop} (p0 : Nat) (p1 : Nat) (μ : mz_M) (h :
    v_Past_takeAll C Q (2, [(0, mz_R 5 p0), (1, mz_R 5 p1), (2, mz_I 0)], [], μ)) :
  v_Past_takeAll C Q (0, [(0, mz_R 5 p0), (1, mz_R 5 p1)], [], μ) := mz_Ev.run [2] 400 h
set_option maxRecDepth 20000 in
set_option maxHeartbeats 4000000 in
theorem w_Past_takeAll_2 {C : mz_Cl} {Q : Option mz_V → mz_M → Prop} (p0 : Nat) (p1 : Nat) (x2 : Int32) (μ : mz_M) (h :
    if (nI 6 : Int32) ≤ (x2 : Int32) then
      (Q none (mz_wI (mz_wI μ p0 1 (μ.1 p1 1)) p0 2 ((mz_wI μ p0 1 (μ.1 p1 1)).1 p1 2)))
    else
      (vp_in x2 6 ∧ (vp_in x2 6 ∧ (∃ μ1, C n_Shelf_take [mz_R 1 (((p0 + 1) + 1) + 10 * (x2 : Int32).toNatClampNeg), mz_R 1 (((p1 + 1) + 1) + 10 * (x2 : Int32).toNatClampNeg)] μ none μ1 ∧
        (v_Past_takeAll C Q (2, [(0, mz_R 5 p0), (1, mz_R 5 p1), (2, mz_I (x2 + 1))], [], μ1)))))) :
  v_Past_takeAll C Q (2, [(0, mz_R 5 p0), (1, mz_R 5 p1), (2, mz_I x2)], [], μ) := mz_Ev.run [2] 400 h
/-! EtaSeries$Row.begin(I)V, number 31 -/
abbrev v_Row_begin (C : mz_Cl) (Q : Option mz_V → mz_M → Prop) : mz_S → Prop := mz_Ev es_SH tb_Row_begin C Q
set_option maxRecDepth 20000 in
set_option maxHeartbeats 4000000 in
theorem w_Row_begin_0 {C : mz_Cl} {Q : Option mz_V → mz_M → Prop} (p0 : Nat) (x1 : Int32) (μ : mz_M) (h :
    ∃ (r2 : Int32) (μ1 : mz_M), C n_Math_min [mz_I x1, mz_I (nI 40)] μ (some (mz_I r2)) μ1 ∧
      (∃ (r4 : Int32) (μ3 : mz_M), C n_Math_max [mz_I 0, mz_I r2] μ1 (some (mz_I r4)) μ3 ∧
        (v_Row_begin C Q (19, [(0, mz_R 3 p0), (2, mz_I 0)], [], mz_wI μ3 p0 1 r4)))) :
  v_Row_begin C Q (0, [(0, mz_R 3 p0), (1, mz_I x1)], [], μ) := mz_Ev.run [19] 400 h
set_option maxRecDepth 20000 in
set_option maxHeartbeats 4000000 in
theorem w_Row_begin_19 {C : mz_Cl} {Q : Option mz_V → mz_M → Prop} (p0 : Nat) (x2 : Int32) (μ : mz_M) (h :
    if (μ.1 p0 1 : Int32) ≤ (x2 : Int32) then
      (Q none μ)
    else
      (vp_in x2 40 ∧ (v_Row_begin C Q (19, [(0, mz_R 3 p0), (2, mz_I (x2 + 1))], [], mz_wI μ (p0 + 1) (x2 : Int32).toNatClampNeg 0)))) :
  v_Row_begin C Q (19, [(0, mz_R 3 p0), (2, mz_I x2)], [], μ) := mz_Ev.run [19] 400 h
/-! EtaSeries$Row.at(I)I, number 32 -/
abbrev v_Row_at (C : mz_Cl) (Q : Option mz_V → mz_M → Prop) : mz_S → Prop := mz_Ev es_SH tb_Row_at C Q
set_option maxRecDepth 20000 in
set_option maxHeartbeats 4000000 in
theorem w_Row_at_0 {C : mz_Cl} {Q : Option mz_V → mz_M → Prop} (p0 : Nat) (x1 : Int32) (μ : mz_M) (h :
    if (x1 : Int32) < (0 : Int32) then
      (Q (some (mz_I 0)) μ)
    else
      (if (μ.1 p0 1 : Int32) ≤ (x1 : Int32) then
        (Q (some (mz_I 0)) μ)
      else
        (vp_in x1 40 ∧ (Q (some (mz_I (μ.1 (p0 + 1) (x1 : Int32).toNatClampNeg))) μ)))) :
  v_Row_at C Q (0, [(0, mz_R 3 p0), (1, mz_I x1)], [], μ) := mz_Ev.run [] 400 h
/-! EtaSeries$Row.put(IJ)V, number 33 -/
abbrev v_Row_put (C : mz_Cl) (Q : Option mz_V → mz_M → Prop) : mz_S → Prop := mz_Ev es_SH tb_Row_put C Q
set_option maxRecDepth 20000 in
set_option maxHeartbeats 4000000 in
theorem w_Row_put_0 {C : mz_Cl} {Q : Option mz_V → mz_M → Prop} (p0 : Nat) (x1 : Int32) (y2 : Int64) (μ : mz_M) (h :
    if (x1 : Int32) < (0 : Int32) then
      (Q none μ)
    else
      (if (μ.1 p0 1 : Int32) ≤ (x1 : Int32) then
        (Q none μ)
      else
        (vp_in x1 40 ∧ (Q none (mz_wI μ (p0 + 1) (x1 : Int32).toNatClampNeg ((y2 : Int64).toInt32)))))) :
  v_Row_put C Q (0, [(0, mz_R 3 p0), (1, mz_I x1), (2, mz_L y2)], [], μ) := mz_Ev.run [] 400 h
/-! EtaSeries$Row.take(LEtaSeries$Row;)V, number 34 -/
abbrev v_Row_take (C : mz_Cl) (Q : Option mz_V → mz_M → Prop) : mz_S → Prop := mz_Ev es_SH tb_Row_take C Q
set_option maxRecDepth 20000 in
set_option maxHeartbeats 4000000 in
theorem w_Row_take_0 {C : mz_Cl} {Q : Option mz_V → mz_M → Prop} (p0 : Nat) (p1 : Nat) (μ : mz_M) (h :
    (¬ (0 : Int32) < 0 ∧ ¬ (0 : Int32) < 0 ∧ ¬ (nI 40 : Int32) < 0 ∧ (0 : Int32).toNatClampNeg + (nI 40 : Int32).toNatClampNeg ≤ 40 ∧ (0 : Int32).toNatClampNeg + (nI 40 : Int32).toNatClampNeg ≤ 40) ∧ (Q none (mz_cI (mz_wI μ p0 1 (μ.1 p1 1)) (p1 + 1) (p0 + 1) (0 : Int32).toNatClampNeg (0 : Int32).toNatClampNeg (nI 40 : Int32).toNatClampNeg))) :
  v_Row_take C Q (0, [(0, mz_R 3 p0), (1, mz_R 3 p1)], [], μ) := mz_Ev.run [] 400 h
/-! EtaSeries$Row.become(III)V, number 35 -/
abbrev v_Row_become (C : mz_Cl) (Q : Option mz_V → mz_M → Prop) : mz_S → Prop := mz_Ev es_SH tb_Row_become C Q
set_option maxRecDepth 20000 in
set_option maxHeartbeats 4000000 in
theorem w_Row_become_0 {C : mz_Cl} {Q : Option mz_V → mz_M → Prop} (p0 : Nat) (x1 : Int32) (x2 : Int32) (x3 : Int32) (μ : mz_M) (h :
    ∃ μ1, C n_Row_begin [mz_R 3 p0, mz_I x3] μ none μ1 ∧
      (if (x1 : Int32) = (4 : Int32) then
        (∃ μ2, C n_Row_put [mz_R 3 p0, mz_I x2, mz_L 1] μ1 none μ2 ∧
          (v_Row_become C Q (23, [(0, mz_R 3 p0), (1, mz_I x1), (2, mz_I x2), (4, mz_I 1)], [], μ2)))
      else
        (∃ μ3, C n_Row_put [mz_R 3 p0, mz_I 0, mz_L 1] μ1 none μ3 ∧
          (v_Row_become C Q (23, [(0, mz_R 3 p0), (1, mz_I x1), (2, mz_I x2), (4, mz_I 1)], [], μ3))))) :
  v_Row_become C Q (0, [(0, mz_R 3 p0), (1, mz_I x1), (2, mz_I x2), (3, mz_I x3)], [], μ) := mz_Ev.run [23] 400 h
set_option maxRecDepth 20000 in
set_option maxHeartbeats 4000000 in
theorem w_Row_become_23 {C : mz_Cl} {Q : Option mz_V → mz_M → Prop} (p0 : Nat) (x1 : Int32) (x2 : Int32) (x4 : Int32) (μ : mz_M) (h :
    if (μ.1 p0 1 : Int32) ≤ (x4 : Int32) then
      (Q none μ)
    else
      (if (x1 : Int32) = (1 : Int32) then
        (∃ μ1, C n_Row_put [mz_R 3 p0, mz_I ((x2 * x4) * x4), mz_L 2] μ none μ1 ∧
          (v_Row_become C Q (23, [(0, mz_R 3 p0), (1, mz_I x1), (2, mz_I x2), (4, mz_I (x4 + 1))], [], μ1)))
      else
        (if (x1 : Int32) = (2 : Int32) then
          (¬ (2 : Int32) = 0 ∧ (∃ μ2, C n_Row_put [mz_R 3 p0, mz_I (((x2 * x4) * (x4 + 1)) / 2), mz_L 1] μ none μ2 ∧
            (v_Row_become C Q (23, [(0, mz_R 3 p0), (1, mz_I x1), (2, mz_I x2), (4, mz_I (x4 + 1))], [], μ2))))
        else
          (if (x1 : Int32) = (3 : Int32) then
            (if (x4 &&& 1 : Int32) = (0 : Int32) then
              (¬ (2 : Int32) = 0 ∧ (∃ μ3, C n_Row_put [mz_R 3 p0, mz_I (x2 * ((x4 * ((3 * x4) - 1)) / 2)), mz_L ((1 : Int32).toInt64)] μ none μ3 ∧
                (¬ (2 : Int32) = 0 ∧ (∃ μ4, C n_Row_put [mz_R 3 p0, mz_I (x2 * ((x4 * ((3 * x4) + 1)) / 2)), mz_L ((1 : Int32).toInt64)] μ3 none μ4 ∧
                  (v_Row_become C Q (23, [(0, mz_R 3 p0), (1, mz_I x1), (2, mz_I x2), (4, mz_I (x4 + 1))], [], μ4))))))
            else
              (¬ (2 : Int32) = 0 ∧ (∃ μ5, C n_Row_put [mz_R 3 p0, mz_I (x2 * ((x4 * ((3 * x4) - 1)) / 2)), mz_L (((-1) : Int32).toInt64)] μ none μ5 ∧
                (¬ (2 : Int32) = 0 ∧ (∃ μ6, C n_Row_put [mz_R 3 p0, mz_I (x2 * ((x4 * ((3 * x4) + 1)) / 2)), mz_L (((-1) : Int32).toInt64)] μ5 none μ6 ∧
                  (v_Row_become C Q (23, [(0, mz_R 3 p0), (1, mz_I x1), (2, mz_I x2), (4, mz_I (x4 + 1))], [], μ6)))))))
          else
            (v_Row_become C Q (23, [(0, mz_R 3 p0), (1, mz_I x1), (2, mz_I x2), (4, mz_I (x4 + 1))], [], μ)))))) :
  v_Row_become C Q (23, [(0, mz_R 3 p0), (1, mz_I x1), (2, mz_I x2), (4, mz_I x4)], [], μ) := mz_Ev.run [23] 400 h
/-! EtaSeries$Row.becomeJoined(ILEtaSeries$Row;LEtaSeries$Row;)I, number 36 -/
abbrev v_Row_becomeJoined (C : mz_Cl) (Q : Option mz_V → mz_M → Prop) : mz_S → Prop := mz_Ev es_SH tb_Row_becomeJoined C Q
set_option maxRecDepth 20000 in
set_option maxHeartbeats 4000000 in
theorem w_Row_becomeJoined_0 {C : mz_Cl} {Q : Option mz_V → mz_M → Prop} (p0 : Nat) (x1 : Int32) (p2 : Nat) (p3 : Nat) (μ : mz_M) (h :
    if (x1 : Int32) = nI 0 then
      (∃ (r2 : Int32) (μ1 : mz_M), C n_Row_sum [mz_R 3 p0, mz_R 3 p2, mz_R 3 p3, mz_I 1] μ (some (mz_I r2)) μ1 ∧
        (Q (some (mz_I r2)) μ1))
    else if (x1 : Int32) = nI 1 then
      (∃ (r4 : Int32) (μ3 : mz_M), C n_Row_sum [mz_R 3 p0, mz_R 3 p2, mz_R 3 p3, mz_I ((-1))] μ (some (mz_I r4)) μ3 ∧
        (Q (some (mz_I r4)) μ3))
    else if (x1 : Int32) = nI 2 then
      (∃ (r6 : Int32) (μ5 : mz_M), C n_Row_product [mz_R 3 p0, mz_R 3 p2, mz_R 3 p3] μ (some (mz_I r6)) μ5 ∧
        (Q (some (mz_I r6)) μ5))
    else (∃ (r8 : Int32) (μ7 : mz_M), C n_Row_ratio [mz_R 3 p0, mz_R 3 p2, mz_R 3 p3] μ (some (mz_I r8)) μ7 ∧
        (Q (some (mz_I r8)) μ7))) :
  v_Row_becomeJoined C Q (0, [(0, mz_R 3 p0), (1, mz_I x1), (2, mz_R 3 p2), (3, mz_R 3 p3)], [], μ) := mz_Ev.run [] 400 h
/-! EtaSeries$Row.sum(LEtaSeries$Row;LEtaSeries$Row;I)I, number 37 -/
abbrev v_Row_sum (C : mz_Cl) (Q : Option mz_V → mz_M → Prop) : mz_S → Prop := mz_Ev es_SH tb_Row_sum C Q
set_option maxRecDepth 20000 in
set_option maxHeartbeats 4000000 in
theorem w_Row_sum_0 {C : mz_Cl} {Q : Option mz_V → mz_M → Prop} (p0 : Nat) (p1 : Nat) (p2 : Nat) (x3 : Int32) (μ : mz_M) (h :
    ∃ (r2 : Int32) (μ1 : mz_M), C n_Math_min [mz_I (μ.1 p1 1), mz_I (μ.1 p2 1)] μ (some (mz_I r2)) μ1 ∧
      (∃ μ3, C n_Row_begin [mz_R 3 p0, mz_I r2] μ1 none μ3 ∧
        (v_Row_sum C Q (18, [(0, mz_R 3 p0), (1, mz_R 3 p1), (2, mz_R 3 p2), (3, mz_I x3), (4, mz_I 0)], [], μ3)))) :
  v_Row_sum C Q (0, [(0, mz_R 3 p0), (1, mz_R 3 p1), (2, mz_R 3 p2), (3, mz_I x3)], [], μ) := mz_Ev.run [18] 400 h
set_option maxRecDepth 20000 in
set_option maxHeartbeats 4000000 in
theorem w_Row_sum_18 {C : mz_Cl} {Q : Option mz_V → mz_M → Prop} (p0 : Nat) (p1 : Nat) (p2 : Nat) (x3 : Int32) (x4 : Int32) (μ : mz_M) (h :
    if (μ.1 p0 1 : Int32) ≤ (x4 : Int32) then
      (Q (some (mz_I 0)) μ)
    else
      (∃ (r2 : Int32) (μ1 : mz_M), C n_Row_at [mz_R 3 p1, mz_I x4] μ (some (mz_I r2)) μ1 ∧
        (∃ (r4 : Int32) (μ3 : mz_M), C n_Row_at [mz_R 3 p2, mz_I x4] μ1 (some (mz_I r4)) μ3 ∧
          (∃ (r6 : Int32) (μ5 : mz_M), C n_ES_isWide [mz_L (((r2 : Int32).toInt64) + (((x3 : Int32).toInt64) * ((r4 : Int32).toInt64)))] μ3 (some (mz_I r6)) μ5 ∧
            (if (r6 : Int32) = (0 : Int32) then
              (∃ μ7, C n_Row_put [mz_R 3 p0, mz_I x4, mz_L (((r2 : Int32).toInt64) + (((x3 : Int32).toInt64) * ((r4 : Int32).toInt64)))] μ5 none μ7 ∧
                (v_Row_sum C Q (18, [(0, mz_R 3 p0), (1, mz_R 3 p1), (2, mz_R 3 p2), (3, mz_I x3), (4, mz_I (x4 + 1))], [], μ7)))
            else
              (Q (some (mz_I ((-1000005)))) μ5)))))) :
  v_Row_sum C Q (18, [(0, mz_R 3 p0), (1, mz_R 3 p1), (2, mz_R 3 p2), (3, mz_I x3), (4, mz_I x4)], [], μ) := mz_Ev.run [18] 400 h
/-! EtaSeries$Row.product(LEtaSeries$Row;LEtaSeries$Row;)I, number 38 -/
abbrev v_Row_product (C : mz_Cl) (Q : Option mz_V → mz_M → Prop) : mz_S → Prop := mz_Ev es_SH tb_Row_product C Q
set_option maxRecDepth 20000 in
set_option maxHeartbeats 4000000 in
theorem w_Row_product_0 {C : mz_Cl} {Q : Option mz_V → mz_M → Prop} (p0 : Nat) (p1 : Nat) (p2 : Nat) (μ : mz_M) (h :
    ∃ (r2 : Int32) (μ1 : mz_M), C n_Math_min [mz_I (μ.1 p1 1), mz_I (μ.1 p2 1)] μ (some (mz_I r2)) μ1 ∧
      (∃ μ3, C n_Row_begin [mz_R 3 p0, mz_I r2] μ1 none μ3 ∧
        (v_Row_product C Q (17, [(0, mz_R 3 p0), (1, mz_R 3 p1), (2, mz_R 3 p2), (3, mz_I 0)], [], μ3)))) :
  v_Row_product C Q (0, [(0, mz_R 3 p0), (1, mz_R 3 p1), (2, mz_R 3 p2)], [], μ) := mz_Ev.run [17, 31] 400 h
set_option maxRecDepth 20000 in
set_option maxHeartbeats 4000000 in
theorem w_Row_product_17 {C : mz_Cl} {Q : Option mz_V → mz_M → Prop} (p0 : Nat) (p1 : Nat) (p2 : Nat) (x3 : Int32) (μ : mz_M) (h :
    if (μ.1 p0 1 : Int32) ≤ (x3 : Int32) then
      (Q (some (mz_I 0)) μ)
    else
      (v_Row_product C Q (31, [(0, mz_R 3 p0), (1, mz_R 3 p1), (2, mz_R 3 p2), (3, mz_I x3), (4, mz_L 0), (6, mz_I 0)], [], μ))) :
  v_Row_product C Q (17, [(0, mz_R 3 p0), (1, mz_R 3 p1), (2, mz_R 3 p2), (3, mz_I x3)], [], μ) := mz_Ev.run [17, 31] 400 h
set_option maxRecDepth 20000 in
set_option maxHeartbeats 4000000 in
theorem w_Row_product_31 {C : mz_Cl} {Q : Option mz_V → mz_M → Prop} (p0 : Nat) (p1 : Nat) (p2 : Nat) (x3 : Int32) (y4 : Int64) (x6 : Int32) (μ : mz_M) (h :
    if (x3 : Int32) < (x6 : Int32) then
      (∃ (r2 : Int32) (μ1 : mz_M), C n_ES_isWide [mz_L y4] μ (some (mz_I r2)) μ1 ∧
        (if (r2 : Int32) = (0 : Int32) then
          (∃ μ3, C n_Row_put [mz_R 3 p0, mz_I x3, mz_L y4] μ1 none μ3 ∧
            (v_Row_product C Q (17, [(0, mz_R 3 p0), (1, mz_R 3 p1), (2, mz_R 3 p2), (3, mz_I (x3 + 1))], [], μ3)))
        else
          (Q (some (mz_I ((-1000005)))) μ1)))
    else
      (vp_in x6 40 ∧ (vp_in (x3 - x6) 40 ∧ (v_Row_product C Q (31, [(0, mz_R 3 p0), (1, mz_R 3 p1), (2, mz_R 3 p2), (3, mz_I x3), (4, mz_L (y4 + (((μ.1 (p1 + 1) (x6 : Int32).toNatClampNeg : Int32).toInt64) * ((μ.1 (p2 + 1) (x3 - x6 : Int32).toNatClampNeg : Int32).toInt64)))), (6, mz_I (x6 + 1))], [], μ))))) :
  v_Row_product C Q (31, [(0, mz_R 3 p0), (1, mz_R 3 p1), (2, mz_R 3 p2), (3, mz_I x3), (4, mz_L y4), (6, mz_I x6)], [], μ) := mz_Ev.run [17, 31] 400 h
/-! EtaSeries$Row.ratio(LEtaSeries$Row;LEtaSeries$Row;)I, number 39 -/
abbrev v_Row_ratio (C : mz_Cl) (Q : Option mz_V → mz_M → Prop) : mz_S → Prop := mz_Ev es_SH tb_Row_ratio C Q
set_option maxRecDepth 20000 in
set_option maxHeartbeats 4000000 in
theorem w_Row_ratio_0 {C : mz_Cl} {Q : Option mz_V → mz_M → Prop} (p0 : Nat) (p1 : Nat) (p2 : Nat) (μ : mz_M) (h :
    ∃ (r2 : Int32) (μ1 : mz_M), C n_Row_at [mz_R 3 p2, mz_I 0] μ (some (mz_I r2)) μ1 ∧
      (if (r2 : Int32) = (1 : Int32) then
        (∃ (r4 : Int32) (μ3 : mz_M), C n_Math_min [mz_I (μ1.1 p1 1), mz_I (μ1.1 p2 1)] μ1 (some (mz_I r4)) μ3 ∧
          (∃ μ5, C n_Row_begin [mz_R 3 p0, mz_I r4] μ3 none μ5 ∧
            (v_Row_ratio C Q (37, [(0, mz_R 3 p0), (1, mz_R 3 p1), (2, mz_R 3 p2), (3, mz_I r2), (4, mz_I 0)], [], μ5))))
      else
        (if (r2 : Int32) = ((-1) : Int32) then
          (∃ (r7 : Int32) (μ6 : mz_M), C n_Math_min [mz_I (μ1.1 p1 1), mz_I (μ1.1 p2 1)] μ1 (some (mz_I r7)) μ6 ∧
            (∃ μ8, C n_Row_begin [mz_R 3 p0, mz_I r7] μ6 none μ8 ∧
              (v_Row_ratio C Q (37, [(0, mz_R 3 p0), (1, mz_R 3 p1), (2, mz_R 3 p2), (3, mz_I r2), (4, mz_I 0)], [], μ8))))
        else
          (Q (some (mz_I ((-1000006)))) μ1)))) :
  v_Row_ratio C Q (0, [(0, mz_R 3 p0), (1, mz_R 3 p1), (2, mz_R 3 p2)], [], μ) := mz_Ev.run [37, 59] 400 h
set_option maxRecDepth 20000 in
set_option maxHeartbeats 4000000 in
theorem w_Row_ratio_37 {C : mz_Cl} {Q : Option mz_V → mz_M → Prop} (p0 : Nat) (p1 : Nat) (p2 : Nat) (x3 : Int32) (x4 : Int32) (μ : mz_M) (h :
    if (μ.1 p0 1 : Int32) ≤ (x4 : Int32) then
      (Q (some (mz_I 0)) μ)
    else
      (vp_in x4 40 ∧ (v_Row_ratio C Q (59, [(0, mz_R 3 p0), (1, mz_R 3 p1), (2, mz_R 3 p2), (3, mz_I x3), (4, mz_I x4), (5, mz_L ((μ.1 (p1 + 1) (x4 : Int32).toNatClampNeg : Int32).toInt64)), (7, mz_I 1)], [], μ)))) :
  v_Row_ratio C Q (37, [(0, mz_R 3 p0), (1, mz_R 3 p1), (2, mz_R 3 p2), (3, mz_I x3), (4, mz_I x4)], [], μ) := mz_Ev.run [37, 59] 400 h
set_option maxRecDepth 20000 in
set_option maxHeartbeats 4000000 in
theorem w_Row_ratio_59 {C : mz_Cl} {Q : Option mz_V → mz_M → Prop} (p0 : Nat) (p1 : Nat) (p2 : Nat) (x3 : Int32) (x4 : Int32) (y5 : Int64) (x7 : Int32) (μ : mz_M) (h :
    if (x4 : Int32) < (x7 : Int32) then
      (∃ (r2 : Int32) (μ1 : mz_M), C n_ES_isWide [mz_L (y5 * ((x3 : Int32).toInt64))] μ (some (mz_I r2)) μ1 ∧
        (if (r2 : Int32) = (0 : Int32) then
          (∃ μ3, C n_Row_put [mz_R 3 p0, mz_I x4, mz_L (y5 * ((x3 : Int32).toInt64))] μ1 none μ3 ∧
            (v_Row_ratio C Q (37, [(0, mz_R 3 p0), (1, mz_R 3 p1), (2, mz_R 3 p2), (3, mz_I x3), (4, mz_I (x4 + 1))], [], μ3)))
        else
          (Q (some (mz_I ((-1000005)))) μ1)))
    else
      (vp_in x7 40 ∧ (vp_in (x4 - x7) 40 ∧ (v_Row_ratio C Q (59, [(0, mz_R 3 p0), (1, mz_R 3 p1), (2, mz_R 3 p2), (3, mz_I x3), (4, mz_I x4), (5, mz_L (y5 - (((μ.1 (p2 + 1) (x7 : Int32).toNatClampNeg : Int32).toInt64) * ((μ.1 (p0 + 1) (x4 - x7 : Int32).toNatClampNeg : Int32).toInt64)))), (7, mz_I (x7 + 1))], [], μ))))) :
  v_Row_ratio C Q (59, [(0, mz_R 3 p0), (1, mz_R 3 p1), (2, mz_R 3 p2), (3, mz_I x3), (4, mz_I x4), (5, mz_L y5), (7, mz_I x7)], [], μ) := mz_Ev.run [37, 59] 400 h
/-! EtaSeries$Row.becomePower(LEtaSeries$Row;ILEtaSeries$Row;)I, number 40 -/
abbrev v_Row_becomePower (C : mz_Cl) (Q : Option mz_V → mz_M → Prop) : mz_S → Prop := mz_Ev es_SH tb_Row_becomePower C Q
set_option maxRecDepth 20000 in
set_option maxHeartbeats 4000000 in
theorem w_Row_becomePower_0 {C : mz_Cl} {Q : Option mz_V → mz_M → Prop} (p0 : Nat) (p1 : Nat) (x2 : Int32) (p3 : Nat) (μ : mz_M) (h :
    ∃ μ1, C n_Row_begin [mz_R 3 p0, mz_I (μ.1 p1 1)] μ none μ1 ∧
      (∃ μ2, C n_Row_put [mz_R 3 p0, mz_I 0, mz_L 1] μ1 none μ2 ∧
        (v_Row_becomePower C Q (17, [(0, mz_R 3 p0), (1, mz_R 3 p1), (2, mz_I x2), (3, mz_R 3 p3), (4, mz_I 0)], [], μ2)))) :
  v_Row_becomePower C Q (0, [(0, mz_R 3 p0), (1, mz_R 3 p1), (2, mz_I x2), (3, mz_R 3 p3)], [], μ) := mz_Ev.run [17] 400 h
set_option maxRecDepth 20000 in
set_option maxHeartbeats 4000000 in
theorem w_Row_becomePower_17 {C : mz_Cl} {Q : Option mz_V → mz_M → Prop} (p0 : Nat) (p1 : Nat) (x2 : Int32) (p3 : Nat) (x4 : Int32) (μ : mz_M) (h :
    if (x2 : Int32) ≤ (x4 : Int32) then
      (Q (some (mz_I 0)) μ)
    else
      (∃ (r2 : Int32) (μ1 : mz_M), C n_Row_product [mz_R 3 p3, mz_R 3 p0, mz_R 3 p1] μ (some (mz_I r2)) μ1 ∧
        (if (r2 : Int32) = (0 : Int32) then
          (∃ μ3, C n_Row_take [mz_R 3 p0, mz_R 3 p3] μ1 none μ3 ∧
            (v_Row_becomePower C Q (17, [(0, mz_R 3 p0), (1, mz_R 3 p1), (2, mz_I x2), (3, mz_R 3 p3), (4, mz_I (x4 + 1))], [], μ3)))
        else
          (Q (some (mz_I r2)) μ1)))) :
  v_Row_becomePower C Q (17, [(0, mz_R 3 p0), (1, mz_R 3 p1), (2, mz_I x2), (3, mz_R 3 p3), (4, mz_I x4)], [], μ) := mz_Ev.run [17] 400 h
/-! EtaSeries$Row.becomeChanged(IILEtaSeries$Row;)I, number 41 -/
abbrev v_Row_becomeChanged (C : mz_Cl) (Q : Option mz_V → mz_M → Prop) : mz_S → Prop := mz_Ev es_SH tb_Row_becomeChanged C Q
set_option maxRecDepth 20000 in
set_option maxHeartbeats 4000000 in
theorem w_Row_becomeChanged_0 {C : mz_Cl} {Q : Option mz_V → mz_M → Prop} (p0 : Nat) (x1 : Int32) (x2 : Int32) (p3 : Nat) (μ : mz_M) (h :
    if (x1 : Int32) = (3 : Int32) then
      (¬ (10 : Int32) = 0 ∧ (¬ (10 : Int32) = 0 ∧ (∃ (r2 : Int32) (μ1 : mz_M), C n_Row_pick [mz_R 3 p0, mz_I (x2 / 10), mz_I (x2 - x2 / 10 * 10), mz_R 3 p3] μ (some (mz_I r2)) μ1 ∧
        (Q (some (mz_I r2)) μ1))))
    else
      (if (x1 : Int32) = (4 : Int32) then
        (∃ μ3, C n_Row_begin [mz_R 3 p0, mz_I x2] μ none μ3 ∧
          (v_Row_becomeChanged C Q (39, [(0, mz_R 3 p0), (1, mz_I x1), (2, mz_I x2), (3, mz_R 3 p3), (4, mz_I 0)], [], μ3)))
      else
        (∃ μ4, C n_Row_begin [mz_R 3 p0, mz_I (μ.1 p3 1)] μ none μ4 ∧
          (v_Row_becomeChanged C Q (39, [(0, mz_R 3 p0), (1, mz_I x1), (2, mz_I x2), (3, mz_R 3 p3), (4, mz_I 0)], [], μ4))))) :
  v_Row_becomeChanged C Q (0, [(0, mz_R 3 p0), (1, mz_I x1), (2, mz_I x2), (3, mz_R 3 p3)], [], μ) := mz_Ev.run [39] 400 h
set_option maxRecDepth 20000 in
set_option maxHeartbeats 4000000 in
theorem w_Row_becomeChanged_39 {C : mz_Cl} {Q : Option mz_V → mz_M → Prop} (p0 : Nat) (x1 : Int32) (x2 : Int32) (p3 : Nat) (x4 : Int32) (μ : mz_M) (h :
    if (μ.1 p3 1 : Int32) ≤ (x4 : Int32) then
      (Q (some (mz_I 0)) μ)
    else
      (∃ (r2 : Int32) (μ1 : mz_M), C n_Row_at [mz_R 3 p3, mz_I x4] μ (some (mz_I r2)) μ1 ∧
        (if (x1 : Int32) = (0 : Int32) then
          (∃ μ3, C n_Row_put [mz_R 3 p0, mz_I (x4 + x2), mz_L ((r2 : Int32).toInt64)] μ1 none μ3 ∧
            (v_Row_becomeChanged C Q (39, [(0, mz_R 3 p0), (1, mz_I x1), (2, mz_I x2), (3, mz_R 3 p3), (4, mz_I (x4 + 1))], [], μ3)))
        else
          (if (x1 : Int32) = (1 : Int32) then
            (∃ μ4, C n_Row_put [mz_R 3 p0, mz_I (x4 * x2), mz_L ((r2 : Int32).toInt64)] μ1 none μ4 ∧
              (v_Row_becomeChanged C Q (39, [(0, mz_R 3 p0), (1, mz_I x1), (2, mz_I x2), (3, mz_R 3 p3), (4, mz_I (x4 + 1))], [], μ4)))
          else
            (if (x1 : Int32) = (2 : Int32) then
              (if (x4 &&& 1 : Int32) = (0 : Int32) then
                (∃ μ5, C n_Row_put [mz_R 3 p0, mz_I x4, mz_L ((r2 : Int32).toInt64)] μ1 none μ5 ∧
                  (v_Row_becomeChanged C Q (39, [(0, mz_R 3 p0), (1, mz_I x1), (2, mz_I x2), (3, mz_R 3 p3), (4, mz_I (x4 + 1))], [], μ5)))
              else
                (∃ μ6, C n_Row_put [mz_R 3 p0, mz_I x4, mz_L (-((r2 : Int32).toInt64))] μ1 none μ6 ∧
                  (v_Row_becomeChanged C Q (39, [(0, mz_R 3 p0), (1, mz_I x1), (2, mz_I x2), (3, mz_R 3 p3), (4, mz_I (x4 + 1))], [], μ6))))
            else
              (if (x1 : Int32) = (4 : Int32) then
                (∃ μ7, C n_Row_put [mz_R 3 p0, mz_I x4, mz_L ((r2 : Int32).toInt64)] μ1 none μ7 ∧
                  (v_Row_becomeChanged C Q (39, [(0, mz_R 3 p0), (1, mz_I x1), (2, mz_I x2), (3, mz_R 3 p3), (4, mz_I (x4 + 1))], [], μ7)))
              else
                (∃ (r9 : Int32) (μ8 : mz_M), C n_ES_isWide [mz_L (((r2 : Int32).toInt64) * ((x2 : Int32).toInt64))] μ1 (some (mz_I r9)) μ8 ∧
                  (if (r9 : Int32) = (0 : Int32) then
                    (∃ μ10, C n_Row_put [mz_R 3 p0, mz_I x4, mz_L (((r2 : Int32).toInt64) * ((x2 : Int32).toInt64))] μ8 none μ10 ∧
                      (v_Row_becomeChanged C Q (39, [(0, mz_R 3 p0), (1, mz_I x1), (2, mz_I x2), (3, mz_R 3 p3), (4, mz_I (x4 + 1))], [], μ10)))
                  else
                    (Q (some (mz_I ((-1000005)))) μ8))))))))) :
  v_Row_becomeChanged C Q (39, [(0, mz_R 3 p0), (1, mz_I x1), (2, mz_I x2), (3, mz_R 3 p3), (4, mz_I x4)], [], μ) := mz_Ev.run [39] 400 h
/-! EtaSeries$Row.pick(IILEtaSeries$Row;)I, number 42 -/
abbrev v_Row_pick (C : mz_Cl) (Q : Option mz_V → mz_M → Prop) : mz_S → Prop := mz_Ev es_SH tb_Row_pick C Q
set_option maxRecDepth 20000 in
set_option maxHeartbeats 4000000 in
theorem w_Row_pick_0 {C : mz_Cl} {Q : Option mz_V → mz_M → Prop} (p0 : Nat) (x1 : Int32) (x2 : Int32) (p3 : Nat) (μ : mz_M) (h :
    if (x1 : Int32) < (1 : Int32) then
      (Q (some (mz_I ((-1000002)))) μ)
    else
      (if (x2 : Int32) < (μ.1 p3 1 : Int32) then
        (¬ (x1 : Int32) = 0 ∧ (∃ μ1, C n_Row_begin [mz_R 3 p0, mz_I (((((μ.1 p3 1) - x2) + x1) - 1) / x1)] μ none μ1 ∧
          (v_Row_pick C Q (35, [(0, mz_R 3 p0), (1, mz_I x1), (2, mz_I x2), (3, mz_R 3 p3), (4, mz_I 0)], [], μ1))))
      else
        (Q (some (mz_I ((-1000002)))) μ))) :
  v_Row_pick C Q (0, [(0, mz_R 3 p0), (1, mz_I x1), (2, mz_I x2), (3, mz_R 3 p3)], [], μ) := mz_Ev.run [35] 400 h
set_option maxRecDepth 20000 in
set_option maxHeartbeats 4000000 in
theorem w_Row_pick_35 {C : mz_Cl} {Q : Option mz_V → mz_M → Prop} (p0 : Nat) (x1 : Int32) (x2 : Int32) (p3 : Nat) (x4 : Int32) (μ : mz_M) (h :
    if (μ.1 p0 1 : Int32) ≤ (x4 : Int32) then
      (Q (some (mz_I 0)) μ)
    else
      (∃ (r2 : Int32) (μ1 : mz_M), C n_Row_at [mz_R 3 p3, mz_I (x2 + (x4 * x1))] μ (some (mz_I r2)) μ1 ∧
        (∃ μ3, C n_Row_put [mz_R 3 p0, mz_I x4, mz_L ((r2 : Int32).toInt64)] μ1 none μ3 ∧
          (v_Row_pick C Q (35, [(0, mz_R 3 p0), (1, mz_I x1), (2, mz_I x2), (3, mz_R 3 p3), (4, mz_I (x4 + 1))], [], μ3))))) :
  v_Row_pick C Q (35, [(0, mz_R 3 p0), (1, mz_I x1), (2, mz_I x2), (3, mz_R 3 p3), (4, mz_I x4)], [], μ) := mz_Ev.run [35] 400 h
/-! EtaSeries$Shelf.take(LEtaSeries$Shelf;)V, number 43 -/
abbrev v_Shelf_take (C : mz_Cl) (Q : Option mz_V → mz_M → Prop) : mz_S → Prop := mz_Ev es_SH tb_Shelf_take C Q
set_option maxRecDepth 20000 in
set_option maxHeartbeats 4000000 in
theorem w_Shelf_take_0 {C : mz_Cl} {Q : Option mz_V → mz_M → Prop} (p0 : Nat) (p1 : Nat) (μ : mz_M) (h :
    v_Shelf_take C Q (2, [(0, mz_R 1 p0), (1, mz_R 1 p1), (2, mz_I 0)], [], μ)) :
  v_Shelf_take C Q (0, [(0, mz_R 1 p0), (1, mz_R 1 p1)], [], μ) := mz_Ev.run [2] 400 h
set_option maxRecDepth 20000 in
set_option maxHeartbeats 4000000 in
theorem w_Shelf_take_2 {C : mz_Cl} {Q : Option mz_V → mz_M → Prop} (p0 : Nat) (p1 : Nat) (x2 : Int32) (μ : mz_M) (h :
    if (nI 4 : Int32) ≤ (x2 : Int32) then
      (Q none (mz_wI (mz_wI μ p0 1 (μ.1 p1 1)) p0 2 ((mz_wI μ p0 1 (μ.1 p1 1)).1 p1 2)))
    else
      (vp_in x2 4 ∧ (vp_in x2 4 ∧ (∃ μ1, C n_Row_take [mz_R 3 (((p0 + 1) + 1) + 2 * (x2 : Int32).toNatClampNeg), mz_R 3 (((p1 + 1) + 1) + 2 * (x2 : Int32).toNatClampNeg)] μ none μ1 ∧
        (v_Shelf_take C Q (2, [(0, mz_R 1 p0), (1, mz_R 1 p1), (2, mz_I (x2 + 1))], [], μ1)))))) :
  v_Shelf_take C Q (2, [(0, mz_R 1 p0), (1, mz_R 1 p1), (2, mz_I x2)], [], μ) := mz_Ev.run [2] 400 h
/-! EtaSeries$Shelf.isMissing(I)Z, number 44 -/
abbrev v_Shelf_isMissing (C : mz_Cl) (Q : Option mz_V → mz_M → Prop) : mz_S → Prop := mz_Ev es_SH tb_Shelf_isMissing C Q
set_option maxRecDepth 20000 in
set_option maxHeartbeats 4000000 in
theorem w_Shelf_isMissing_0 {C : mz_Cl} {Q : Option mz_V → mz_M → Prop} (p0 : Nat) (x1 : Int32) (μ : mz_M) (h :
    ∃ (r2 : Int32) (μ1 : mz_M), C n_ES_isOneOfFour [mz_I x1] μ (some (mz_I r2)) μ1 ∧
      (if (r2 : Int32) = (0 : Int32) then
        (((1 : Int32) = 0 ∨ (1 : Int32) = 1) ∧ Q (some (mz_I 1)) μ1)
      else
        (vp_in x1 4 ∧ (if (μ1.1 (((p0 + 1) + 1) + 2 * (x1 : Int32).toNatClampNeg) 1 : Int32) = (0 : Int32) then
          (((1 : Int32) = 0 ∨ (1 : Int32) = 1) ∧ Q (some (mz_I 1)) μ1)
        else
          (((0 : Int32) = 0 ∨ (0 : Int32) = 1) ∧ Q (some (mz_I 0)) μ1))))) :
  v_Shelf_isMissing C Q (0, [(0, mz_R 1 p0), (1, mz_I x1)], [], μ) := mz_Ev.run [] 400 h
/-! EtaSeries$Shelf.present()I, number 45 -/
abbrev v_Shelf_present (C : mz_Cl) (Q : Option mz_V → mz_M → Prop) : mz_S → Prop := mz_Ev es_SH tb_Shelf_present C Q
set_option maxRecDepth 20000 in
set_option maxHeartbeats 4000000 in
theorem w_Shelf_present_0 {C : mz_Cl} {Q : Option mz_V → mz_M → Prop} (p0 : Nat) (μ : mz_M) (h :
    v_Shelf_present C Q (4, [(0, mz_R 1 p0), (1, mz_I 0), (2, mz_I 0)], [], μ)) :
  v_Shelf_present C Q (0, [(0, mz_R 1 p0)], [], μ) := mz_Ev.run [4] 400 h
set_option maxRecDepth 20000 in
set_option maxHeartbeats 4000000 in
theorem w_Shelf_present_4 {C : mz_Cl} {Q : Option mz_V → mz_M → Prop} (p0 : Nat) (x1 : Int32) (x2 : Int32) (μ : mz_M) (h :
    if (nI 4 : Int32) ≤ (x2 : Int32) then
      (Q (some (mz_I x1)) μ)
    else
      (vp_in x2 4 ∧ (if (μ.1 (((p0 + 1) + 1) + 2 * (x2 : Int32).toNatClampNeg) 1 : Int32) ≤ (0 : Int32) then
        (v_Shelf_present C Q (4, [(0, mz_R 1 p0), (1, mz_I x1), (2, mz_I (x2 + 1))], [], μ))
      else
        (v_Shelf_present C Q (4, [(0, mz_R 1 p0), (1, mz_I (x1 ||| (1 <<< (x2 &&& 31)))), (2, mz_I (x2 + 1))], [], μ))))) :
  v_Shelf_present C Q (4, [(0, mz_R 1 p0), (1, mz_I x1), (2, mz_I x2)], [], μ) := mz_Ev.run [4] 400 h
/-! EtaSeries$Shelf.turnDraw()V, number 46 -/
abbrev v_Shelf_turnDraw (C : mz_Cl) (Q : Option mz_V → mz_M → Prop) : mz_S → Prop := mz_Ev es_SH tb_Shelf_turnDraw C Q
set_option maxRecDepth 20000 in
set_option maxHeartbeats 4000000 in
theorem w_Shelf_turnDraw_0 {C : mz_Cl} {Q : Option mz_V → mz_M → Prop} (p0 : Nat) (μ : mz_M) (h :
    ¬ (65536 : Int32) = 0 ∧ (∃ (r2 : Int32) (μ1 : mz_M), C n_Math_floorMod [mz_I (((mz_wI μ p0 2 ((((((μ.1 p0 2 : Int32).toInt64) * 1103515245) + 12345) &&& 2147483647 : Int64).toInt32)).1 p0 2) / 65536), mz_I 4] (mz_wI μ p0 2 ((((((μ.1 p0 2 : Int32).toInt64) * 1103515245) + 12345) &&& 2147483647 : Int64).toInt32)) (some (mz_I r2)) μ1 ∧
      (vp_in r2 4 ∧ (¬ (4 : Int32) = 0 ∧ (¬ (3 : Int32) = 0 ∧ (¬ (16 : Int32) = 0 ∧ (¬ (9 : Int32) = 0 ∧ (∃ μ3, C n_Row_become [mz_R 3 (((p0 + 1) + 1) + 2 * (r2 : Int32).toNatClampNeg), mz_I (1 + (((((mz_wI μ p0 2 ((((((μ.1 p0 2 : Int32).toInt64) * 1103515245) + 12345) &&& 2147483647 : Int64).toInt32)).1 p0 2) / 65536) / 4) - ((((mz_wI μ p0 2 ((((((μ.1 p0 2 : Int32).toInt64) * 1103515245) + 12345) &&& 2147483647 : Int64).toInt32)).1 p0 2) / 65536) / 4) / 3 * 3)), mz_I ((((((mz_wI μ p0 2 ((((((μ.1 p0 2 : Int32).toInt64) * 1103515245) + 12345) &&& 2147483647 : Int64).toInt32)).1 p0 2) / 65536) / 16) - ((((mz_wI μ p0 2 ((((((μ.1 p0 2 : Int32).toInt64) * 1103515245) + 12345) &&& 2147483647 : Int64).toInt32)).1 p0 2) / 65536) / 16) / 9 * 9) + 1), mz_I (μ1.1 p0 1)] μ1 none μ3 ∧
        (Q none μ3))))))))) :
  v_Shelf_turnDraw C Q (0, [(0, mz_R 1 p0)], [], μ) := mz_Ev.run [] 400 h
end
section
/-! What the stretches of the methods ask: by program, closed by evaluation. -/
/-! EtaSeries$Leaf.hold(II)V, number 4 -/
abbrev v_Leaf_hold (C : mz_Cl) (Q : Option mz_V → mz_M → Prop) : mz_S → Prop := mz_Ev es_SH tb_Leaf_hold C Q
set_option maxRecDepth 20000 in
set_option maxHeartbeats 4000000 in
theorem w_Leaf_hold_0 {C : mz_Cl} {Q : Option mz_V → mz_M → Prop} (p0 : Nat) (x1 : Int32) (x2 : Int32) (μ : mz_M) (h :
    ((1 : Int32) = 0 ∨ (1 : Int32) = 1) ∧ (∃ (r2 : Int32) (μ1 : mz_M), C n_Math_min [mz_I x2, mz_I (nI 40)] (mz_wI (mz_wI μ p0 1 1) p0 2 x1) (some (mz_I r2)) μ1 ∧
      (∃ (r4 : Int32) (μ3 : mz_M), C n_Math_max [mz_I 0, mz_I r2] μ1 (some (mz_I r4)) μ3 ∧
        (v_Leaf_hold C Q (29, [(0, mz_R 14 p0), (3, mz_I 0)], [], mz_wI μ3 p0 3 r4))))) :
  v_Leaf_hold C Q (0, [(0, mz_R 14 p0), (1, mz_I x1), (2, mz_I x2)], [], μ) := mz_Ev.run [29] 400 h
set_option maxRecDepth 20000 in
set_option maxHeartbeats 4000000 in
theorem w_Leaf_hold_29 {C : mz_Cl} {Q : Option mz_V → mz_M → Prop} (p0 : Nat) (x3 : Int32) (μ : mz_M) (h :
    if (nI 40 : Int32) ≤ (x3 : Int32) then
      (Q none μ)
    else
      (vp_in x3 40 ∧ (v_Leaf_hold C Q (29, [(0, mz_R 14 p0), (3, mz_I (x3 + 1))], [], mz_wL μ (p0 + 1) (x3 : Int32).toNatClampNeg 0)))) :
  v_Leaf_hold C Q (29, [(0, mz_R 14 p0), (3, mz_I x3)], [], μ) := mz_Ev.run [29] 400 h
/-! EtaSeries$Leaf.hasItems(II)Z, number 5 -/
abbrev v_Leaf_hasItems (C : mz_Cl) (Q : Option mz_V → mz_M → Prop) : mz_S → Prop := mz_Ev es_SH tb_Leaf_hasItems C Q
set_option maxRecDepth 20000 in
set_option maxHeartbeats 4000000 in
theorem w_Leaf_hasItems_0 {C : mz_Cl} {Q : Option mz_V → mz_M → Prop} (p0 : Nat) (x1 : Int32) (x2 : Int32) (μ : mz_M) (h :
    if (x1 : Int32) < (0 : Int32) then
      (((0 : Int32) = 0 ∨ (0 : Int32) = 1) ∧ Q (some (mz_I 0)) μ)
    else
      (if (x2 : Int32) < (0 : Int32) then
        (((0 : Int32) = 0 ∨ (0 : Int32) = 1) ∧ Q (some (mz_I 0)) μ)
      else
        (if (0 : Int32) < (lg_cmp (((x1 : Int32).toInt64) + ((x2 : Int32).toInt64)) ((μ.1 p0 3 : Int32).toInt64) : Int32) then
          (((0 : Int32) = 0 ∨ (0 : Int32) = 1) ∧ Q (some (mz_I 0)) μ)
        else
          (((1 : Int32) = 0 ∨ (1 : Int32) = 1) ∧ Q (some (mz_I 1)) μ)))) :
  v_Leaf_hasItems C Q (0, [(0, mz_R 14 p0), (1, mz_I x1), (2, mz_I x2)], [], μ) := mz_Ev.run [] 400 h
/-! EtaSeries$Leaf.refuse(III)I, number 6 -/
abbrev v_Leaf_refuse (C : mz_Cl) (Q : Option mz_V → mz_M → Prop) : mz_S → Prop := mz_Ev es_SH tb_Leaf_refuse C Q
set_option maxRecDepth 20000 in
set_option maxHeartbeats 4000000 in
theorem w_Leaf_refuse_0 {C : mz_Cl} {Q : Option mz_V → mz_M → Prop} (p0 : Nat) (x1 : Int32) (x2 : Int32) (x3 : Int32) (μ : mz_M) (h :
    if (μ.1 p0 1 : Int32) = (0 : Int32) then
      (Q (some (mz_I ((-1000011)))) μ)
    else
      (if (μ.1 p0 2 : Int32) = (x1 : Int32) then
        (∃ (r2 : Int32) (μ1 : mz_M), C n_Leaf_hasItems [mz_R 14 p0, mz_I x2, mz_I x3] μ (some (mz_I r2)) μ1 ∧
          (if (r2 : Int32) = (0 : Int32) then
            (Q (some (mz_I ((-1000013)))) μ1)
          else
            (Q (some (mz_I 0)) μ1)))
      else
        (Q (some (mz_I ((-1000012)))) μ))) :
  v_Leaf_refuse C Q (0, [(0, mz_R 14 p0), (1, mz_I x1), (2, mz_I x2), (3, mz_I x3)], [], μ) := mz_Ev.run [] 400 h
/-! EtaSeries$Leaf.refusePairs(III)I, number 7 -/
abbrev v_Leaf_refusePairs (C : mz_Cl) (Q : Option mz_V → mz_M → Prop) : mz_S → Prop := mz_Ev es_SH tb_Leaf_refusePairs C Q
set_option maxRecDepth 20000 in
set_option maxHeartbeats 4000000 in
theorem w_Leaf_refusePairs_0 {C : mz_Cl} {Q : Option mz_V → mz_M → Prop} (p0 : Nat) (x1 : Int32) (x2 : Int32) (x3 : Int32) (μ : mz_M) (h :
    ∃ (r2 : Int32) (μ1 : mz_M), C n_Leaf_refuse [mz_R 14 p0, mz_I x1, mz_I x2, mz_I (2 * x3)] μ (some (mz_I r2)) μ1 ∧
      (v_Leaf_refusePairs C Q (14, [(0, mz_R 14 p0), (2, mz_I x2), (3, mz_I x3), (4, mz_I r2), (5, mz_I 0)], [], μ1))) :
  v_Leaf_refusePairs C Q (0, [(0, mz_R 14 p0), (1, mz_I x1), (2, mz_I x2), (3, mz_I x3)], [], μ) := mz_Ev.run [14] 400 h
set_option maxRecDepth 20000 in
set_option maxHeartbeats 4000000 in
theorem w_Leaf_refusePairs_14 {C : mz_Cl} {Q : Option mz_V → mz_M → Prop} (p0 : Nat) (x2 : Int32) (x3 : Int32) (x4 : Int32) (x5 : Int32) (μ : mz_M) (h :
    if (x3 : Int32) ≤ (x5 : Int32) then
      (Q (some (mz_I x4)) μ)
    else
      (if (x4 : Int32) = (0 : Int32) then
        (∃ (r2 : Int64) (μ1 : mz_M), C n_Leaf_at [mz_R 14 p0, mz_I (x2 + (2 * x5))] μ (some (mz_L r2)) μ1 ∧
          (∃ (r4 : Int64) (μ3 : mz_M), C n_Leaf_at [mz_R 14 p0, mz_I ((x2 + (2 * x5)) + 1)] μ1 (some (mz_L r4)) μ3 ∧
            (if (lg_cmp r2 1 : Int32) < (0 : Int32) then
              (v_Leaf_refusePairs C Q (14, [(0, mz_R 14 p0), (2, mz_I x2), (3, mz_I x3), (4, mz_I ((-1000002))), (5, mz_I (x5 + 1))], [], μ3))
            else
              (if (0 : Int32) < (lg_cmp r2 12 : Int32) then
                (v_Leaf_refusePairs C Q (14, [(0, mz_R 14 p0), (2, mz_I x2), (3, mz_I x3), (4, mz_I ((-1000002))), (5, mz_I (x5 + 1))], [], μ3))
              else
                (if (lg_cmp r4 ((-9)) : Int32) < (0 : Int32) then
                  (v_Leaf_refusePairs C Q (14, [(0, mz_R 14 p0), (2, mz_I x2), (3, mz_I x3), (4, mz_I ((-1000002))), (5, mz_I (x5 + 1))], [], μ3))
                else
                  (if (lg_cmp r4 9 : Int32) ≤ (0 : Int32) then
                    (v_Leaf_refusePairs C Q (14, [(0, mz_R 14 p0), (2, mz_I x2), (3, mz_I x3), (4, mz_I x4), (5, mz_I (x5 + 1))], [], μ3))
                  else
                    (v_Leaf_refusePairs C Q (14, [(0, mz_R 14 p0), (2, mz_I x2), (3, mz_I x3), (4, mz_I ((-1000002))), (5, mz_I (x5 + 1))], [], μ3))))))))
      else
        (Q (some (mz_I x4)) μ))) :
  v_Leaf_refusePairs C Q (14, [(0, mz_R 14 p0), (2, mz_I x2), (3, mz_I x3), (4, mz_I x4), (5, mz_I x5)], [], μ) := mz_Ev.run [14] 400 h
/-! EtaSeries$Leaf.at(I)J, number 8 -/
abbrev v_Leaf_at (C : mz_Cl) (Q : Option mz_V → mz_M → Prop) : mz_S → Prop := mz_Ev es_SH tb_Leaf_at C Q
set_option maxRecDepth 20000 in
set_option maxHeartbeats 4000000 in
theorem w_Leaf_at_0 {C : mz_Cl} {Q : Option mz_V → mz_M → Prop} (p0 : Nat) (x1 : Int32) (μ : mz_M) (h :
    if (x1 : Int32) < (0 : Int32) then
      (Q (some (mz_L 0)) μ)
    else
      (if (μ.1 p0 3 : Int32) ≤ (x1 : Int32) then
        (Q (some (mz_L 0)) μ)
      else
        (vp_in x1 40 ∧ (Q (some (mz_L (μ.2 (p0 + 1) (x1 : Int32).toNatClampNeg))) μ)))) :
  v_Leaf_at C Q (0, [(0, mz_R 14 p0), (1, mz_I x1)], [], μ) := mz_Ev.run [] 400 h
/-! EtaSeries$Leaf.put(IJ)V, number 9 -/
abbrev v_Leaf_put (C : mz_Cl) (Q : Option mz_V → mz_M → Prop) : mz_S → Prop := mz_Ev es_SH tb_Leaf_put C Q
set_option maxRecDepth 20000 in
set_option maxHeartbeats 4000000 in
theorem w_Leaf_put_0 {C : mz_Cl} {Q : Option mz_V → mz_M → Prop} (p0 : Nat) (x1 : Int32) (y2 : Int64) (μ : mz_M) (h :
    if (x1 : Int32) < (0 : Int32) then
      (Q none μ)
    else
      (if (x1 : Int32) < (μ.1 p0 3 : Int32) then
        (if (μ.1 p0 2 : Int32) = nI 0 then
          (vp_in x1 40 ∧ (Q none (mz_wL μ (p0 + 1) (x1 : Int32).toNatClampNeg ((((y2 : Int64).toInt32 : Int32).toInt8.toInt32 : Int32).toInt64))))
        else if (μ.1 p0 2 : Int32) = nI 1 then
          (vp_in x1 40 ∧ (Q none (mz_wL μ (p0 + 1) (x1 : Int32).toNatClampNeg ((((y2 : Int64).toInt32 : Int32).toInt16.toInt32 : Int32).toInt64))))
        else if (μ.1 p0 2 : Int32) = nI 2 then
          (vp_in x1 40 ∧ (Q none (mz_wL μ (p0 + 1) (x1 : Int32).toNatClampNeg (((y2 : Int64).toInt32 : Int32).toInt64))))
        else (vp_in x1 40 ∧ (Q none (mz_wL μ (p0 + 1) (x1 : Int32).toNatClampNeg y2))))
      else
        (Q none μ))) :
  v_Leaf_put C Q (0, [(0, mz_R 14 p0), (1, mz_I x1), (2, mz_L y2)], [], μ) := mz_Ev.run [] 400 h
/-! EtaSeries$Leaf.begins(IILEtaSeries$Row;)Z, number 10 -/
abbrev v_Leaf_begins (C : mz_Cl) (Q : Option mz_V → mz_M → Prop) : mz_S → Prop := mz_Ev es_SH tb_Leaf_begins C Q
set_option maxRecDepth 20000 in
set_option maxHeartbeats 4000000 in
theorem w_Leaf_begins_0 {C : mz_Cl} {Q : Option mz_V → mz_M → Prop} (p0 : Nat) (x1 : Int32) (x2 : Int32) (p3 : Nat) (μ : mz_M) (h :
    v_Leaf_begins C Q (3, [(0, mz_R 14 p0), (1, mz_I x1), (2, mz_I x2), (3, mz_R 3 p3), (4, mz_I 0)], [], μ)) :
  v_Leaf_begins C Q (0, [(0, mz_R 14 p0), (1, mz_I x1), (2, mz_I x2), (3, mz_R 3 p3)], [], μ) := mz_Ev.run [3] 400 h
set_option maxRecDepth 20000 in
set_option maxHeartbeats 4000000 in
theorem w_Leaf_begins_3 {C : mz_Cl} {Q : Option mz_V → mz_M → Prop} (p0 : Nat) (x1 : Int32) (x2 : Int32) (p3 : Nat) (x4 : Int32) (μ : mz_M) (h :
    if (x2 : Int32) ≤ (x4 : Int32) then
      (if (μ.1 p3 1 : Int32) < (x2 : Int32) then
        (((0 : Int32) = 0 ∨ (0 : Int32) = 1) ∧ Q (some (mz_I 0)) μ)
      else
        (((1 : Int32) = 0 ∨ (1 : Int32) = 1) ∧ Q (some (mz_I 1)) μ))
    else
      (∃ (r2 : Int64) (μ1 : mz_M), C n_Leaf_at [mz_R 14 p0, mz_I (x1 + x4)] μ (some (mz_L r2)) μ1 ∧
        (∃ (r4 : Int32) (μ3 : mz_M), C n_Row_at [mz_R 3 p3, mz_I x4] μ1 (some (mz_I r4)) μ3 ∧
          (if (lg_cmp r2 ((r4 : Int32).toInt64) : Int32) = (0 : Int32) then
            (v_Leaf_begins C Q (3, [(0, mz_R 14 p0), (1, mz_I x1), (2, mz_I x2), (3, mz_R 3 p3), (4, mz_I (x4 + 1))], [], μ3))
          else
            (((0 : Int32) = 0 ∨ (0 : Int32) = 1) ∧ Q (some (mz_I 0)) μ3))))) :
  v_Leaf_begins C Q (3, [(0, mz_R 14 p0), (1, mz_I x1), (2, mz_I x2), (3, mz_R 3 p3), (4, mz_I x4)], [], μ) := mz_Ev.run [3] 400 h
/-! EtaSeries$Leaf.divisor(II)I, number 11 -/
abbrev v_Leaf_divisor (C : mz_Cl) (Q : Option mz_V → mz_M → Prop) : mz_S → Prop := mz_Ev es_SH tb_Leaf_divisor C Q
set_option maxRecDepth 20000 in
set_option maxHeartbeats 4000000 in
theorem w_Leaf_divisor_0 {C : mz_Cl} {Q : Option mz_V → mz_M → Prop} (p0 : Nat) (x1 : Int32) (x2 : Int32) (μ : mz_M) (h :
    ∃ (r2 : Int64) (μ1 : mz_M), C n_Leaf_at [mz_R 14 p0, mz_I (x1 + (2 * x2))] μ (some (mz_L r2)) μ1 ∧
      (Q (some (mz_I ((r2 : Int64).toInt32))) μ1)) :
  v_Leaf_divisor C Q (0, [(0, mz_R 14 p0), (1, mz_I x1), (2, mz_I x2)], [], μ) := mz_Ev.run [] 400 h
/-! EtaSeries$Leaf.exponent(II)I, number 12 -/
abbrev v_Leaf_exponent (C : mz_Cl) (Q : Option mz_V → mz_M → Prop) : mz_S → Prop := mz_Ev es_SH tb_Leaf_exponent C Q
set_option maxRecDepth 20000 in
set_option maxHeartbeats 4000000 in
theorem w_Leaf_exponent_0 {C : mz_Cl} {Q : Option mz_V → mz_M → Prop} (p0 : Nat) (x1 : Int32) (x2 : Int32) (μ : mz_M) (h :
    ∃ (r2 : Int64) (μ1 : mz_M), C n_Leaf_at [mz_R 14 p0, mz_I ((x1 + (2 * x2)) + 1)] μ (some (mz_L r2)) μ1 ∧
      (Q (some (mz_I ((r2 : Int64).toInt32))) μ1)) :
  v_Leaf_exponent C Q (0, [(0, mz_R 14 p0), (1, mz_I x1), (2, mz_I x2)], [], μ) := mz_Ev.run [] 400 h
/-! EtaSeries$Leaf.weight(II)I, number 13 -/
abbrev v_Leaf_weight (C : mz_Cl) (Q : Option mz_V → mz_M → Prop) : mz_S → Prop := mz_Ev es_SH tb_Leaf_weight C Q
set_option maxRecDepth 20000 in
set_option maxHeartbeats 4000000 in
theorem w_Leaf_weight_0 {C : mz_Cl} {Q : Option mz_V → mz_M → Prop} (p0 : Nat) (x1 : Int32) (x2 : Int32) (μ : mz_M) (h :
    v_Leaf_weight C Q (5, [(0, mz_R 14 p0), (1, mz_I x1), (2, mz_I x2), (3, mz_I 0), (4, mz_I 0)], [], μ)) :
  v_Leaf_weight C Q (0, [(0, mz_R 14 p0), (1, mz_I x1), (2, mz_I x2)], [], μ) := mz_Ev.run [5] 400 h
set_option maxRecDepth 20000 in
set_option maxHeartbeats 4000000 in
theorem w_Leaf_weight_5 {C : mz_Cl} {Q : Option mz_V → mz_M → Prop} (p0 : Nat) (x1 : Int32) (x2 : Int32) (x3 : Int32) (x4 : Int32) (μ : mz_M) (h :
    if (x2 : Int32) ≤ (x4 : Int32) then
      (Q (some (mz_I x3)) μ)
    else
      (∃ (r2 : Int32) (μ1 : mz_M), C n_Leaf_exponent [mz_R 14 p0, mz_I x1, mz_I x4] μ (some (mz_I r2)) μ1 ∧
        (v_Leaf_weight C Q (5, [(0, mz_R 14 p0), (1, mz_I x1), (2, mz_I x2), (3, mz_I (x3 + r2)), (4, mz_I (x4 + 1))], [], μ1)))) :
  v_Leaf_weight C Q (5, [(0, mz_R 14 p0), (1, mz_I x1), (2, mz_I x2), (3, mz_I x3), (4, mz_I x4)], [], μ) := mz_Ev.run [5] 400 h
/-! EtaSeries$Leaf.level(II)I, number 14 -/
abbrev v_Leaf_level (C : mz_Cl) (Q : Option mz_V → mz_M → Prop) : mz_S → Prop := mz_Ev es_SH tb_Leaf_level C Q
set_option maxRecDepth 20000 in
set_option maxHeartbeats 4000000 in
theorem w_Leaf_level_0 {C : mz_Cl} {Q : Option mz_V → mz_M → Prop} (p0 : Nat) (x1 : Int32) (x2 : Int32) (μ : mz_M) (h :
    v_Leaf_level C Q (2, [(0, mz_R 14 p0), (1, mz_I x1), (2, mz_I x2), (3, mz_I 1)], [], μ)) :
  v_Leaf_level C Q (0, [(0, mz_R 14 p0), (1, mz_I x1), (2, mz_I x2)], [], μ) := mz_Ev.run [2] 400 h
set_option maxRecDepth 20000 in
set_option maxHeartbeats 4000000 in
theorem w_Leaf_level_2 {C : mz_Cl} {Q : Option mz_V → mz_M → Prop} (p0 : Nat) (x1 : Int32) (x2 : Int32) (x3 : Int32) (μ : mz_M) (h :
    if (600 : Int32) < (x3 : Int32) then
      (Q (some (mz_I ((-1000004)))) μ)
    else
      (∃ (r2 : Int32) (μ1 : mz_M), C n_Leaf_isLevel [mz_R 14 p0, mz_I x3, mz_I x1, mz_I x2] μ (some (mz_I r2)) μ1 ∧
        (if (r2 : Int32) = (0 : Int32) then
          (v_Leaf_level C Q (2, [(0, mz_R 14 p0), (1, mz_I x1), (2, mz_I x2), (3, mz_I (x3 + 1))], [], μ1))
        else
          (Q (some (mz_I x3)) μ1)))) :
  v_Leaf_level C Q (2, [(0, mz_R 14 p0), (1, mz_I x1), (2, mz_I x2), (3, mz_I x3)], [], μ) := mz_Ev.run [2] 400 h
/-! EtaSeries$Leaf.isLevel(III)Z, number 15 -/
abbrev v_Leaf_isLevel (C : mz_Cl) (Q : Option mz_V → mz_M → Prop) : mz_S → Prop := mz_Ev es_SH tb_Leaf_isLevel C Q
set_option maxRecDepth 20000 in
set_option maxHeartbeats 4000000 in
theorem w_Leaf_isLevel_0 {C : mz_Cl} {Q : Option mz_V → mz_M → Prop} (p0 : Nat) (x1 : Int32) (x2 : Int32) (x3 : Int32) (μ : mz_M) (h :
    v_Leaf_isLevel C Q (9, [(0, mz_R 14 p0), (1, mz_I x1), (2, mz_I x2), (3, mz_I x3), (4, mz_I 0), (5, mz_I 0), (6, mz_I 0)], [], μ)) :
  v_Leaf_isLevel C Q (0, [(0, mz_R 14 p0), (1, mz_I x1), (2, mz_I x2), (3, mz_I x3)], [], μ) := mz_Ev.run [9] 400 h
set_option maxRecDepth 20000 in
set_option maxHeartbeats 4000000 in
theorem w_Leaf_isLevel_9 {C : mz_Cl} {Q : Option mz_V → mz_M → Prop} (p0 : Nat) (x1 : Int32) (x2 : Int32) (x3 : Int32) (x4 : Int32) (x5 : Int32) (x6 : Int32) (μ : mz_M) (h :
    if (x3 : Int32) ≤ (x6 : Int32) then
      (¬ (24 : Int32) = 0 ∧ (if (x4 - x4 / 24 * 24 : Int32) = (0 : Int32) then
        (¬ (24 : Int32) = 0 ∧ (if (x5 - x5 / 24 * 24 : Int32) = (0 : Int32) then
          (((1 : Int32) = 0 ∨ (1 : Int32) = 1) ∧ Q (some (mz_I 1)) μ)
        else
          (((0 : Int32) = 0 ∨ (0 : Int32) = 1) ∧ Q (some (mz_I 0)) μ)))
      else
        (((0 : Int32) = 0 ∨ (0 : Int32) = 1) ∧ Q (some (mz_I 0)) μ)))
    else
      (∃ (r2 : Int32) (μ1 : mz_M), C n_Leaf_divisor [mz_R 14 p0, mz_I x2, mz_I x6] μ (some (mz_I r2)) μ1 ∧
        (∃ (r4 : Int32) (μ3 : mz_M), C n_Leaf_exponent [mz_R 14 p0, mz_I x2, mz_I x6] μ1 (some (mz_I r4)) μ3 ∧
          (if (r4 : Int32) = (0 : Int32) then
            (v_Leaf_isLevel C Q (9, [(0, mz_R 14 p0), (1, mz_I x1), (2, mz_I x2), (3, mz_I x3), (4, mz_I x4), (5, mz_I x5), (6, mz_I (x6 + 1))], [], μ3))
          else
            (if (r2 : Int32) < (1 : Int32) then
              (((0 : Int32) = 0 ∨ (0 : Int32) = 1) ∧ Q (some (mz_I 0)) μ3)
            else
              (¬ (r2 : Int32) = 0 ∧ (if (x1 - x1 / r2 * r2 : Int32) = (0 : Int32) then
                (¬ (r2 : Int32) = 0 ∧ (v_Leaf_isLevel C Q (9, [(0, mz_R 14 p0), (1, mz_I x1), (2, mz_I x2), (3, mz_I x3), (4, mz_I (x4 + (r2 * r4))), (5, mz_I (x5 + ((x1 / r2) * r4))), (6, mz_I (x6 + 1))], [], μ3)))
              else
                (((0 : Int32) = 0 ∨ (0 : Int32) = 1) ∧ Q (some (mz_I 0)) μ3)))))))) :
  v_Leaf_isLevel C Q (9, [(0, mz_R 14 p0), (1, mz_I x1), (2, mz_I x2), (3, mz_I x3), (4, mz_I x4), (5, mz_I x5), (6, mz_I x6)], [], μ) := mz_Ev.run [9] 400 h
/-! EtaSeries$Leaf.bound(II)I, number 16 -/
abbrev v_Leaf_bound (C : mz_Cl) (Q : Option mz_V → mz_M → Prop) : mz_S → Prop := mz_Ev es_SH tb_Leaf_bound C Q
set_option maxRecDepth 20000 in
set_option maxHeartbeats 4000000 in
theorem w_Leaf_bound_0 {C : mz_Cl} {Q : Option mz_V → mz_M → Prop} (p0 : Nat) (x1 : Int32) (x2 : Int32) (μ : mz_M) (h :
    ∃ (r2 : Int32) (μ1 : mz_M), C n_Leaf_weight [mz_R 14 p0, mz_I x1, mz_I x2] μ (some (mz_I r2)) μ1 ∧
      (∃ (r4 : Int32) (μ3 : mz_M), C n_Leaf_level [mz_R 14 p0, mz_I x1, mz_I x2] μ1 (some (mz_I r4)) μ3 ∧
        (if (r4 : Int32) = ((-1000004) : Int32) then
          (Q (some (mz_I ((-1000004)))) μ3)
        else
          (if (0 : Int32) ≤ (r2 : Int32) then
            (∃ (r6 : Int32) (μ5 : mz_M), C n_Leaf_indexOf [mz_I r4] μ3 (some (mz_I r6)) μ5 ∧
              (¬ (24 : Int32) = 0 ∧ (Q (some (mz_I (((r2 * r6) / 24) + 1))) μ5)))
          else
            (Q (some (mz_I ((-1000004)))) μ3))))) :
  v_Leaf_bound C Q (0, [(0, mz_R 14 p0), (1, mz_I x1), (2, mz_I x2)], [], μ) := mz_Ev.run [] 400 h
/-! EtaSeries$Leaf.indexOf(I)I, number 17 -/
abbrev v_Leaf_indexOf (C : mz_Cl) (Q : Option mz_V → mz_M → Prop) : mz_S → Prop := mz_Ev es_SH tb_Leaf_indexOf C Q
set_option maxRecDepth 20000 in
set_option maxHeartbeats 4000000 in
theorem w_Leaf_indexOf_0 {C : mz_Cl} {Q : Option mz_V → mz_M → Prop} (x0 : Int32) (μ : mz_M) (h :
    v_Leaf_indexOf C Q (6, [(1, mz_I x0), (2, mz_I x0), (3, mz_I 2)], [], μ)) :
  v_Leaf_indexOf C Q (0, [(0, mz_I x0)], [], μ) := mz_Ev.run [6, 31] 400 h
set_option maxRecDepth 20000 in
set_option maxHeartbeats 4000000 in
theorem w_Leaf_indexOf_6 {C : mz_Cl} {Q : Option mz_V → mz_M → Prop} (x1 : Int32) (x2 : Int32) (x3 : Int32) (μ : mz_M) (h :
    if (x2 : Int32) < (x3 : Int32) then
      (Q (some (mz_I x1)) μ)
    else
      (¬ (x3 : Int32) = 0 ∧ (if (x2 - x2 / x3 * x3 : Int32) = (0 : Int32) then
        (¬ (x3 : Int32) = 0 ∧ (v_Leaf_indexOf C Q (31, [(1, mz_I ((x1 / x3) * (x3 + 1))), (2, mz_I x2), (3, mz_I x3), (4, mz_I 0)], [], μ)))
      else
        (v_Leaf_indexOf C Q (6, [(1, mz_I x1), (2, mz_I x2), (3, mz_I (x3 + 1))], [], μ))))) :
  v_Leaf_indexOf C Q (6, [(1, mz_I x1), (2, mz_I x2), (3, mz_I x3)], [], μ) := mz_Ev.run [6, 31] 400 h
set_option maxRecDepth 20000 in
set_option maxHeartbeats 4000000 in
theorem w_Leaf_indexOf_31 {C : mz_Cl} {Q : Option mz_V → mz_M → Prop} (x1 : Int32) (x2 : Int32) (x3 : Int32) (x4 : Int32) (μ : mz_M) (h :
    if (600 : Int32) ≤ (x4 : Int32) then
      (v_Leaf_indexOf C Q (6, [(1, mz_I x1), (2, mz_I x2), (3, mz_I (x3 + 1))], [], μ))
    else
      (¬ (x3 : Int32) = 0 ∧ (if (x2 - x2 / x3 * x3 : Int32) = (0 : Int32) then
        (¬ (x3 : Int32) = 0 ∧ (v_Leaf_indexOf C Q (31, [(1, mz_I x1), (2, mz_I (x2 / x3)), (3, mz_I x3), (4, mz_I (x4 + 1))], [], μ)))
      else
        (v_Leaf_indexOf C Q (6, [(1, mz_I x1), (2, mz_I x2), (3, mz_I (x3 + 1))], [], μ))))) :
  v_Leaf_indexOf C Q (31, [(1, mz_I x1), (2, mz_I x2), (3, mz_I x3), (4, mz_I x4)], [], μ) := mz_Ev.run [6, 31] 400 h
/-! EtaSeries$Mill.result()LEtaSeries$Row;, number 18 -/
abbrev v_Mill_result (C : mz_Cl) (Q : Option mz_V → mz_M → Prop) : mz_S → Prop := mz_Ev es_SH tb_Mill_result C Q
set_option maxRecDepth 20000 in
set_option maxHeartbeats 4000000 in
theorem w_Mill_result_0 {C : mz_Cl} {Q : Option mz_V → mz_M → Prop} (p0 : Nat) (μ : mz_M) (h :
    vp_in 0 7 ∧ (Q (some (mz_R 3 (157 + 6 * (0 : Int32).toNatClampNeg))) μ)) :
  v_Mill_result C Q (0, [(0, mz_R 9 p0)], [], μ) := mz_Ev.run [] 400 h
/-! EtaSeries$Mill.reset(I)V, number 19 -/
abbrev v_Mill_reset (C : mz_Cl) (Q : Option mz_V → mz_M → Prop) : mz_S → Prop := mz_Ev es_SH tb_Mill_reset C Q
set_option maxRecDepth 20000 in
set_option maxHeartbeats 4000000 in
theorem w_Mill_reset_0 {C : mz_Cl} {Q : Option mz_V → mz_M → Prop} (p0 : Nat) (x1 : Int32) (μ : mz_M) (h :
    Q none (mz_wI (mz_wI (mz_wI (mz_wI μ p0 6 0) p0 7 x1) p0 8 ((-1000004))) p0 9 ((-1000004)))) :
  v_Mill_reset C Q (0, [(0, mz_R 9 p0), (1, mz_I x1)], [], μ) := mz_Ev.run [] 400 h
/-! EtaSeries$Mill.workSum(I)I, number 20 -/
abbrev v_Mill_workSum (C : mz_Cl) (Q : Option mz_V → mz_M → Prop) : mz_S → Prop := mz_Ev es_SH tb_Mill_workSum C Q
set_option maxRecDepth 20000 in
set_option maxHeartbeats 4000000 in
theorem w_Mill_workSum_0 {C : mz_Cl} {Q : Option mz_V → mz_M → Prop} (p0 : Nat) (x1 : Int32) (μ : mz_M) (h :
    if (x1 : Int32) < (0 : Int32) then
      (Q (some (mz_I ((-1000001)))) μ)
    else
      (if (x1 : Int32) ≤ (6 : Int32) then
        (∃ (r2 : Int32) (μ1 : mz_M), C n_Mill_workPart [mz_R 9 p0, mz_I x1] μ (some (mz_I r2)) μ1 ∧
          (vp_in x1 7 ∧ (vp_in x1 7 ∧ (∃ μ3, C n_Row_take [mz_R 3 (157 + 6 * (x1 : Int32).toNatClampNeg), mz_R 3 (159 + 6 * (x1 : Int32).toNatClampNeg)] μ1 none μ3 ∧
            (v_Mill_workSum C Q (36, [(0, mz_R 9 p0), (1, mz_I x1), (2, mz_I r2), (3, mz_I 0)], [], μ3))))))
      else
        (Q (some (mz_I ((-1000001)))) μ))) :
  v_Mill_workSum C Q (0, [(0, mz_R 9 p0), (1, mz_I x1)], [], μ) := mz_Ev.run [36] 400 h
set_option maxRecDepth 20000 in
set_option maxHeartbeats 4000000 in
theorem w_Mill_workSum_36 {C : mz_Cl} {Q : Option mz_V → mz_M → Prop} (p0 : Nat) (x1 : Int32) (x2 : Int32) (x3 : Int32) (μ : mz_M) (h :
    if (60 : Int32) ≤ (x3 : Int32) then
      (Q (some (mz_I x2)) μ)
    else
      (if (x2 : Int32) = (0 : Int32) then
        (∃ (r2 : Int32) (μ1 : mz_M), C n_Tape_signAt [mz_R 7 145, mz_I (μ.1 p0 6)] μ (some (mz_I r2)) μ1 ∧
          (if (r2 : Int32) = (43 : Int32) then
            (∃ (r4 : Int32) (μ3 : mz_M), C n_Mill_workPart [mz_R 9 p0, mz_I x1] (mz_wI μ1 p0 6 ((μ1.1 p0 6) + 1)) (some (mz_I r4)) μ3 ∧
              (if (r4 : Int32) = (0 : Int32) then
                (vp_in x1 7 ∧ (vp_in x1 7 ∧ (∃ (r6 : Int32) (μ5 : mz_M), C n_Mill_combine [mz_R 9 p0, mz_R 3 (157 + 6 * (x1 : Int32).toNatClampNeg), mz_I r2, mz_R 3 (159 + 6 * (x1 : Int32).toNatClampNeg), mz_I x1] μ3 (some (mz_I r6)) μ5 ∧
                  (v_Mill_workSum C Q (36, [(0, mz_R 9 p0), (1, mz_I x1), (2, mz_I r6), (3, mz_I (x3 + 1))], [], μ5)))))
              else
                (v_Mill_workSum C Q (36, [(0, mz_R 9 p0), (1, mz_I x1), (2, mz_I r4), (3, mz_I (x3 + 1))], [], μ3))))
          else
            (if (r2 : Int32) = (45 : Int32) then
              (∃ (r8 : Int32) (μ7 : mz_M), C n_Mill_workPart [mz_R 9 p0, mz_I x1] (mz_wI μ1 p0 6 ((μ1.1 p0 6) + 1)) (some (mz_I r8)) μ7 ∧
                (if (r8 : Int32) = (0 : Int32) then
                  (vp_in x1 7 ∧ (vp_in x1 7 ∧ (∃ (r10 : Int32) (μ9 : mz_M), C n_Mill_combine [mz_R 9 p0, mz_R 3 (157 + 6 * (x1 : Int32).toNatClampNeg), mz_I r2, mz_R 3 (159 + 6 * (x1 : Int32).toNatClampNeg), mz_I x1] μ7 (some (mz_I r10)) μ9 ∧
                    (v_Mill_workSum C Q (36, [(0, mz_R 9 p0), (1, mz_I x1), (2, mz_I r10), (3, mz_I (x3 + 1))], [], μ9)))))
                else
                  (v_Mill_workSum C Q (36, [(0, mz_R 9 p0), (1, mz_I x1), (2, mz_I r8), (3, mz_I (x3 + 1))], [], μ7))))
            else
              (Q (some (mz_I x2)) μ1))))
      else
        (Q (some (mz_I x2)) μ))) :
  v_Mill_workSum C Q (36, [(0, mz_R 9 p0), (1, mz_I x1), (2, mz_I x2), (3, mz_I x3)], [], μ) := mz_Ev.run [36] 400 h
/-! EtaSeries$Mill.workPart(I)I, number 21 -/
abbrev v_Mill_workPart (C : mz_Cl) (Q : Option mz_V → mz_M → Prop) : mz_S → Prop := mz_Ev es_SH tb_Mill_workPart C Q
set_option maxRecDepth 20000 in
set_option maxHeartbeats 4000000 in
theorem w_Mill_workPart_0 {C : mz_Cl} {Q : Option mz_V → mz_M → Prop} (p0 : Nat) (x1 : Int32) (μ : mz_M) (h :
    ∃ (r2 : Int32) (μ1 : mz_M), C n_Mill_workPower [mz_R 9 p0, mz_I x1] μ (some (mz_I r2)) μ1 ∧
      (vp_in x1 7 ∧ (vp_in x1 7 ∧ (∃ μ3, C n_Row_take [mz_R 3 (159 + 6 * (x1 : Int32).toNatClampNeg), mz_R 3 (161 + 6 * (x1 : Int32).toNatClampNeg)] μ1 none μ3 ∧
        (v_Mill_workPart C Q (23, [(0, mz_R 9 p0), (1, mz_I x1), (2, mz_I r2), (3, mz_I 0)], [], μ3)))))) :
  v_Mill_workPart C Q (0, [(0, mz_R 9 p0), (1, mz_I x1)], [], μ) := mz_Ev.run [23] 400 h
set_option maxRecDepth 20000 in
set_option maxHeartbeats 4000000 in
theorem w_Mill_workPart_23 {C : mz_Cl} {Q : Option mz_V → mz_M → Prop} (p0 : Nat) (x1 : Int32) (x2 : Int32) (x3 : Int32) (μ : mz_M) (h :
    if (60 : Int32) ≤ (x3 : Int32) then
      (Q (some (mz_I x2)) μ)
    else
      (if (x2 : Int32) = (0 : Int32) then
        (∃ (r2 : Int32) (μ1 : mz_M), C n_Tape_signAt [mz_R 7 145, mz_I (μ.1 p0 6)] μ (some (mz_I r2)) μ1 ∧
          (if (r2 : Int32) = (42 : Int32) then
            (∃ (r4 : Int32) (μ3 : mz_M), C n_Mill_workPower [mz_R 9 p0, mz_I x1] (mz_wI μ1 p0 6 ((μ1.1 p0 6) + 1)) (some (mz_I r4)) μ3 ∧
              (if (r4 : Int32) = (0 : Int32) then
                (vp_in x1 7 ∧ (vp_in x1 7 ∧ (∃ (r6 : Int32) (μ5 : mz_M), C n_Mill_combine [mz_R 9 p0, mz_R 3 (159 + 6 * (x1 : Int32).toNatClampNeg), mz_I r2, mz_R 3 (161 + 6 * (x1 : Int32).toNatClampNeg), mz_I x1] μ3 (some (mz_I r6)) μ5 ∧
                  (v_Mill_workPart C Q (23, [(0, mz_R 9 p0), (1, mz_I x1), (2, mz_I r6), (3, mz_I (x3 + 1))], [], μ5)))))
              else
                (v_Mill_workPart C Q (23, [(0, mz_R 9 p0), (1, mz_I x1), (2, mz_I r4), (3, mz_I (x3 + 1))], [], μ3))))
          else
            (if (r2 : Int32) = (47 : Int32) then
              (∃ (r8 : Int32) (μ7 : mz_M), C n_Mill_workPower [mz_R 9 p0, mz_I x1] (mz_wI μ1 p0 6 ((μ1.1 p0 6) + 1)) (some (mz_I r8)) μ7 ∧
                (if (r8 : Int32) = (0 : Int32) then
                  (vp_in x1 7 ∧ (vp_in x1 7 ∧ (∃ (r10 : Int32) (μ9 : mz_M), C n_Mill_combine [mz_R 9 p0, mz_R 3 (159 + 6 * (x1 : Int32).toNatClampNeg), mz_I r2, mz_R 3 (161 + 6 * (x1 : Int32).toNatClampNeg), mz_I x1] μ7 (some (mz_I r10)) μ9 ∧
                    (v_Mill_workPart C Q (23, [(0, mz_R 9 p0), (1, mz_I x1), (2, mz_I r10), (3, mz_I (x3 + 1))], [], μ9)))))
                else
                  (v_Mill_workPart C Q (23, [(0, mz_R 9 p0), (1, mz_I x1), (2, mz_I r8), (3, mz_I (x3 + 1))], [], μ7))))
            else
              (Q (some (mz_I x2)) μ1))))
      else
        (Q (some (mz_I x2)) μ))) :
  v_Mill_workPart C Q (23, [(0, mz_R 9 p0), (1, mz_I x1), (2, mz_I x2), (3, mz_I x3)], [], μ) := mz_Ev.run [23] 400 h
/-! EtaSeries$Mill.workPower(I)I, number 22 -/
abbrev v_Mill_workPower (C : mz_Cl) (Q : Option mz_V → mz_M → Prop) : mz_S → Prop := mz_Ev es_SH tb_Mill_workPower C Q
set_option maxRecDepth 20000 in
set_option maxHeartbeats 4000000 in
theorem w_Mill_workPower_0 {C : mz_Cl} {Q : Option mz_V → mz_M → Prop} (p0 : Nat) (x1 : Int32) (μ : mz_M) (h :
    ∃ (r2 : Int32) (μ1 : mz_M), C n_Mill_workAtom [mz_R 9 p0, mz_I x1] μ (some (mz_I r2)) μ1 ∧
      (if (r2 : Int32) = (0 : Int32) then
        (∃ (r4 : Int32) (μ3 : mz_M), C n_Tape_signAt [mz_R 7 145, mz_I (μ1.1 p0 6)] μ1 (some (mz_I r4)) μ3 ∧
          (if (r4 : Int32) = (94 : Int32) then
            (vp_in x1 7 ∧ (∃ (r6 : Int32) (μ5 : mz_M), C n_Tape_valueAt [mz_R 7 145, mz_I (μ3.1 p0 6)] μ3 (some (mz_I r6)) μ5 ∧
              (∃ (r8 : Int32) (μ7 : mz_M), C n_Row_becomePower [mz_R 3 (p0 + 4), mz_R 3 (161 + 6 * (x1 : Int32).toNatClampNeg), mz_I r6, mz_R 3 (p0 + 6)] μ5 (some (mz_I r8)) μ7 ∧
                (vp_in x1 7 ∧ (∃ (r10 : Int32) (μ9 : mz_M), C n_Mill_finish [mz_R 9 p0, mz_I r8, mz_R 3 (161 + 6 * (x1 : Int32).toNatClampNeg), mz_I 94, mz_I x1] (mz_wI μ7 p0 6 ((μ7.1 p0 6) + 1)) (some (mz_I r10)) μ9 ∧
                  (Q (some (mz_I r10)) μ9))))))
          else
            (Q (some (mz_I r2)) μ3)))
      else
        (Q (some (mz_I r2)) μ1))) :
  v_Mill_workPower C Q (0, [(0, mz_R 9 p0), (1, mz_I x1)], [], μ) := mz_Ev.run [] 400 h
/-! EtaSeries$Mill.workAtom(I)I, number 23 -/
abbrev v_Mill_workAtom (C : mz_Cl) (Q : Option mz_V → mz_M → Prop) : mz_S → Prop := mz_Ev es_SH tb_Mill_workAtom C Q
set_option maxRecDepth 20000 in
set_option maxHeartbeats 4000000 in
theorem w_Mill_workAtom_0 {C : mz_Cl} {Q : Option mz_V → mz_M → Prop} (p0 : Nat) (x1 : Int32) (μ : mz_M) (h :
    ∃ (r2 : Int32) (μ1 : mz_M), C n_Tape_signAt [mz_R 7 145, mz_I (μ.1 p0 6)] μ (some (mz_I r2)) μ1 ∧
      (∃ (r4 : Int32) (μ3 : mz_M), C n_Tape_valueAt [mz_R 7 145, mz_I (μ1.1 p0 6)] μ1 (some (mz_I r4)) μ3 ∧
        (if (r2 : Int32) = (40 : Int32) then
          (∃ (r6 : Int32) (μ5 : mz_M), C n_Mill_workSum [mz_R 9 p0, mz_I (x1 + 1)] (mz_wI μ3 p0 6 ((μ3.1 p0 6) + 1)) (some (mz_I r6)) μ5 ∧
            (if (r6 : Int32) = (0 : Int32) then
              (vp_in x1 7 ∧ (vp_in (x1 + 1) 7 ∧ (∃ μ7, C n_Row_take [mz_R 3 (161 + 6 * (x1 : Int32).toNatClampNeg), mz_R 3 (157 + 6 * (x1 + 1 : Int32).toNatClampNeg)] μ5 none μ7 ∧
                (Q (some (mz_I r6)) (mz_wI μ7 p0 6 ((μ7.1 p0 6) + 1))))))
            else
              (Q (some (mz_I r6)) μ5)))
        else
          (if (r2 : Int32) = (48 : Int32) then
            (vp_in x1 7 ∧ (∃ μ8, C n_Row_begin [mz_R 3 (161 + 6 * (x1 : Int32).toNatClampNeg), mz_I ((mz_wI μ3 p0 6 ((μ3.1 p0 6) + 1)).1 p0 7)] (mz_wI μ3 p0 6 ((μ3.1 p0 6) + 1)) none μ8 ∧
              (vp_in x1 7 ∧ (∃ μ9, C n_Row_put [mz_R 3 (161 + 6 * (x1 : Int32).toNatClampNeg), mz_I 0, mz_L ((r4 : Int32).toInt64)] μ8 none μ9 ∧
                (Q (some (mz_I 0)) μ9)))))
          else
            (vp_in x1 7 ∧ (∃ (r11 : Int32) (μ10 : mz_M), C n_Tape_kindOf [mz_I r2] (mz_wI μ3 p0 6 ((μ3.1 p0 6) + 1)) (some (mz_I r11)) μ10 ∧
              (∃ μ12, C n_Row_become [mz_R 3 (161 + 6 * (x1 : Int32).toNatClampNeg), mz_I r11, mz_I r4, mz_I (μ10.1 p0 7)] μ10 none μ12 ∧
                (Q (some (mz_I 0)) μ12)))))))) :
  v_Mill_workAtom C Q (0, [(0, mz_R 9 p0), (1, mz_I x1)], [], μ) := mz_Ev.run [] 400 h
/-! EtaSeries$Mill.combine(LEtaSeries$Row;ILEtaSeries$Row;I)I, number 24 -/
abbrev v_Mill_combine (C : mz_Cl) (Q : Option mz_V → mz_M → Prop) : mz_S → Prop := mz_Ev es_SH tb_Mill_combine C Q
set_option maxRecDepth 20000 in
set_option maxHeartbeats 4000000 in
theorem w_Mill_combine_0 {C : mz_Cl} {Q : Option mz_V → mz_M → Prop} (p0 : Nat) (p1 : Nat) (x2 : Int32) (p3 : Nat) (x4 : Int32) (μ : mz_M) (h :
    ∃ (r2 : Int32) (μ1 : mz_M), C n_Mill_actOf [mz_I x2] μ (some (mz_I r2)) μ1 ∧
      (∃ (r4 : Int32) (μ3 : mz_M), C n_Row_becomeJoined [mz_R 3 (p0 + 4), mz_I r2, mz_R 3 p1, mz_R 3 p3] μ1 (some (mz_I r4)) μ3 ∧
        (∃ (r6 : Int32) (μ5 : mz_M), C n_Mill_finish [mz_R 9 p0, mz_I r4, mz_R 3 p1, mz_I x2, mz_I x4] μ3 (some (mz_I r6)) μ5 ∧
          (Q (some (mz_I r6)) μ5)))) :
  v_Mill_combine C Q (0, [(0, mz_R 9 p0), (1, mz_R 3 p1), (2, mz_I x2), (3, mz_R 3 p3), (4, mz_I x4)], [], μ) := mz_Ev.run [] 400 h
/-! EtaSeries$Mill.finish(ILEtaSeries$Row;II)I, number 25 -/
abbrev v_Mill_finish (C : mz_Cl) (Q : Option mz_V → mz_M → Prop) : mz_S → Prop := mz_Ev es_SH tb_Mill_finish C Q
set_option maxRecDepth 20000 in
set_option maxHeartbeats 4000000 in
theorem w_Mill_finish_0 {C : mz_Cl} {Q : Option mz_V → mz_M → Prop} (p0 : Nat) (x1 : Int32) (p2 : Nat) (x3 : Int32) (x4 : Int32) (μ : mz_M) (h :
    if (x1 : Int32) = (0 : Int32) then
      (∃ μ1, C n_Row_take [mz_R 3 p2, mz_R 3 (p0 + 4)] μ none μ1 ∧
        (Q (some (mz_I x1)) μ1))
    else
      (Q (some (mz_I x1)) (mz_wI (mz_wI μ p0 8 x4) p0 9 x3))) :
  v_Mill_finish C Q (0, [(0, mz_R 9 p0), (1, mz_I x1), (2, mz_R 3 p2), (3, mz_I x3), (4, mz_I x4)], [], μ) := mz_Ev.run [] 400 h
/-! EtaSeries$Mill.actOf(I)I, number 26 -/
abbrev v_Mill_actOf (C : mz_Cl) (Q : Option mz_V → mz_M → Prop) : mz_S → Prop := mz_Ev es_SH tb_Mill_actOf C Q
set_option maxRecDepth 20000 in
set_option maxHeartbeats 4000000 in
theorem w_Mill_actOf_0 {C : mz_Cl} {Q : Option mz_V → mz_M → Prop} (x0 : Int32) (μ : mz_M) (h :
    if (x0 : Int32) = nI 42 then
      (Q (some (mz_I 2)) μ)
    else if (x0 : Int32) = nI 43 then
      (Q (some (mz_I 0)) μ)
    else if (x0 : Int32) = nI 44 then
      (Q (some (mz_I 3)) μ)
    else if (x0 : Int32) = nI 45 then
      (Q (some (mz_I 1)) μ)
    else (Q (some (mz_I 3)) μ)) :
  v_Mill_actOf C Q (0, [(0, mz_I x0)], [], μ) := mz_Ev.run [] 400 h
/-! EtaSeries$Mill.workQuotient(LEtaSeries$Leaf;III)I, number 27 -/
abbrev v_Mill_workQuotient (C : mz_Cl) (Q : Option mz_V → mz_M → Prop) : mz_S → Prop := mz_Ev es_SH tb_Mill_workQuotient C Q
set_option maxRecDepth 20000 in
set_option maxHeartbeats 4000000 in
theorem w_Mill_workQuotient_0 {C : mz_Cl} {Q : Option mz_V → mz_M → Prop} (p0 : Nat) (p1 : Nat) (x2 : Int32) (x3 : Int32) (x4 : Int32) (μ : mz_M) (h :
    vp_in 0 7 ∧ (vp_in 0 7 ∧ (∃ μ1, C n_Row_become [mz_R 3 (157 + 6 * (0 : Int32).toNatClampNeg), mz_I 0, mz_I 0, mz_I x4] μ none μ1 ∧
      (v_Mill_workQuotient C Q (28, [(0, mz_R 9 p0), (1, mz_R 14 p1), (2, mz_I x2), (3, mz_I x3), (4, mz_I x4), (5, mz_R 3 (157 + 6 * (0 : Int32).toNatClampNeg)), (6, mz_R 3 (161 + 6 * (0 : Int32).toNatClampNeg)), (7, mz_I 0)], [], μ1))))) :
  v_Mill_workQuotient C Q (0, [(0, mz_R 9 p0), (1, mz_R 14 p1), (2, mz_I x2), (3, mz_I x3), (4, mz_I x4)], [], μ) := mz_Ev.run [28, 61] 400 h
set_option maxRecDepth 20000 in
set_option maxHeartbeats 4000000 in
theorem w_Mill_workQuotient_28 {C : mz_Cl} {Q : Option mz_V → mz_M → Prop} (p0 : Nat) (p1 : Nat) (x2 : Int32) (x3 : Int32) (x4 : Int32) (p5 : Nat) (p6 : Nat) (x7 : Int32) (μ : mz_M) (h :
    if (x3 : Int32) ≤ (x7 : Int32) then
      (Q (some (mz_I 0)) μ)
    else
      (∃ (r2 : Int32) (μ1 : mz_M), C n_Leaf_exponent [mz_R 14 p1, mz_I x2, mz_I x7] μ (some (mz_I r2)) μ1 ∧
        (∃ (r4 : Int32) (μ3 : mz_M), C n_Leaf_divisor [mz_R 14 p1, mz_I x2, mz_I x7] μ1 (some (mz_I r4)) μ3 ∧
          (∃ μ5, C n_Row_become [mz_R 3 p6, mz_I 3, mz_I r4, mz_I x4] μ3 none μ5 ∧
            (v_Mill_workQuotient C Q (61, [(0, mz_R 9 p0), (1, mz_R 14 p1), (2, mz_I x2), (3, mz_I x3), (4, mz_I x4), (5, mz_R 3 p5), (6, mz_R 3 p6), (7, mz_I x7), (8, mz_I r2), (9, mz_I 0)], [], μ5)))))) :
  v_Mill_workQuotient C Q (28, [(0, mz_R 9 p0), (1, mz_R 14 p1), (2, mz_I x2), (3, mz_I x3), (4, mz_I x4), (5, mz_R 3 p5), (6, mz_R 3 p6), (7, mz_I x7)], [], μ) := mz_Ev.run [28, 61] 400 h
set_option maxRecDepth 20000 in
set_option maxHeartbeats 4000000 in
theorem w_Mill_workQuotient_61 {C : mz_Cl} {Q : Option mz_V → mz_M → Prop} (p0 : Nat) (p1 : Nat) (x2 : Int32) (x3 : Int32) (x4 : Int32) (p5 : Nat) (p6 : Nat) (x7 : Int32) (x8 : Int32) (x9 : Int32) (μ : mz_M) (h :
    ∃ (r2 : Int32) (μ1 : mz_M), C n_Math_abs [mz_I x8] μ (some (mz_I r2)) μ1 ∧
      (if (r2 : Int32) ≤ (x9 : Int32) then
        (v_Mill_workQuotient C Q (28, [(0, mz_R 9 p0), (1, mz_R 14 p1), (2, mz_I x2), (3, mz_I x3), (4, mz_I x4), (5, mz_R 3 p5), (6, mz_R 3 p6), (7, mz_I (x7 + 1))], [], μ1))
      else
        (if (x8 : Int32) ≤ (0 : Int32) then
          (∃ (r4 : Int32) (μ3 : mz_M), C n_Row_becomeJoined [mz_R 3 (p0 + 4), mz_I 3, mz_R 3 p5, mz_R 3 p6] μ1 (some (mz_I r4)) μ3 ∧
            (if (r4 : Int32) = (0 : Int32) then
              (∃ μ5, C n_Row_take [mz_R 3 p5, mz_R 3 (p0 + 4)] μ3 none μ5 ∧
                (v_Mill_workQuotient C Q (61, [(0, mz_R 9 p0), (1, mz_R 14 p1), (2, mz_I x2), (3, mz_I x3), (4, mz_I x4), (5, mz_R 3 p5), (6, mz_R 3 p6), (7, mz_I x7), (8, mz_I x8), (9, mz_I (x9 + 1))], [], μ5)))
            else
              (Q (some (mz_I r4)) μ3)))
        else
          (∃ (r7 : Int32) (μ6 : mz_M), C n_Row_becomeJoined [mz_R 3 (p0 + 4), mz_I 2, mz_R 3 p5, mz_R 3 p6] μ1 (some (mz_I r7)) μ6 ∧
            (if (r7 : Int32) = (0 : Int32) then
              (∃ μ8, C n_Row_take [mz_R 3 p5, mz_R 3 (p0 + 4)] μ6 none μ8 ∧
                (v_Mill_workQuotient C Q (61, [(0, mz_R 9 p0), (1, mz_R 14 p1), (2, mz_I x2), (3, mz_I x3), (4, mz_I x4), (5, mz_R 3 p5), (6, mz_R 3 p6), (7, mz_I x7), (8, mz_I x8), (9, mz_I (x9 + 1))], [], μ8)))
            else
              (Q (some (mz_I r7)) μ6)))))) :
  v_Mill_workQuotient C Q (61, [(0, mz_R 9 p0), (1, mz_R 14 p1), (2, mz_I x2), (3, mz_I x3), (4, mz_I x4), (5, mz_R 3 p5), (6, mz_R 3 p6), (7, mz_I x7), (8, mz_I x8), (9, mz_I x9)], [], μ) := mz_Ev.run [28, 61] 400 h
/-! EtaSeries$Tape.write(I)Z, number 47 -/
abbrev v_Tape_write (C : mz_Cl) (Q : Option mz_V → mz_M → Prop) : mz_S → Prop := mz_Ev es_SH tb_Tape_write C Q
set_option maxRecDepth 20000 in
set_option maxHeartbeats 4000000 in
theorem w_Tape_write_0 {C : mz_Cl} {Q : Option mz_V → mz_M → Prop} (p0 : Nat) (x1 : Int32) (μ : mz_M) (h :
    if (μ.1 p0 1 : Int32) < (0 : Int32) then
      (((0 : Int32) = 0 ∨ (0 : Int32) = 1) ∧ Q (some (mz_I 0)) μ)
    else
      (if (μ.1 p0 1 : Int32) < (nI 60 : Int32) then
        (vp_in (μ.1 p0 1) 60 ∧ (((1 : Int32) = 0 ∨ (1 : Int32) = 1) ∧ Q (some (mz_I 1)) (mz_wI (mz_wI μ (p0 + 1) (μ.1 p0 1 : Int32).toNatClampNeg x1) p0 1 (((mz_wI μ (p0 + 1) (μ.1 p0 1 : Int32).toNatClampNeg x1).1 p0 1) + 1))))
      else
        (((0 : Int32) = 0 ∨ (0 : Int32) = 1) ∧ Q (some (mz_I 0)) μ))) :
  v_Tape_write C Q (0, [(0, mz_R 7 p0), (1, mz_I x1)], [], μ) := mz_Ev.run [] 400 h
/-! EtaSeries$Tape.parse()I, number 48 -/
abbrev v_Tape_parse (C : mz_Cl) (Q : Option mz_V → mz_M → Prop) : mz_S → Prop := mz_Ev es_SH tb_Tape_parse C Q
set_option maxRecDepth 20000 in
set_option maxHeartbeats 4000000 in
theorem w_Tape_parse_0 {C : mz_Cl} {Q : Option mz_V → mz_M → Prop} (p0 : Nat) (μ : mz_M) (h :
    v_Tape_parse C Q (19, [(0, mz_R 7 p0), (1, mz_I 1), (2, mz_I 0)], [], mz_wI (mz_wI (mz_wI μ p0 2 0) p0 3 0) p0 6 0)) :
  v_Tape_parse C Q (0, [(0, mz_R 7 p0)], [], μ) := mz_Ev.run [19] 400 h
set_option maxRecDepth 20000 in
set_option maxHeartbeats 4000000 in
theorem w_Tape_parse_19 {C : mz_Cl} {Q : Option mz_V → mz_M → Prop} (p0 : Nat) (x1 : Int32) (x2 : Int32) (μ : mz_M) (h :
    if (μ.1 p0 1 : Int32) < (x2 : Int32) then
      (Q (some (mz_I (((-1000020)) - (μ.1 p0 2)))) μ)
    else
      (∃ μ1, C n_Tape_skipBlanks [mz_R 7 p0] μ none μ1 ∧
        (if (x1 : Int32) = (1 : Int32) then
          (if (x1 : Int32) = (1 : Int32) then
            (∃ (r3 : Int32) (μ2 : mz_M), C n_Tape_readAtom [mz_R 7 p0] μ1 (some (mz_I r3)) μ2 ∧
              (if (r3 : Int32) = (0 : Int32) then
                (Q (some (mz_I (((-1000020)) - (μ2.1 p0 2)))) μ2)
              else
                (v_Tape_parse C Q (19, [(0, mz_R 7 p0), (1, mz_I r3), (2, mz_I (x2 + 1))], [], μ2))))
          else
            (∃ (r5 : Int32) (μ4 : mz_M), C n_Tape_readBehindAtom [mz_R 7 p0, mz_I x1] μ1 (some (mz_I r5)) μ4 ∧
              (if (r5 : Int32) = (0 : Int32) then
                (Q (some (mz_I (((-1000020)) - (μ4.1 p0 2)))) μ4)
              else
                (v_Tape_parse C Q (19, [(0, mz_R 7 p0), (1, mz_I r5), (2, mz_I (x2 + 1))], [], μ4)))))
        else
          (if (μ1.1 p0 3 : Int32) = (0 : Int32) then
            (if (μ1.1 p0 2 : Int32) < (μ1.1 p0 1 : Int32) then
              (if (x1 : Int32) = (1 : Int32) then
                (∃ (r7 : Int32) (μ6 : mz_M), C n_Tape_readAtom [mz_R 7 p0] μ1 (some (mz_I r7)) μ6 ∧
                  (if (r7 : Int32) = (0 : Int32) then
                    (Q (some (mz_I (((-1000020)) - (μ6.1 p0 2)))) μ6)
                  else
                    (v_Tape_parse C Q (19, [(0, mz_R 7 p0), (1, mz_I r7), (2, mz_I (x2 + 1))], [], μ6))))
              else
                (∃ (r9 : Int32) (μ8 : mz_M), C n_Tape_readBehindAtom [mz_R 7 p0, mz_I x1] μ1 (some (mz_I r9)) μ8 ∧
                  (if (r9 : Int32) = (0 : Int32) then
                    (Q (some (mz_I (((-1000020)) - (μ8.1 p0 2)))) μ8)
                  else
                    (v_Tape_parse C Q (19, [(0, mz_R 7 p0), (1, mz_I r9), (2, mz_I (x2 + 1))], [], μ8)))))
            else
              (Q (some (mz_I 0)) μ1))
          else
            (if (x1 : Int32) = (1 : Int32) then
              (∃ (r11 : Int32) (μ10 : mz_M), C n_Tape_readAtom [mz_R 7 p0] μ1 (some (mz_I r11)) μ10 ∧
                (if (r11 : Int32) = (0 : Int32) then
                  (Q (some (mz_I (((-1000020)) - (μ10.1 p0 2)))) μ10)
                else
                  (v_Tape_parse C Q (19, [(0, mz_R 7 p0), (1, mz_I r11), (2, mz_I (x2 + 1))], [], μ10))))
            else
              (∃ (r13 : Int32) (μ12 : mz_M), C n_Tape_readBehindAtom [mz_R 7 p0, mz_I x1] μ1 (some (mz_I r13)) μ12 ∧
                (if (r13 : Int32) = (0 : Int32) then
                  (Q (some (mz_I (((-1000020)) - (μ12.1 p0 2)))) μ12)
                else
                  (v_Tape_parse C Q (19, [(0, mz_R 7 p0), (1, mz_I r13), (2, mz_I (x2 + 1))], [], μ12))))))))) :
  v_Tape_parse C Q (19, [(0, mz_R 7 p0), (1, mz_I x1), (2, mz_I x2)], [], μ) := mz_Ev.run [19] 400 h
/-! EtaSeries$Tape.here()I, number 49 -/
abbrev v_Tape_here (C : mz_Cl) (Q : Option mz_V → mz_M → Prop) : mz_S → Prop := mz_Ev es_SH tb_Tape_here C Q
set_option maxRecDepth 20000 in
set_option maxHeartbeats 4000000 in
theorem w_Tape_here_0 {C : mz_Cl} {Q : Option mz_V → mz_M → Prop} (p0 : Nat) (μ : mz_M) (h :
    if (μ.1 p0 2 : Int32) < (0 : Int32) then
      (Q (some (mz_I 0)) μ)
    else
      (if (μ.1 p0 1 : Int32) ≤ (μ.1 p0 2 : Int32) then
        (Q (some (mz_I 0)) μ)
      else
        (if (nI 60 : Int32) ≤ (μ.1 p0 2 : Int32) then
          (Q (some (mz_I 0)) μ)
        else
          (vp_in (μ.1 p0 2) 60 ∧ (Q (some (mz_I (μ.1 (p0 + 1) (μ.1 p0 2 : Int32).toNatClampNeg))) μ))))) :
  v_Tape_here C Q (0, [(0, mz_R 7 p0)], [], μ) := mz_Ev.run [] 400 h
/-! EtaSeries$Tape.skipBlanks()V, number 50 -/
abbrev v_Tape_skipBlanks (C : mz_Cl) (Q : Option mz_V → mz_M → Prop) : mz_S → Prop := mz_Ev es_SH tb_Tape_skipBlanks C Q
set_option maxRecDepth 20000 in
set_option maxHeartbeats 4000000 in
theorem w_Tape_skipBlanks_0 {C : mz_Cl} {Q : Option mz_V → mz_M → Prop} (p0 : Nat) (μ : mz_M) (h :
    v_Tape_skipBlanks C Q (2, [(0, mz_R 7 p0), (1, mz_I 0)], [], μ)) :
  v_Tape_skipBlanks C Q (0, [(0, mz_R 7 p0)], [], μ) := mz_Ev.run [2] 400 h
set_option maxRecDepth 20000 in
set_option maxHeartbeats 4000000 in
theorem w_Tape_skipBlanks_2 {C : mz_Cl} {Q : Option mz_V → mz_M → Prop} (p0 : Nat) (x1 : Int32) (μ : mz_M) (h :
    if (60 : Int32) ≤ (x1 : Int32) then
      (Q none μ)
    else
      (∃ (r2 : Int32) (μ1 : mz_M), C n_Tape_here [mz_R 7 p0] μ (some (mz_I r2)) μ1 ∧
        (if (r2 : Int32) = (32 : Int32) then
          (v_Tape_skipBlanks C Q (2, [(0, mz_R 7 p0), (1, mz_I (x1 + 1))], [], mz_wI μ1 p0 2 ((μ1.1 p0 2) + 1)))
        else
          (Q none μ1)))) :
  v_Tape_skipBlanks C Q (2, [(0, mz_R 7 p0), (1, mz_I x1)], [], μ) := mz_Ev.run [2] 400 h
/-! EtaSeries$Tape.digitIsHere()Z, number 51 -/
abbrev v_Tape_digitIsHere (C : mz_Cl) (Q : Option mz_V → mz_M → Prop) : mz_S → Prop := mz_Ev es_SH tb_Tape_digitIsHere C Q
set_option maxRecDepth 20000 in
set_option maxHeartbeats 4000000 in
theorem w_Tape_digitIsHere_0 {C : mz_Cl} {Q : Option mz_V → mz_M → Prop} (p0 : Nat) (μ : mz_M) (h :
    ∃ (r2 : Int32) (μ1 : mz_M), C n_Tape_here [mz_R 7 p0] μ (some (mz_I r2)) μ1 ∧
      (if (r2 : Int32) < (48 : Int32) then
        (((0 : Int32) = 0 ∨ (0 : Int32) = 1) ∧ Q (some (mz_I 0)) μ1)
      else
        (∃ (r4 : Int32) (μ3 : mz_M), C n_Tape_here [mz_R 7 p0] μ1 (some (mz_I r4)) μ3 ∧
          (if (57 : Int32) < (r4 : Int32) then
            (((0 : Int32) = 0 ∨ (0 : Int32) = 1) ∧ Q (some (mz_I 0)) μ3)
          else
            (((1 : Int32) = 0 ∨ (1 : Int32) = 1) ∧ Q (some (mz_I 1)) μ3))))) :
  v_Tape_digitIsHere C Q (0, [(0, mz_R 7 p0)], [], μ) := mz_Ev.run [] 400 h
/-! EtaSeries$Tape.readAtom()I, number 52 -/
abbrev v_Tape_readAtom (C : mz_Cl) (Q : Option mz_V → mz_M → Prop) : mz_S → Prop := mz_Ev es_SH tb_Tape_readAtom C Q
set_option maxRecDepth 20000 in
set_option maxHeartbeats 4000000 in
theorem w_Tape_readAtom_0 {C : mz_Cl} {Q : Option mz_V → mz_M → Prop} (p0 : Nat) (μ : mz_M) (h :
    ∃ (r2 : Int32) (μ1 : mz_M), C n_Tape_here [mz_R 7 p0] μ (some (mz_I r2)) μ1 ∧
      (if (r2 : Int32) = (40 : Int32) then
        (∃ (r4 : Int32) (μ3 : mz_M), C n_Tape_readOpen [mz_R 7 p0] μ1 (some (mz_I r4)) μ3 ∧
          (Q (some (mz_I r4)) μ3))
      else
        (if (r2 : Int32) = (101 : Int32) then
          (∃ (r6 : Int32) (μ5 : mz_M), C n_Tape_readFamily [mz_R 7 p0, mz_I r2] μ1 (some (mz_I r6)) μ5 ∧
            (Q (some (mz_I r6)) μ5))
        else
          (if (r2 : Int32) = (116 : Int32) then
            (∃ (r8 : Int32) (μ7 : mz_M), C n_Tape_readFamily [mz_R 7 p0, mz_I r2] μ1 (some (mz_I r8)) μ7 ∧
              (Q (some (mz_I r8)) μ7))
          else
            (if (r2 : Int32) = (115 : Int32) then
              (∃ (r10 : Int32) (μ9 : mz_M), C n_Tape_readFamily [mz_R 7 p0, mz_I r2] μ1 (some (mz_I r10)) μ9 ∧
                (Q (some (mz_I r10)) μ9))
            else
              (if (r2 : Int32) = (113 : Int32) then
                (∃ (r12 : Int32) (μ11 : mz_M), C n_Tape_readFamily [mz_R 7 p0, mz_I r2] μ1 (some (mz_I r12)) μ11 ∧
                  (Q (some (mz_I r12)) μ11))
              else
                (∃ (r14 : Int32) (μ13 : mz_M), C n_Tape_digitIsHere [mz_R 7 p0] μ1 (some (mz_I r14)) μ13 ∧
                  (if (r14 : Int32) = (0 : Int32) then
                    (Q (some (mz_I 0)) μ13)
                  else
                    (∃ (r16 : Int32) (μ15 : mz_M), C n_Tape_readNumber [mz_R 7 p0] μ13 (some (mz_I r16)) μ15 ∧
                      (∃ μ17, C n_Tape_note [mz_R 7 p0, mz_I 48, mz_I r16] μ15 none μ17 ∧
                        (Q (some (mz_I 2)) μ17))))))))))) :
  v_Tape_readAtom C Q (0, [(0, mz_R 7 p0)], [], μ) := mz_Ev.run [] 400 h
/-! EtaSeries$Tape.readOpen()I, number 53 -/
abbrev v_Tape_readOpen (C : mz_Cl) (Q : Option mz_V → mz_M → Prop) : mz_S → Prop := mz_Ev es_SH tb_Tape_readOpen C Q
set_option maxRecDepth 20000 in
set_option maxHeartbeats 4000000 in
theorem w_Tape_readOpen_0 {C : mz_Cl} {Q : Option mz_V → mz_M → Prop} (p0 : Nat) (μ : mz_M) (h :
    if (μ.1 p0 3 : Int32) < (6 : Int32) then
      (∃ (r2 : Int32) (μ1 : mz_M), C n_Tape_pass [mz_R 7 p0, mz_I 40, mz_I 1] (mz_wI μ p0 3 ((μ.1 p0 3) + 1)) (some (mz_I r2)) μ1 ∧
        (Q (some (mz_I r2)) μ1))
    else
      (Q (some (mz_I 0)) μ)) :
  v_Tape_readOpen C Q (0, [(0, mz_R 7 p0)], [], μ) := mz_Ev.run [] 400 h
/-! EtaSeries$Tape.readFamily(I)I, number 54 -/
abbrev v_Tape_readFamily (C : mz_Cl) (Q : Option mz_V → mz_M → Prop) : mz_S → Prop := mz_Ev es_SH tb_Tape_readFamily C Q
set_option maxRecDepth 20000 in
set_option maxHeartbeats 4000000 in
theorem w_Tape_readFamily_0 {C : mz_Cl} {Q : Option mz_V → mz_M → Prop} (p0 : Nat) (x1 : Int32) (μ : mz_M) (h :
    ∃ μ1, C n_Tape_skipBlanks [mz_R 7 p0] (mz_wI μ p0 2 ((μ.1 p0 2) + 1)) none μ1 ∧
      (∃ (r3 : Int32) (μ2 : mz_M), C n_Tape_here [mz_R 7 p0] μ1 (some (mz_I r3)) μ2 ∧
        (if (r3 : Int32) = (40 : Int32) then
          (∃ μ4, C n_Tape_skipBlanks [mz_R 7 p0] (mz_wI μ2 p0 2 ((μ2.1 p0 2) + 1)) none μ4 ∧
            (∃ (r6 : Int32) (μ5 : mz_M), C n_Tape_digitIsHere [mz_R 7 p0] μ4 (some (mz_I r6)) μ5 ∧
              (if (r6 : Int32) = (0 : Int32) then
                (Q (some (mz_I 0)) μ5)
              else
                (∃ (r8 : Int32) (μ7 : mz_M), C n_Tape_readNumber [mz_R 7 p0] μ5 (some (mz_I r8)) μ7 ∧
                  (∃ (r10 : Int32) (μ9 : mz_M), C n_Tape_kindOf [mz_I x1] μ7 (some (mz_I r10)) μ9 ∧
                    (∃ (r12 : Int32) (μ11 : mz_M), C n_ES_isKind [mz_I r10, mz_I r8] μ9 (some (mz_I r12)) μ11 ∧
                      (if (r12 : Int32) = (0 : Int32) then
                        (Q (some (mz_I 0)) (mz_wI μ11 p0 2 (μ5.1 p0 2)))
                      else
                        (∃ μ13, C n_Tape_skipBlanks [mz_R 7 p0] μ11 none μ13 ∧
                          (∃ (r15 : Int32) (μ14 : mz_M), C n_Tape_here [mz_R 7 p0] μ13 (some (mz_I r15)) μ14 ∧
                            (if (r15 : Int32) = (41 : Int32) then
                              (∃ μ16, C n_Tape_note [mz_R 7 p0, mz_I x1, mz_I r8] (mz_wI μ14 p0 2 ((μ14.1 p0 2) + 1)) none μ16 ∧
                                (Q (some (mz_I 2)) μ16))
                            else
                              (Q (some (mz_I 0)) μ14)))))))))))
        else
          (Q (some (mz_I 0)) μ2)))) :
  v_Tape_readFamily C Q (0, [(0, mz_R 7 p0), (1, mz_I x1)], [], μ) := mz_Ev.run [] 400 h
/-! EtaSeries$Tape.readBehindAtom(I)I, number 55 -/
abbrev v_Tape_readBehindAtom (C : mz_Cl) (Q : Option mz_V → mz_M → Prop) : mz_S → Prop := mz_Ev es_SH tb_Tape_readBehindAtom C Q
set_option maxRecDepth 20000 in
set_option maxHeartbeats 4000000 in
theorem w_Tape_readBehindAtom_0 {C : mz_Cl} {Q : Option mz_V → mz_M → Prop} (p0 : Nat) (x1 : Int32) (μ : mz_M) (h :
    ∃ (r2 : Int32) (μ1 : mz_M), C n_Tape_here [mz_R 7 p0] μ (some (mz_I r2)) μ1 ∧
      (if (r2 : Int32) = (94 : Int32) then
        (if (x1 : Int32) = (2 : Int32) then
          (∃ (r4 : Int32) (μ3 : mz_M), C n_Tape_readFigure [mz_R 7 p0] μ1 (some (mz_I r4)) μ3 ∧
            (Q (some (mz_I r4)) μ3))
        else
          (if (r2 : Int32) = (43 : Int32) then
            (∃ (r6 : Int32) (μ5 : mz_M), C n_Tape_pass [mz_R 7 p0, mz_I r2, mz_I 1] μ1 (some (mz_I r6)) μ5 ∧
              (Q (some (mz_I r6)) μ5))
          else
            (if (r2 : Int32) = (45 : Int32) then
              (∃ (r8 : Int32) (μ7 : mz_M), C n_Tape_pass [mz_R 7 p0, mz_I r2, mz_I 1] μ1 (some (mz_I r8)) μ7 ∧
                (Q (some (mz_I r8)) μ7))
            else
              (if (r2 : Int32) = (42 : Int32) then
                (∃ (r10 : Int32) (μ9 : mz_M), C n_Tape_pass [mz_R 7 p0, mz_I r2, mz_I 1] μ1 (some (mz_I r10)) μ9 ∧
                  (Q (some (mz_I r10)) μ9))
              else
                (if (r2 : Int32) = (47 : Int32) then
                  (∃ (r12 : Int32) (μ11 : mz_M), C n_Tape_pass [mz_R 7 p0, mz_I r2, mz_I 1] μ1 (some (mz_I r12)) μ11 ∧
                    (Q (some (mz_I r12)) μ11))
                else
                  (if (r2 : Int32) = (41 : Int32) then
                    (if (μ1.1 p0 3 : Int32) ≤ (0 : Int32) then
                      (Q (some (mz_I 0)) μ1)
                    else
                      (∃ (r14 : Int32) (μ13 : mz_M), C n_Tape_pass [mz_R 7 p0, mz_I r2, mz_I 2] (mz_wI μ1 p0 3 ((μ1.1 p0 3) - 1)) (some (mz_I r14)) μ13 ∧
                        (Q (some (mz_I r14)) μ13)))
                  else
                    (Q (some (mz_I 0)) μ1)))))))
      else
        (if (r2 : Int32) = (43 : Int32) then
          (∃ (r16 : Int32) (μ15 : mz_M), C n_Tape_pass [mz_R 7 p0, mz_I r2, mz_I 1] μ1 (some (mz_I r16)) μ15 ∧
            (Q (some (mz_I r16)) μ15))
        else
          (if (r2 : Int32) = (45 : Int32) then
            (∃ (r18 : Int32) (μ17 : mz_M), C n_Tape_pass [mz_R 7 p0, mz_I r2, mz_I 1] μ1 (some (mz_I r18)) μ17 ∧
              (Q (some (mz_I r18)) μ17))
          else
            (if (r2 : Int32) = (42 : Int32) then
              (∃ (r20 : Int32) (μ19 : mz_M), C n_Tape_pass [mz_R 7 p0, mz_I r2, mz_I 1] μ1 (some (mz_I r20)) μ19 ∧
                (Q (some (mz_I r20)) μ19))
            else
              (if (r2 : Int32) = (47 : Int32) then
                (∃ (r22 : Int32) (μ21 : mz_M), C n_Tape_pass [mz_R 7 p0, mz_I r2, mz_I 1] μ1 (some (mz_I r22)) μ21 ∧
                  (Q (some (mz_I r22)) μ21))
              else
                (if (r2 : Int32) = (41 : Int32) then
                  (if (μ1.1 p0 3 : Int32) ≤ (0 : Int32) then
                    (Q (some (mz_I 0)) μ1)
                  else
                    (∃ (r24 : Int32) (μ23 : mz_M), C n_Tape_pass [mz_R 7 p0, mz_I r2, mz_I 2] (mz_wI μ1 p0 3 ((μ1.1 p0 3) - 1)) (some (mz_I r24)) μ23 ∧
                      (Q (some (mz_I r24)) μ23)))
                else
                  (Q (some (mz_I 0)) μ1)))))))) :
  v_Tape_readBehindAtom C Q (0, [(0, mz_R 7 p0), (1, mz_I x1)], [], μ) := mz_Ev.run [] 400 h
/-! EtaSeries$Tape.readFigure()I, number 56 -/
abbrev v_Tape_readFigure (C : mz_Cl) (Q : Option mz_V → mz_M → Prop) : mz_S → Prop := mz_Ev es_SH tb_Tape_readFigure C Q
set_option maxRecDepth 20000 in
set_option maxHeartbeats 4000000 in
theorem w_Tape_readFigure_0 {C : mz_Cl} {Q : Option mz_V → mz_M → Prop} (p0 : Nat) (μ : mz_M) (h :
    ∃ μ1, C n_Tape_skipBlanks [mz_R 7 p0] (mz_wI μ p0 2 ((μ.1 p0 2) + 1)) none μ1 ∧
      (∃ (r3 : Int32) (μ2 : mz_M), C n_Tape_here [mz_R 7 p0] μ1 (some (mz_I r3)) μ2 ∧
        (if (r3 : Int32) < (48 : Int32) then
          (Q (some (mz_I 0)) μ2)
        else
          (if (r3 : Int32) ≤ (56 : Int32) then
            (∃ μ4, C n_Tape_note [mz_R 7 p0, mz_I 94, mz_I (r3 - 48)] (mz_wI μ2 p0 2 ((μ2.1 p0 2) + 1)) none μ4 ∧
              (Q (some (mz_I 3)) μ4))
          else
            (Q (some (mz_I 0)) μ2))))) :
  v_Tape_readFigure C Q (0, [(0, mz_R 7 p0)], [], μ) := mz_Ev.run [] 400 h
/-! EtaSeries$Tape.readNumber()I, number 57 -/
abbrev v_Tape_readNumber (C : mz_Cl) (Q : Option mz_V → mz_M → Prop) : mz_S → Prop := mz_Ev es_SH tb_Tape_readNumber C Q
set_option maxRecDepth 20000 in
set_option maxHeartbeats 4000000 in
theorem w_Tape_readNumber_0 {C : mz_Cl} {Q : Option mz_V → mz_M → Prop} (p0 : Nat) (μ : mz_M) (h :
    v_Tape_readNumber C Q (4, [(0, mz_R 7 p0), (1, mz_I 0), (2, mz_I 0)], [], μ)) :
  v_Tape_readNumber C Q (0, [(0, mz_R 7 p0)], [], μ) := mz_Ev.run [4] 400 h
set_option maxRecDepth 20000 in
set_option maxHeartbeats 4000000 in
theorem w_Tape_readNumber_4 {C : mz_Cl} {Q : Option mz_V → mz_M → Prop} (p0 : Nat) (x1 : Int32) (x2 : Int32) (μ : mz_M) (h :
    if (2 : Int32) ≤ (x2 : Int32) then
      (Q (some (mz_I x1)) μ)
    else
      (∃ (r2 : Int32) (μ1 : mz_M), C n_Tape_digitIsHere [mz_R 7 p0] μ (some (mz_I r2)) μ1 ∧
        (if (r2 : Int32) = (0 : Int32) then
          (Q (some (mz_I x1)) μ1)
        else
          (∃ (r4 : Int32) (μ3 : mz_M), C n_Tape_here [mz_R 7 p0] μ1 (some (mz_I r4)) μ3 ∧
            (v_Tape_readNumber C Q (4, [(0, mz_R 7 p0), (1, mz_I (((10 * x1) + r4) - 48)), (2, mz_I (x2 + 1))], [], mz_wI μ3 p0 2 ((μ3.1 p0 2) + 1))))))) :
  v_Tape_readNumber C Q (4, [(0, mz_R 7 p0), (1, mz_I x1), (2, mz_I x2)], [], μ) := mz_Ev.run [4] 400 h
/-! EtaSeries$Tape.pass(II)I, number 58 -/
abbrev v_Tape_pass (C : mz_Cl) (Q : Option mz_V → mz_M → Prop) : mz_S → Prop := mz_Ev es_SH tb_Tape_pass C Q
set_option maxRecDepth 20000 in
set_option maxHeartbeats 4000000 in
theorem w_Tape_pass_0 {C : mz_Cl} {Q : Option mz_V → mz_M → Prop} (p0 : Nat) (x1 : Int32) (x2 : Int32) (μ : mz_M) (h :
    ∃ μ1, C n_Tape_note [mz_R 7 p0, mz_I x1, mz_I 0] (mz_wI μ p0 2 ((μ.1 p0 2) + 1)) none μ1 ∧
      (Q (some (mz_I x2)) μ1)) :
  v_Tape_pass C Q (0, [(0, mz_R 7 p0), (1, mz_I x1), (2, mz_I x2)], [], μ) := mz_Ev.run [] 400 h
/-! EtaSeries$Tape.note(II)V, number 59 -/
abbrev v_Tape_note (C : mz_Cl) (Q : Option mz_V → mz_M → Prop) : mz_S → Prop := mz_Ev es_SH tb_Tape_note C Q
set_option maxRecDepth 20000 in
set_option maxHeartbeats 4000000 in
theorem w_Tape_note_0 {C : mz_Cl} {Q : Option mz_V → mz_M → Prop} (p0 : Nat) (x1 : Int32) (x2 : Int32) (μ : mz_M) (h :
    if (μ.1 p0 6 : Int32) < (0 : Int32) then
      (Q none μ)
    else
      (if (nI 60 : Int32) ≤ (μ.1 p0 6 : Int32) then
        (Q none μ)
      else
        (vp_in (μ.1 p0 6) 60 ∧ (vp_in ((mz_wI μ (p0 + 2) (μ.1 p0 6 : Int32).toNatClampNeg x1).1 p0 6) 60 ∧ (Q none (mz_wI (mz_wI (mz_wI μ (p0 + 2) (μ.1 p0 6 : Int32).toNatClampNeg x1) (p0 + 3) ((mz_wI μ (p0 + 2) (μ.1 p0 6 : Int32).toNatClampNeg x1).1 p0 6 : Int32).toNatClampNeg x2) p0 6 (((mz_wI (mz_wI μ (p0 + 2) (μ.1 p0 6 : Int32).toNatClampNeg x1) (p0 + 3) ((mz_wI μ (p0 + 2) (μ.1 p0 6 : Int32).toNatClampNeg x1).1 p0 6 : Int32).toNatClampNeg x2).1 p0 6) + 1))))))) :
  v_Tape_note C Q (0, [(0, mz_R 7 p0), (1, mz_I x1), (2, mz_I x2)], [], μ) := mz_Ev.run [] 400 h
/-! EtaSeries$Tape.signAt(I)I, number 60 -/
abbrev v_Tape_signAt (C : mz_Cl) (Q : Option mz_V → mz_M → Prop) : mz_S → Prop := mz_Ev es_SH tb_Tape_signAt C Q
set_option maxRecDepth 20000 in
set_option maxHeartbeats 4000000 in
theorem w_Tape_signAt_0 {C : mz_Cl} {Q : Option mz_V → mz_M → Prop} (p0 : Nat) (x1 : Int32) (μ : mz_M) (h :
    if (x1 : Int32) < (0 : Int32) then
      (Q (some (mz_I 0)) μ)
    else
      (if (μ.1 p0 6 : Int32) ≤ (x1 : Int32) then
        (Q (some (mz_I 0)) μ)
      else
        (if (nI 60 : Int32) ≤ (x1 : Int32) then
          (Q (some (mz_I 0)) μ)
        else
          (vp_in x1 60 ∧ (Q (some (mz_I (μ.1 (p0 + 2) (x1 : Int32).toNatClampNeg))) μ))))) :
  v_Tape_signAt C Q (0, [(0, mz_R 7 p0), (1, mz_I x1)], [], μ) := mz_Ev.run [] 400 h
/-! EtaSeries$Tape.valueAt(I)I, number 61 -/
abbrev v_Tape_valueAt (C : mz_Cl) (Q : Option mz_V → mz_M → Prop) : mz_S → Prop := mz_Ev es_SH tb_Tape_valueAt C Q
set_option maxRecDepth 20000 in
set_option maxHeartbeats 4000000 in
theorem w_Tape_valueAt_0 {C : mz_Cl} {Q : Option mz_V → mz_M → Prop} (p0 : Nat) (x1 : Int32) (μ : mz_M) (h :
    if (x1 : Int32) < (0 : Int32) then
      (Q (some (mz_I 0)) μ)
    else
      (if (μ.1 p0 6 : Int32) ≤ (x1 : Int32) then
        (Q (some (mz_I 0)) μ)
      else
        (if (nI 60 : Int32) ≤ (x1 : Int32) then
          (Q (some (mz_I 0)) μ)
        else
          (vp_in x1 60 ∧ (Q (some (mz_I (μ.1 (p0 + 3) (x1 : Int32).toNatClampNeg))) μ))))) :
  v_Tape_valueAt C Q (0, [(0, mz_R 7 p0), (1, mz_I x1)], [], μ) := mz_Ev.run [] 400 h
/-! EtaSeries$Tape.kindOf(I)I, number 62 -/
abbrev v_Tape_kindOf (C : mz_Cl) (Q : Option mz_V → mz_M → Prop) : mz_S → Prop := mz_Ev es_SH tb_Tape_kindOf C Q
set_option maxRecDepth 20000 in
set_option maxHeartbeats 4000000 in
theorem w_Tape_kindOf_0 {C : mz_Cl} {Q : Option mz_V → mz_M → Prop} (x0 : Int32) (μ : mz_M) (h :
    if (x0 : Int32) = nI 101 then
      (Q (some (mz_I 3)) μ)
    else if (x0 : Int32) = nI 115 then
      (Q (some (mz_I 2)) μ)
    else if (x0 : Int32) = nI 116 then
      (Q (some (mz_I 1)) μ)
    else (Q (some (mz_I 4)) μ)) :
  v_Tape_kindOf C Q (0, [(0, mz_I x0)], [], μ) := mz_Ev.run [] 400 h
end
section
/-! What the stretches of the methods ask: by program, closed by evaluation. -/
/-! EtaSeries.make(III)I, number 63 -/
abbrev v_ES_make (C : mz_Cl) (Q : Option mz_V → mz_M → Prop) : mz_S → Prop := mz_Ev es_SH tb_ES_make C Q
set_option maxRecDepth 20000 in
set_option maxHeartbeats 4000000 in
theorem w_ES_make_0 {C : mz_Cl} {Q : Option mz_V → mz_M → Prop} (p0 : Nat) (x1 : Int32) (x2 : Int32) (x3 : Int32) (μ : mz_M) (h :
    ∃ (r2 : Int32) (μ1 : mz_M), C n_ES_isOneOfFour [mz_I x1] μ (some (mz_I r2)) μ1 ∧
      (if (r2 : Int32) = (0 : Int32) then
        (Q (some (mz_I ((-1000001)))) μ1)
      else
        (∃ (r4 : Int32) (μ3 : mz_M), C n_ES_isKind [mz_I x2, mz_I x3] μ1 (some (mz_I r4)) μ3 ∧
          (if (r4 : Int32) = (0 : Int32) then
            (Q (some (mz_I ((-1000001)))) μ3)
          else
            (∃ μ5, C n_Row_become [mz_R 3 200, mz_I x2, mz_I x3, mz_I (μ3.1 1 1)] μ3 none μ5 ∧
              (∃ (r7 : Int32) (μ6 : mz_M), C n_ES_settle [mz_R 0 p0, mz_I x1, mz_R 3 200] μ5 (some (mz_I r7)) μ6 ∧
                (Q (some (mz_I r7)) μ6))))))) :
  v_ES_make C Q (0, [(0, mz_R 0 p0), (1, mz_I x1), (2, mz_I x2), (3, mz_I x3)], [], μ) := mz_Ev.run [] 400 h
/-! EtaSeries.join(IIII)I, number 64 -/
abbrev v_ES_join (C : mz_Cl) (Q : Option mz_V → mz_M → Prop) : mz_S → Prop := mz_Ev es_SH tb_ES_join C Q
set_option maxRecDepth 20000 in
set_option maxHeartbeats 4000000 in
theorem w_ES_join_0 {C : mz_Cl} {Q : Option mz_V → mz_M → Prop} (p0 : Nat) (x1 : Int32) (x2 : Int32) (x3 : Int32) (x4 : Int32) (μ : mz_M) (h :
    ∃ (r2 : Int32) (μ1 : mz_M), C n_ES_isOneOfFour [mz_I x1] μ (some (mz_I r2)) μ1 ∧
      (if (r2 : Int32) = (0 : Int32) then
        (Q (some (mz_I ((-1000001)))) μ1)
      else
        (∃ (r4 : Int32) (μ3 : mz_M), C n_ES_isOneOfFour [mz_I x2] μ1 (some (mz_I r4)) μ3 ∧
          (if (r4 : Int32) = (0 : Int32) then
            (Q (some (mz_I ((-1000001)))) μ3)
          else
            (∃ (r6 : Int32) (μ5 : mz_M), C n_ES_isOneOfFour [mz_I x3] μ3 (some (mz_I r6)) μ5 ∧
              (if (r6 : Int32) = (0 : Int32) then
                (Q (some (mz_I ((-1000001)))) μ5)
              else
                (∃ (r8 : Int32) (μ7 : mz_M), C n_ES_isOneOfFour [mz_I x4] μ5 (some (mz_I r8)) μ7 ∧
                  (if (r8 : Int32) = (0 : Int32) then
                    (Q (some (mz_I ((-1000001)))) μ7)
                  else
                    (∃ (r10 : Int32) (μ9 : mz_M), C n_Shelf_isMissing [mz_R 1 1, mz_I x3] μ7 (some (mz_I r10)) μ9 ∧
                      (if (r10 : Int32) = (0 : Int32) then
                        (∃ (r12 : Int32) (μ11 : mz_M), C n_Shelf_isMissing [mz_R 1 1, mz_I x4] μ9 (some (mz_I r12)) μ11 ∧
                          (if (r12 : Int32) = (0 : Int32) then
                            (vp_in x3 4 ∧ (vp_in x4 4 ∧ (∃ (r14 : Int32) (μ13 : mz_M), C n_Row_becomeJoined [mz_R 3 200, mz_I x2, mz_R 3 (3 + 2 * (x3 : Int32).toNatClampNeg), mz_R 3 (3 + 2 * (x4 : Int32).toNatClampNeg)] μ11 (some (mz_I r14)) μ13 ∧
                              (if (r14 : Int32) = (0 : Int32) then
                                (∃ (r16 : Int32) (μ15 : mz_M), C n_ES_settle [mz_R 0 p0, mz_I x1, mz_R 3 200] μ13 (some (mz_I r16)) μ15 ∧
                                  (Q (some (mz_I r16)) μ15))
                              else
                                (Q (some (mz_I r14)) μ13)))))
                          else
                            (Q (some (mz_I ((-1000011)))) μ11)))
                      else
                        (Q (some (mz_I ((-1000011)))) μ9))))))))))) :
  v_ES_join C Q (0, [(0, mz_R 0 p0), (1, mz_I x1), (2, mz_I x2), (3, mz_I x3), (4, mz_I x4)], [], μ) := mz_Ev.run [] 400 h
/-! EtaSeries.change(III)I, number 65 -/
abbrev v_ES_change (C : mz_Cl) (Q : Option mz_V → mz_M → Prop) : mz_S → Prop := mz_Ev es_SH tb_ES_change C Q
set_option maxRecDepth 20000 in
set_option maxHeartbeats 4000000 in
theorem w_ES_change_0 {C : mz_Cl} {Q : Option mz_V → mz_M → Prop} (p0 : Nat) (x1 : Int32) (x2 : Int32) (x3 : Int32) (μ : mz_M) (h :
    ∃ (r2 : Int32) (μ1 : mz_M), C n_ES_isOneOfFour [mz_I x1] μ (some (mz_I r2)) μ1 ∧
      (if (r2 : Int32) = (0 : Int32) then
        (Q (some (mz_I ((-1000001)))) μ1)
      else
        (∃ (r4 : Int32) (μ3 : mz_M), C n_ES_isChange [mz_I x2, mz_I x3] μ1 (some (mz_I r4)) μ3 ∧
          (if (r4 : Int32) = (0 : Int32) then
            (Q (some (mz_I ((-1000001)))) μ3)
          else
            (∃ (r6 : Int32) (μ5 : mz_M), C n_Shelf_isMissing [mz_R 1 1, mz_I x1] μ3 (some (mz_I r6)) μ5 ∧
              (if (r6 : Int32) = (0 : Int32) then
                (vp_in x1 4 ∧ (if (x2 : Int32) = (4 : Int32) then
                  (if (x3 : Int32) ≤ (μ5.1 (3 + 2 * (x1 : Int32).toNatClampNeg) 1 : Int32) then
                    (if (x2 : Int32) = (5 : Int32) then
                      (∃ (r8 : Int32) (μ7 : mz_M), C n_Row_becomePower [mz_R 3 200, mz_R 3 (3 + 2 * (x1 : Int32).toNatClampNeg), mz_I x3, mz_R 3 202] μ5 (some (mz_I r8)) μ7 ∧
                        (if (r8 : Int32) = (0 : Int32) then
                          (∃ (r10 : Int32) (μ9 : mz_M), C n_ES_settle [mz_R 0 p0, mz_I x1, mz_R 3 200] μ7 (some (mz_I r10)) μ9 ∧
                            (Q (some (mz_I r10)) μ9))
                        else
                          (Q (some (mz_I r8)) μ7)))
                    else
                      (∃ (r12 : Int32) (μ11 : mz_M), C n_Row_becomeChanged [mz_R 3 200, mz_I x2, mz_I x3, mz_R 3 (3 + 2 * (x1 : Int32).toNatClampNeg)] μ5 (some (mz_I r12)) μ11 ∧
                        (if (r12 : Int32) = (0 : Int32) then
                          (∃ (r14 : Int32) (μ13 : mz_M), C n_ES_settle [mz_R 0 p0, mz_I x1, mz_R 3 200] μ11 (some (mz_I r14)) μ13 ∧
                            (Q (some (mz_I r14)) μ13))
                        else
                          (Q (some (mz_I r12)) μ11))))
                  else
                    (Q (some (mz_I ((-1000001)))) μ5))
                else
                  (if (x2 : Int32) = (5 : Int32) then
                    (∃ (r16 : Int32) (μ15 : mz_M), C n_Row_becomePower [mz_R 3 200, mz_R 3 (3 + 2 * (x1 : Int32).toNatClampNeg), mz_I x3, mz_R 3 202] μ5 (some (mz_I r16)) μ15 ∧
                      (if (r16 : Int32) = (0 : Int32) then
                        (∃ (r18 : Int32) (μ17 : mz_M), C n_ES_settle [mz_R 0 p0, mz_I x1, mz_R 3 200] μ15 (some (mz_I r18)) μ17 ∧
                          (Q (some (mz_I r18)) μ17))
                      else
                        (Q (some (mz_I r16)) μ15)))
                  else
                    (∃ (r20 : Int32) (μ19 : mz_M), C n_Row_becomeChanged [mz_R 3 200, mz_I x2, mz_I x3, mz_R 3 (3 + 2 * (x1 : Int32).toNatClampNeg)] μ5 (some (mz_I r20)) μ19 ∧
                      (if (r20 : Int32) = (0 : Int32) then
                        (∃ (r22 : Int32) (μ21 : mz_M), C n_ES_settle [mz_R 0 p0, mz_I x1, mz_R 3 200] μ19 (some (mz_I r22)) μ21 ∧
                          (Q (some (mz_I r22)) μ21))
                      else
                        (Q (some (mz_I r20)) μ19))))))
              else
                (Q (some (mz_I ((-1000011)))) μ5))))))) :
  v_ES_change C Q (0, [(0, mz_R 0 p0), (1, mz_I x1), (2, mz_I x2), (3, mz_I x3)], [], μ) := mz_Ev.run [] 400 h
/-! EtaSeries.out(I)I, number 66 -/
abbrev v_ES_out (C : mz_Cl) (Q : Option mz_V → mz_M → Prop) : mz_S → Prop := mz_Ev es_SH tb_ES_out C Q
set_option maxRecDepth 20000 in
set_option maxHeartbeats 4000000 in
theorem w_ES_out_0 {C : mz_Cl} {Q : Option mz_V → mz_M → Prop} (p0 : Nat) (x1 : Int32) (μ : mz_M) (h :
    ∃ (r2 : Int32) (μ1 : mz_M), C n_ES_isOneOfFour [mz_I x1] μ (some (mz_I r2)) μ1 ∧
      (if (r2 : Int32) = (0 : Int32) then
        (Q (some (mz_I ((-1000001)))) μ1)
      else
        (∃ (r4 : Int32) (μ3 : mz_M), C n_Shelf_isMissing [mz_R 1 1, mz_I x1] μ1 (some (mz_I r4)) μ3 ∧
          (if (r4 : Int32) = (0 : Int32) then
            (vp_in x1 4 ∧ (∃ μ5, C n_Past_remember [mz_R 5 11, mz_R 1 1] μ3 none μ5 ∧
              (vp_in x1 4 ∧ (∃ μ6, C n_Row_begin [mz_R 3 (3 + 2 * (x1 : Int32).toNatClampNeg), mz_I 0] μ5 none μ6 ∧
                (Q (some (mz_I (μ3.1 (3 + 2 * (x1 : Int32).toNatClampNeg) 1))) μ6)))))
          else
            (Q (some (mz_I ((-1000011)))) μ3))))) :
  v_ES_out C Q (0, [(0, mz_R 0 p0), (1, mz_I x1)], [], μ) := mz_Ev.run [] 400 h
/-! EtaSeries.length(I)I, number 67 -/
abbrev v_ES_length (C : mz_Cl) (Q : Option mz_V → mz_M → Prop) : mz_S → Prop := mz_Ev es_SH tb_ES_length C Q
set_option maxRecDepth 20000 in
set_option maxHeartbeats 4000000 in
theorem w_ES_length_0 {C : mz_Cl} {Q : Option mz_V → mz_M → Prop} (p0 : Nat) (x1 : Int32) (μ : mz_M) (h :
    if (x1 : Int32) < (4 : Int32) then
      (Q (some (mz_I ((-1000001)))) μ)
    else
      (if (x1 : Int32) ≤ (40 : Int32) then
        (if (x1 : Int32) = (μ.1 1 1 : Int32) then
          (Q (some (mz_I ((-1000002)))) μ)
        else
          (∃ μ1, C n_Past_remember [mz_R 5 11, mz_R 1 1] μ none μ1 ∧
            (Q (some (mz_I (μ.1 1 1))) (mz_wI μ1 1 1 x1))))
      else
        (Q (some (mz_I ((-1000001)))) μ))) :
  v_ES_length C Q (0, [(0, mz_R 0 p0), (1, mz_I x1)], [], μ) := mz_Ev.run [] 400 h
/-! EtaSeries.type(I)I, number 68 -/
abbrev v_ES_type (C : mz_Cl) (Q : Option mz_V → mz_M → Prop) : mz_S → Prop := mz_Ev es_SH tb_ES_type C Q
set_option maxRecDepth 20000 in
set_option maxHeartbeats 4000000 in
theorem w_ES_type_0 {C : mz_Cl} {Q : Option mz_V → mz_M → Prop} (p0 : Nat) (x1 : Int32) (μ : mz_M) (h :
    if (x1 : Int32) < (32 : Int32) then
      (Q (some (mz_I ((-1000001)))) μ)
    else
      (if (x1 : Int32) ≤ (126 : Int32) then
        (∃ (r2 : Int32) (μ1 : mz_M), C n_Tape_write [mz_R 7 145, mz_I x1] μ (some (mz_I r2)) μ1 ∧
          (if (r2 : Int32) = (0 : Int32) then
            (Q (some (mz_I ((-1000003)))) μ1)
          else
            (Q (some (mz_I (μ1.1 145 1))) μ1)))
      else
        (Q (some (mz_I ((-1000001)))) μ))) :
  v_ES_type C Q (0, [(0, mz_R 0 p0), (1, mz_I x1)], [], μ) := mz_Ev.run [] 400 h
/-! EtaSeries.work(I)I, number 69 -/
abbrev v_ES_work (C : mz_Cl) (Q : Option mz_V → mz_M → Prop) : mz_S → Prop := mz_Ev es_SH tb_ES_work C Q
set_option maxRecDepth 20000 in
set_option maxHeartbeats 4000000 in
theorem w_ES_work_0 {C : mz_Cl} {Q : Option mz_V → mz_M → Prop} (p0 : Nat) (x1 : Int32) (μ : mz_M) (h :
    ∃ (r2 : Int32) (μ1 : mz_M), C n_ES_isOneOfFour [mz_I x1] μ (some (mz_I r2)) μ1 ∧
      (if (r2 : Int32) = (0 : Int32) then
        (Q (some (mz_I ((-1000001)))) μ1)
      else
        (∃ (r4 : Int32) (μ3 : mz_M), C n_Tape_parse [mz_R 7 145] μ1 (some (mz_I r4)) μ3 ∧
          (if (r4 : Int32) = (0 : Int32) then
            (∃ μ5, C n_Mill_reset [mz_R 9 149, mz_I ((mz_wI μ3 145 1 0).1 1 1)] (mz_wI μ3 145 1 0) none μ5 ∧
              (∃ (r7 : Int32) (μ6 : mz_M), C n_Mill_workSum [mz_R 9 149, mz_I 0] μ5 (some (mz_I r7)) μ6 ∧
                (if (r7 : Int32) = (0 : Int32) then
                  (∃ (r9 : Nat) (μ8 : mz_M), C n_Mill_result [mz_R 9 149] μ6 (some (mz_R 3 r9)) μ8 ∧
                    (∃ (r11 : Int32) (μ10 : mz_M), C n_ES_settle [mz_R 0 p0, mz_I x1, mz_R 3 r9] μ8 (some (mz_I r11)) μ10 ∧
                      (Q (some (mz_I r11)) μ10)))
                else
                  (Q (some (mz_I r7)) μ6))))
          else
            (Q (some (mz_I r4)) (mz_wI μ3 145 1 0)))))) :
  v_ES_work C Q (0, [(0, mz_R 0 p0), (1, mz_I x1)], [], μ) := mz_Ev.run [] 400 h
/-! EtaSeries.drift(I)I, number 70 -/
abbrev v_ES_drift (C : mz_Cl) (Q : Option mz_V → mz_M → Prop) : mz_S → Prop := mz_Ev es_SH tb_ES_drift C Q
set_option maxRecDepth 20000 in
set_option maxHeartbeats 4000000 in
theorem w_ES_drift_0 {C : mz_Cl} {Q : Option mz_V → mz_M → Prop} (p0 : Nat) (x1 : Int32) (μ : mz_M) (h :
    if (x1 : Int32) < (1 : Int32) then
      (Q (some (mz_I ((-1000001)))) μ)
    else
      (if (x1 : Int32) ≤ (40 : Int32) then
        (v_ES_drift C Q (16, [(0, mz_R 0 p0), (1, mz_I x1), (2, mz_I 0)], [], μ))
      else
        (Q (some (mz_I ((-1000001)))) μ))) :
  v_ES_drift C Q (0, [(0, mz_R 0 p0), (1, mz_I x1)], [], μ) := mz_Ev.run [16] 400 h
set_option maxRecDepth 20000 in
set_option maxHeartbeats 4000000 in
theorem w_ES_drift_16 {C : mz_Cl} {Q : Option mz_V → mz_M → Prop} (p0 : Nat) (x1 : Int32) (x2 : Int32) (μ : mz_M) (h :
    if (x1 : Int32) ≤ (x2 : Int32) then
      (∃ (r2 : Int32) (μ1 : mz_M), C n_Shelf_present [mz_R 1 1] μ (some (mz_I r2)) μ1 ∧
        (Q (some (mz_I r2)) μ1))
    else
      (∃ μ3, C n_Past_remember [mz_R 5 11, mz_R 1 1] μ none μ3 ∧
        (∃ μ4, C n_Shelf_turnDraw [mz_R 1 1] μ3 none μ4 ∧
          (v_ES_drift C Q (16, [(0, mz_R 0 p0), (1, mz_I x1), (2, mz_I (x2 + 1))], [], μ4))))) :
  v_ES_drift C Q (16, [(0, mz_R 0 p0), (1, mz_I x1), (2, mz_I x2)], [], μ) := mz_Ev.run [16] 400 h
/-! EtaSeries.undo()I, number 71 -/
abbrev v_ES_undo (C : mz_Cl) (Q : Option mz_V → mz_M → Prop) : mz_S → Prop := mz_Ev es_SH tb_ES_undo C Q
set_option maxRecDepth 20000 in
set_option maxHeartbeats 4000000 in
theorem w_ES_undo_0 {C : mz_Cl} {Q : Option mz_V → mz_M → Prop} (p0 : Nat) (μ : mz_M) (h :
    ∃ (r2 : Int32) (μ1 : mz_M), C n_Past_bringBack [mz_R 5 11, mz_R 1 1] μ (some (mz_I r2)) μ1 ∧
      (if (r2 : Int32) = (0 : Int32) then
        (Q (some (mz_I ((-1000004)))) μ1)
      else
        (Q (some (mz_I (μ1.1 11 1))) μ1))) :
  v_ES_undo C Q (0, [(0, mz_R 0 p0)], [], μ) := mz_Ev.run [] 400 h
/-! EtaSeries.seed(I)I, number 72 -/
abbrev v_ES_seed (C : mz_Cl) (Q : Option mz_V → mz_M → Prop) : mz_S → Prop := mz_Ev es_SH tb_ES_seed C Q
set_option maxRecDepth 20000 in
set_option maxHeartbeats 4000000 in
theorem w_ES_seed_0 {C : mz_Cl} {Q : Option mz_V → mz_M → Prop} (p0 : Nat) (x1 : Int32) (μ : mz_M) (h :
    if (0 : Int32) ≤ (x1 : Int32) then
      (Q (some (mz_I (μ.1 1 2))) (mz_wI μ 1 2 x1))
    else
      (Q (some (mz_I ((-1000001)))) μ)) :
  v_ES_seed C Q (0, [(0, mz_R 0 p0), (1, mz_I x1)], [], μ) := mz_Ev.run [] 400 h
/-! EtaSeries.term(II)I, number 73 -/
abbrev v_ES_term (C : mz_Cl) (Q : Option mz_V → mz_M → Prop) : mz_S → Prop := mz_Ev es_SH tb_ES_term C Q
set_option maxRecDepth 20000 in
set_option maxHeartbeats 4000000 in
theorem w_ES_term_0 {C : mz_Cl} {Q : Option mz_V → mz_M → Prop} (p0 : Nat) (x1 : Int32) (x2 : Int32) (μ : mz_M) (h :
    ∃ (r2 : Int32) (μ1 : mz_M), C n_ES_isOneOfFour [mz_I x1] μ (some (mz_I r2)) μ1 ∧
      (if (r2 : Int32) = (0 : Int32) then
        (Q (some (mz_I ((-1000001)))) μ1)
      else
        (if (0 : Int32) ≤ (x2 : Int32) then
          (∃ (r4 : Int32) (μ3 : mz_M), C n_Shelf_isMissing [mz_R 1 1, mz_I x1] μ1 (some (mz_I r4)) μ3 ∧
            (if (r4 : Int32) = (0 : Int32) then
              (vp_in x1 4 ∧ (if (μ3.1 (3 + 2 * (x1 : Int32).toNatClampNeg) 1 : Int32) ≤ (x2 : Int32) then
                (Q (some (mz_I ((-1000001)))) μ3)
              else
                (∃ (r6 : Int32) (μ5 : mz_M), C n_Row_at [mz_R 3 (3 + 2 * (x1 : Int32).toNatClampNeg), mz_I x2] μ3 (some (mz_I r6)) μ5 ∧
                  (Q (some (mz_I r6)) μ5))))
            else
              (Q (some (mz_I ((-1000011)))) μ3)))
        else
          (Q (some (mz_I ((-1000001)))) μ1)))) :
  v_ES_term C Q (0, [(0, mz_R 0 p0), (1, mz_I x1), (2, mz_I x2)], [], μ) := mz_Ev.run [] 400 h
/-! EtaSeries.count(I)I, number 74 -/
abbrev v_ES_count (C : mz_Cl) (Q : Option mz_V → mz_M → Prop) : mz_S → Prop := mz_Ev es_SH tb_ES_count C Q
set_option maxRecDepth 20000 in
set_option maxHeartbeats 4000000 in
theorem w_ES_count_0 {C : mz_Cl} {Q : Option mz_V → mz_M → Prop} (p0 : Nat) (x1 : Int32) (μ : mz_M) (h :
    if (x1 : Int32) = nI 0 then
      (Q (some (mz_I (μ.1 1 1))) μ)
    else if (x1 : Int32) = nI 1 then
      (∃ (r2 : Int32) (μ1 : mz_M), C n_Shelf_present [mz_R 1 1] μ (some (mz_I r2)) μ1 ∧
        (Q (some (mz_I r2)) μ1))
    else if (x1 : Int32) = nI 2 then
      (vp_in (x1 - 2) 4 ∧ (Q (some (mz_I (μ.1 (3 + 2 * (x1 - 2 : Int32).toNatClampNeg) 1))) μ))
    else if (x1 : Int32) = nI 3 then
      (vp_in (x1 - 2) 4 ∧ (Q (some (mz_I (μ.1 (3 + 2 * (x1 - 2 : Int32).toNatClampNeg) 1))) μ))
    else if (x1 : Int32) = nI 4 then
      (vp_in (x1 - 2) 4 ∧ (Q (some (mz_I (μ.1 (3 + 2 * (x1 - 2 : Int32).toNatClampNeg) 1))) μ))
    else if (x1 : Int32) = nI 5 then
      (vp_in (x1 - 2) 4 ∧ (Q (some (mz_I (μ.1 (3 + 2 * (x1 - 2 : Int32).toNatClampNeg) 1))) μ))
    else if (x1 : Int32) = nI 6 then
      (Q (some (mz_I (μ.1 149 8))) μ)
    else if (x1 : Int32) = nI 7 then
      (Q (some (mz_I (μ.1 149 9))) μ)
    else if (x1 : Int32) = nI 8 then
      (Q (some (mz_I (μ.1 11 1))) μ)
    else (Q (some (mz_I ((-1000001)))) μ)) :
  v_ES_count C Q (0, [(0, mz_R 0 p0), (1, mz_I x1)], [], μ) := mz_Ev.run [] 400 h
/-! EtaSeries.first(II)I, number 75 -/
abbrev v_ES_first (C : mz_Cl) (Q : Option mz_V → mz_M → Prop) : mz_S → Prop := mz_Ev es_SH tb_ES_first C Q
set_option maxRecDepth 20000 in
set_option maxHeartbeats 4000000 in
theorem w_ES_first_0 {C : mz_Cl} {Q : Option mz_V → mz_M → Prop} (p0 : Nat) (x1 : Int32) (x2 : Int32) (μ : mz_M) (h :
    ∃ (r2 : Int32) (μ1 : mz_M), C n_ES_isOneOfFour [mz_I x1] μ (some (mz_I r2)) μ1 ∧
      (if (r2 : Int32) = (0 : Int32) then
        (Q (some (mz_I ((-1000001)))) μ1)
      else
        (∃ (r4 : Int32) (μ3 : mz_M), C n_ES_isOneOfFour [mz_I x2] μ1 (some (mz_I r4)) μ3 ∧
          (if (r4 : Int32) = (0 : Int32) then
            (Q (some (mz_I ((-1000001)))) μ3)
          else
            (∃ (r6 : Int32) (μ5 : mz_M), C n_Shelf_isMissing [mz_R 1 1, mz_I x1] μ3 (some (mz_I r6)) μ5 ∧
              (if (r6 : Int32) = (0 : Int32) then
                (∃ (r8 : Int32) (μ7 : mz_M), C n_Shelf_isMissing [mz_R 1 1, mz_I x2] μ5 (some (mz_I r8)) μ7 ∧
                  (if (r8 : Int32) = (0 : Int32) then
                    (vp_in x1 4 ∧ (vp_in x2 4 ∧ (∃ (r10 : Int32) (μ9 : mz_M), C n_ES_firstUnlike [mz_R 3 (3 + 2 * (x1 : Int32).toNatClampNeg), mz_R 3 (3 + 2 * (x2 : Int32).toNatClampNeg)] μ7 (some (mz_I r10)) μ9 ∧
                      (Q (some (mz_I r10)) μ9))))
                  else
                    (Q (some (mz_I ((-1000011)))) μ7)))
              else
                (Q (some (mz_I ((-1000011)))) μ5))))))) :
  v_ES_first C Q (0, [(0, mz_R 0 p0), (1, mz_I x1), (2, mz_I x2)], [], μ) := mz_Ev.run [] 400 h
/-! EtaSeries.fits(IIIII)I, number 76 -/
abbrev v_ES_fits (C : mz_Cl) (Q : Option mz_V → mz_M → Prop) : mz_S → Prop := mz_Ev es_SH tb_ES_fits C Q
set_option maxRecDepth 20000 in
set_option maxHeartbeats 4000000 in
theorem w_ES_fits_0 {C : mz_Cl} {Q : Option mz_V → mz_M → Prop} (p0 : Nat) (x1 : Int32) (x2 : Int32) (x3 : Int32) (x4 : Int32) (x5 : Int32) (μ : mz_M) (h :
    if (x4 : Int32) < (2 : Int32) then
      (∃ (r2 : Int32) (μ1 : mz_M), C n_ES_isOneOfFour [mz_I x1] μ (some (mz_I r2)) μ1 ∧
        (if (r2 : Int32) = (0 : Int32) then
          (Q (some (mz_I ((-1000001)))) μ1)
        else
          (∃ (r4 : Int32) (μ3 : mz_M), C n_ES_isStep [mz_I x2, mz_I x3] μ1 (some (mz_I r4)) μ3 ∧
            (if (r4 : Int32) = (0 : Int32) then
              (Q (some (mz_I ((-1000001)))) μ3)
            else
              (if (0 : Int32) = (0 : Int32) then
                (Q (some (mz_I ((-1000001)))) μ3)
              else
                (∃ (r6 : Int32) (μ5 : mz_M), C n_ES_isWithin [mz_I x5, mz_I 1] μ3 (some (mz_I r6)) μ5 ∧
                  (if (r6 : Int32) = (0 : Int32) then
                    (Q (some (mz_I ((-1000001)))) μ5)
                  else
                    (∃ (r8 : Int32) (μ7 : mz_M), C n_Shelf_isMissing [mz_R 1 1, mz_I x1] μ5 (some (mz_I r8)) μ7 ∧
                      (if (r8 : Int32) = (0 : Int32) then
                        (vp_in x1 4 ∧ (∃ (r10 : Int32) (μ9 : mz_M), C n_ES_firstMisfit [mz_R 3 (3 + 2 * (x1 : Int32).toNatClampNeg), mz_I x2, mz_I x3, mz_I x4] μ7 (some (mz_I r10)) μ9 ∧
                          (if (x5 : Int32) = (1 : Int32) then
                            (Q (some (mz_I r10)) μ9)
                          else
                            (if (r10 : Int32) = ((-1000004) : Int32) then
                              (Q (some (mz_I 1)) μ9)
                            else
                              (Q (some (mz_I 0)) μ9)))))
                      else
                        (Q (some (mz_I ((-1000011)))) μ7))))))))))
    else
      (if (9 : Int32) < (x4 : Int32) then
        (∃ (r12 : Int32) (μ11 : mz_M), C n_ES_isOneOfFour [mz_I x1] μ (some (mz_I r12)) μ11 ∧
          (if (r12 : Int32) = (0 : Int32) then
            (Q (some (mz_I ((-1000001)))) μ11)
          else
            (∃ (r14 : Int32) (μ13 : mz_M), C n_ES_isStep [mz_I x2, mz_I x3] μ11 (some (mz_I r14)) μ13 ∧
              (if (r14 : Int32) = (0 : Int32) then
                (Q (some (mz_I ((-1000001)))) μ13)
              else
                (if (0 : Int32) = (0 : Int32) then
                  (Q (some (mz_I ((-1000001)))) μ13)
                else
                  (∃ (r16 : Int32) (μ15 : mz_M), C n_ES_isWithin [mz_I x5, mz_I 1] μ13 (some (mz_I r16)) μ15 ∧
                    (if (r16 : Int32) = (0 : Int32) then
                      (Q (some (mz_I ((-1000001)))) μ15)
                    else
                      (∃ (r18 : Int32) (μ17 : mz_M), C n_Shelf_isMissing [mz_R 1 1, mz_I x1] μ15 (some (mz_I r18)) μ17 ∧
                        (if (r18 : Int32) = (0 : Int32) then
                          (vp_in x1 4 ∧ (∃ (r20 : Int32) (μ19 : mz_M), C n_ES_firstMisfit [mz_R 3 (3 + 2 * (x1 : Int32).toNatClampNeg), mz_I x2, mz_I x3, mz_I x4] μ17 (some (mz_I r20)) μ19 ∧
                            (if (x5 : Int32) = (1 : Int32) then
                              (Q (some (mz_I r20)) μ19)
                            else
                              (if (r20 : Int32) = ((-1000004) : Int32) then
                                (Q (some (mz_I 1)) μ19)
                              else
                                (Q (some (mz_I 0)) μ19)))))
                        else
                          (Q (some (mz_I ((-1000011)))) μ17))))))))))
      else
        (∃ (r22 : Int32) (μ21 : mz_M), C n_ES_isOneOfFour [mz_I x1] μ (some (mz_I r22)) μ21 ∧
          (if (r22 : Int32) = (0 : Int32) then
            (Q (some (mz_I ((-1000001)))) μ21)
          else
            (∃ (r24 : Int32) (μ23 : mz_M), C n_ES_isStep [mz_I x2, mz_I x3] μ21 (some (mz_I r24)) μ23 ∧
              (if (r24 : Int32) = (0 : Int32) then
                (Q (some (mz_I ((-1000001)))) μ23)
              else
                (if (1 : Int32) = (0 : Int32) then
                  (Q (some (mz_I ((-1000001)))) μ23)
                else
                  (∃ (r26 : Int32) (μ25 : mz_M), C n_ES_isWithin [mz_I x5, mz_I 1] μ23 (some (mz_I r26)) μ25 ∧
                    (if (r26 : Int32) = (0 : Int32) then
                      (Q (some (mz_I ((-1000001)))) μ25)
                    else
                      (∃ (r28 : Int32) (μ27 : mz_M), C n_Shelf_isMissing [mz_R 1 1, mz_I x1] μ25 (some (mz_I r28)) μ27 ∧
                        (if (r28 : Int32) = (0 : Int32) then
                          (vp_in x1 4 ∧ (∃ (r30 : Int32) (μ29 : mz_M), C n_ES_firstMisfit [mz_R 3 (3 + 2 * (x1 : Int32).toNatClampNeg), mz_I x2, mz_I x3, mz_I x4] μ27 (some (mz_I r30)) μ29 ∧
                            (if (x5 : Int32) = (1 : Int32) then
                              (Q (some (mz_I r30)) μ29)
                            else
                              (if (r30 : Int32) = ((-1000004) : Int32) then
                                (Q (some (mz_I 1)) μ29)
                              else
                                (Q (some (mz_I 0)) μ29)))))
                        else
                          (Q (some (mz_I ((-1000011)))) μ27)))))))))))) :
  v_ES_fits C Q (0, [(0, mz_R 0 p0), (1, mz_I x1), (2, mz_I x2), (3, mz_I x3), (4, mz_I x4), (5, mz_I x5)], [], μ) := mz_Ev.run [] 400 h
/-! EtaSeries.found(III)I, number 77 -/
abbrev v_ES_found (C : mz_Cl) (Q : Option mz_V → mz_M → Prop) : mz_S → Prop := mz_Ev es_SH tb_ES_found C Q
set_option maxRecDepth 20000 in
set_option maxHeartbeats 4000000 in
theorem w_ES_found_0 {C : mz_Cl} {Q : Option mz_V → mz_M → Prop} (p0 : Nat) (x1 : Int32) (x2 : Int32) (x3 : Int32) (μ : mz_M) (h :
    ∃ (r2 : Int32) (μ1 : mz_M), C n_ES_isOneOfFour [mz_I x1] μ (some (mz_I r2)) μ1 ∧
      (if (r2 : Int32) = (0 : Int32) then
        (Q (some (mz_I ((-1000001)))) μ1)
      else
        (∃ (r4 : Int32) (μ3 : mz_M), C n_ES_isStep [mz_I x2, mz_I x3] μ1 (some (mz_I r4)) μ3 ∧
          (if (r4 : Int32) = (0 : Int32) then
            (Q (some (mz_I ((-1000001)))) μ3)
          else
            (∃ (r6 : Int32) (μ5 : mz_M), C n_Shelf_isMissing [mz_R 1 1, mz_I x1] μ3 (some (mz_I r6)) μ5 ∧
              (if (r6 : Int32) = (0 : Int32) then
                (vp_in x1 4 ∧ (v_ES_found C Q (46, [(2, mz_I x2), (3, mz_I x3), (4, mz_R 3 (3 + 2 * (x1 : Int32).toNatClampNeg)), (5, mz_I x2)], [], μ5)))
              else
                (Q (some (mz_I ((-1000011)))) μ5))))))) :
  v_ES_found C Q (0, [(0, mz_R 0 p0), (1, mz_I x1), (2, mz_I x2), (3, mz_I x3)], [], μ) := mz_Ev.run [46, 66] 400 h
set_option maxRecDepth 20000 in
set_option maxHeartbeats 4000000 in
theorem w_ES_found_46 {C : mz_Cl} {Q : Option mz_V → mz_M → Prop} (x2 : Int32) (x3 : Int32) (p4 : Nat) (x5 : Int32) (μ : mz_M) (h :
    if (8 : Int32) < (x5 : Int32) then
      (Q (some (mz_I ((-1000004)))) μ)
    else
      (if (x5 : Int32) = (x2 : Int32) then
        (v_ES_found C Q (66, [(2, mz_I x2), (3, mz_I x3), (4, mz_R 3 p4), (5, mz_I x5), (6, mz_I x3)], [], μ))
      else
        (v_ES_found C Q (66, [(2, mz_I x2), (3, mz_I x3), (4, mz_R 3 p4), (5, mz_I x5), (6, mz_I 0)], [], μ)))) :
  v_ES_found C Q (46, [(2, mz_I x2), (3, mz_I x3), (4, mz_R 3 p4), (5, mz_I x5)], [], μ) := mz_Ev.run [46, 66] 400 h
set_option maxRecDepth 20000 in
set_option maxHeartbeats 4000000 in
theorem w_ES_found_66 {C : mz_Cl} {Q : Option mz_V → mz_M → Prop} (x2 : Int32) (x3 : Int32) (p4 : Nat) (x5 : Int32) (x6 : Int32) (μ : mz_M) (h :
    if (x5 : Int32) ≤ (x6 : Int32) then
      (v_ES_found C Q (46, [(2, mz_I x2), (3, mz_I x3), (4, mz_R 3 p4), (5, mz_I (x5 + 1))], [], μ))
    else
      (if (μ.1 p4 1 : Int32) ≤ (x6 + (2 * x5) : Int32) then
        (if ((-1000004) : Int32) = ((-1000004) : Int32) then
          (v_ES_found C Q (66, [(2, mz_I x2), (3, mz_I x3), (4, mz_R 3 p4), (5, mz_I x5), (6, mz_I (x6 + 1))], [], μ))
        else
          (Q (some (mz_I (((1000 * x5) + (100 * x6)) + ((-1000004))))) μ))
      else
        (∃ (r2 : Int32) (μ1 : mz_M), C n_ES_leastFitting [mz_R 3 p4, mz_I x5, mz_I x6] μ (some (mz_I r2)) μ1 ∧
          (if (r2 : Int32) = ((-1000004) : Int32) then
            (v_ES_found C Q (66, [(2, mz_I x2), (3, mz_I x3), (4, mz_R 3 p4), (5, mz_I x5), (6, mz_I (x6 + 1))], [], μ1))
          else
            (Q (some (mz_I (((1000 * x5) + (100 * x6)) + r2))) μ1))))) :
  v_ES_found C Q (66, [(2, mz_I x2), (3, mz_I x3), (4, mz_R 3 p4), (5, mz_I x5), (6, mz_I x6)], [], μ) := mz_Ev.run [46, 66] 400 h
/-! EtaSeries.guess(IIII)I, number 78 -/
abbrev v_ES_guess (C : mz_Cl) (Q : Option mz_V → mz_M → Prop) : mz_S → Prop := mz_Ev es_SH tb_ES_guess C Q
set_option maxRecDepth 20000 in
set_option maxHeartbeats 4000000 in
theorem w_ES_guess_0 {C : mz_Cl} {Q : Option mz_V → mz_M → Prop} (p0 : Nat) (x1 : Int32) (x2 : Int32) (x3 : Int32) (x4 : Int32) (μ : mz_M) (h :
    ∃ (r2 : Int32) (μ1 : mz_M), C n_ES_isOneOfFour [mz_I x1] μ (some (mz_I r2)) μ1 ∧
      (if (r2 : Int32) = (0 : Int32) then
        (Q (some (mz_I ((-1000001)))) μ1)
      else
        (∃ (r4 : Int32) (μ3 : mz_M), C n_ES_isWithin [mz_I x2, mz_I 6] μ1 (some (mz_I r4)) μ3 ∧
          (if (r4 : Int32) = (0 : Int32) then
            (Q (some (mz_I ((-1000001)))) μ3)
          else
            (∃ (r6 : Int32) (μ5 : mz_M), C n_ES_isWithin [mz_I x3, mz_I 10] μ3 (some (mz_I r6)) μ5 ∧
              (if (r6 : Int32) = (0 : Int32) then
                (Q (some (mz_I ((-1000001)))) μ5)
              else
                (∃ (r8 : Int32) (μ7 : mz_M), C n_ES_isWithin [mz_I x4, mz_I 1] μ5 (some (mz_I r8)) μ7 ∧
                  (if (r8 : Int32) = (0 : Int32) then
                    (Q (some (mz_I ((-1000001)))) μ7)
                  else
                    (∃ (r10 : Int32) (μ9 : mz_M), C n_Shelf_isMissing [mz_R 1 1, mz_I x1] μ7 (some (mz_I r10)) μ9 ∧
                      (if (r10 : Int32) = (0 : Int32) then
                        (vp_in x1 4 ∧ (if (x2 : Int32) ≤ (μ9.1 (3 + 2 * (x1 : Int32).toNatClampNeg) 1 : Int32) then
                          (if (x4 : Int32) = (0 : Int32) then
                            (∃ (r12 : Int32) (μ11 : mz_M), C n_ES_chanceOfEven [mz_R 3 (3 + 2 * (x1 : Int32).toNatClampNeg), mz_I x2, mz_I x3, mz_I 1] μ9 (some (mz_I r12)) μ11 ∧
                              (Q (some (mz_I r12)) μ11))
                          else
                            (∃ (r14 : Int32) (μ13 : mz_M), C n_ES_chanceOfEven [mz_R 3 (3 + 2 * (x1 : Int32).toNatClampNeg), mz_I x2, mz_I x3, mz_I 0] μ9 (some (mz_I r14)) μ13 ∧
                              (Q (some (mz_I r14)) μ13)))
                        else
                          (Q (some (mz_I ((-1000001)))) μ9)))
                      else
                        (Q (some (mz_I ((-1000011)))) μ9))))))))))) :
  v_ES_guess C Q (0, [(0, mz_R 0 p0), (1, mz_I x1), (2, mz_I x2), (3, mz_I x3), (4, mz_I x4)], [], μ) := mz_Ev.run [] 400 h
/-! EtaSeries.image()I, number 79 -/
abbrev v_ES_image (C : mz_Cl) (Q : Option mz_V → mz_M → Prop) : mz_S → Prop := mz_Ev es_SH tb_ES_image C Q
set_option maxRecDepth 20000 in
set_option maxHeartbeats 4000000 in
theorem w_ES_image_0 {C : mz_Cl} {Q : Option mz_V → mz_M → Prop} (p0 : Nat) (μ : mz_M) (h :
    ∃ μ1, C n_Shelf_take [mz_R 1 73, mz_R 1 1] μ none μ1 ∧
      (∃ μ2, C n_Past_takeAll [mz_R 5 83, mz_R 5 11] μ1 none μ2 ∧
        (((1 : Int32) = 0 ∨ (1 : Int32) = 1) ∧ (Q (some (mz_I 1)) (mz_wI μ2 p0 4 1))))) :
  v_ES_image C Q (0, [(0, mz_R 0 p0)], [], μ) := mz_Ev.run [] 400 h
/-! EtaSeries.restore()I, number 80 -/
abbrev v_ES_restore (C : mz_Cl) (Q : Option mz_V → mz_M → Prop) : mz_S → Prop := mz_Ev es_SH tb_ES_restore C Q
set_option maxRecDepth 20000 in
set_option maxHeartbeats 4000000 in
theorem w_ES_restore_0 {C : mz_Cl} {Q : Option mz_V → mz_M → Prop} (p0 : Nat) (μ : mz_M) (h :
    if (μ.1 p0 4 : Int32) = (0 : Int32) then
      (Q (some (mz_I ((-1000004)))) μ)
    else
      (∃ μ1, C n_Shelf_take [mz_R 1 1, mz_R 1 73] μ none μ1 ∧
        (∃ μ2, C n_Past_takeAll [mz_R 5 11, mz_R 5 83] μ1 none μ2 ∧
          (Q (some (mz_I 1)) μ2)))) :
  v_ES_restore C Q (0, [(0, mz_R 0 p0)], [], μ) := mz_Ev.run [] 400 h
/-! EtaSeries.told(IIIII)I, number 81 -/
abbrev v_ES_told (C : mz_Cl) (Q : Option mz_V → mz_M → Prop) : mz_S → Prop := mz_Ev es_SH tb_ES_told C Q
set_option maxRecDepth 20000 in
set_option maxHeartbeats 4000000 in
theorem w_ES_told_0 {C : mz_Cl} {Q : Option mz_V → mz_M → Prop} (p0 : Nat) (x1 : Int32) (x2 : Int32) (x3 : Int32) (x4 : Int32) (x5 : Int32) (μ : mz_M) (h :
    ∃ (r2 : Int32) (μ1 : mz_M), C n_ES_isOneOfFour [mz_I x1] μ (some (mz_I r2)) μ1 ∧
      (if (r2 : Int32) = (0 : Int32) then
        (Q (some (mz_I ((-1000001)))) μ1)
      else
        (∃ (r4 : Int32) (μ3 : mz_M), C n_ES_isOneOfFour [mz_I x2] μ1 (some (mz_I r4)) μ3 ∧
          (if (r4 : Int32) = (0 : Int32) then
            (Q (some (mz_I ((-1000001)))) μ3)
          else
            (∃ (r6 : Int32) (μ5 : mz_M), C n_ES_isPairs [mz_I x4] μ3 (some (mz_I r6)) μ5 ∧
              (if (r6 : Int32) = (0 : Int32) then
                (Q (some (mz_I ((-1000001)))) μ5)
              else
                (∃ (r8 : Int32) (μ7 : mz_M), C n_ES_isWithin [mz_I x5, mz_I 2] μ5 (some (mz_I r8)) μ7 ∧
                  (if (r8 : Int32) = (0 : Int32) then
                    (Q (some (mz_I ((-1000001)))) μ7)
                  else
                    (vp_in x1 4 ∧ (∃ (r10 : Int32) (μ9 : mz_M), C n_Leaf_refusePairs [mz_R 14 (204 + 2 * (x1 : Int32).toNatClampNeg), mz_I x2, mz_I x3, mz_I x4] μ7 (some (mz_I r10)) μ9 ∧
                      (if (r10 : Int32) = (0 : Int32) then
                        (if (x5 : Int32) = (0 : Int32) then
                          (∃ (r12 : Int32) (μ11 : mz_M), C n_Leaf_weight [mz_R 14 (204 + 2 * (x1 : Int32).toNatClampNeg), mz_I x3, mz_I x4] μ9 (some (mz_I r12)) μ11 ∧
                            (Q (some (mz_I r12)) μ11))
                        else
                          (if (x5 : Int32) = (1 : Int32) then
                            (∃ (r14 : Int32) (μ13 : mz_M), C n_Leaf_level [mz_R 14 (204 + 2 * (x1 : Int32).toNatClampNeg), mz_I x3, mz_I x4] μ9 (some (mz_I r14)) μ13 ∧
                              (Q (some (mz_I r14)) μ13))
                          else
                            (∃ (r16 : Int32) (μ15 : mz_M), C n_Leaf_bound [mz_R 14 (204 + 2 * (x1 : Int32).toNatClampNeg), mz_I x3, mz_I x4] μ9 (some (mz_I r16)) μ15 ∧
                              (Q (some (mz_I r16)) μ15))))
                      else
                        (Q (some (mz_I r10)) μ9)))))))))))) :
  v_ES_told C Q (0, [(0, mz_R 0 p0), (1, mz_I x1), (2, mz_I x2), (3, mz_I x3), (4, mz_I x4), (5, mz_I x5)], [], μ) := mz_Ev.run [] 400 h
/-! EtaSeries.quotient(IIIII)I, number 82 -/
abbrev v_ES_quotient (C : mz_Cl) (Q : Option mz_V → mz_M → Prop) : mz_S → Prop := mz_Ev es_SH tb_ES_quotient C Q
set_option maxRecDepth 20000 in
set_option maxHeartbeats 4000000 in
theorem w_ES_quotient_0 {C : mz_Cl} {Q : Option mz_V → mz_M → Prop} (p0 : Nat) (x1 : Int32) (x2 : Int32) (x3 : Int32) (x4 : Int32) (x5 : Int32) (μ : mz_M) (h :
    ∃ (r2 : Int32) (μ1 : mz_M), C n_ES_isOneOfFour [mz_I x1] μ (some (mz_I r2)) μ1 ∧
      (if (r2 : Int32) = (0 : Int32) then
        (Q (some (mz_I ((-1000001)))) μ1)
      else
        (∃ (r4 : Int32) (μ3 : mz_M), C n_ES_isOneOfFour [mz_I x2] μ1 (some (mz_I r4)) μ3 ∧
          (if (r4 : Int32) = (0 : Int32) then
            (Q (some (mz_I ((-1000001)))) μ3)
          else
            (∃ (r6 : Int32) (μ5 : mz_M), C n_ES_isOneOfFour [mz_I x3] μ3 (some (mz_I r6)) μ5 ∧
              (if (r6 : Int32) = (0 : Int32) then
                (Q (some (mz_I ((-1000001)))) μ5)
              else
                (∃ (r8 : Int32) (μ7 : mz_M), C n_ES_isPairs [mz_I x5] μ5 (some (mz_I r8)) μ7 ∧
                  (if (r8 : Int32) = (0 : Int32) then
                    (Q (some (mz_I ((-1000001)))) μ7)
                  else
                    (vp_in x2 4 ∧ (∃ (r10 : Int32) (μ9 : mz_M), C n_Leaf_refusePairs [mz_R 14 (204 + 2 * (x2 : Int32).toNatClampNeg), mz_I x3, mz_I x4, mz_I x5] μ7 (some (mz_I r10)) μ9 ∧
                      (if (r10 : Int32) = (0 : Int32) then
                        (∃ (r12 : Int32) (μ11 : mz_M), C n_Mill_workQuotient [mz_R 9 149, mz_R 14 (204 + 2 * (x2 : Int32).toNatClampNeg), mz_I x4, mz_I x5, mz_I (μ9.1 1 1)] μ9 (some (mz_I r12)) μ11 ∧
                          (if (r12 : Int32) = (0 : Int32) then
                            (∃ (r14 : Nat) (μ13 : mz_M), C n_Mill_result [mz_R 9 149] μ11 (some (mz_R 3 r14)) μ13 ∧
                              (∃ (r16 : Int32) (μ15 : mz_M), C n_ES_settle [mz_R 0 p0, mz_I x1, mz_R 3 r14] μ13 (some (mz_I r16)) μ15 ∧
                                (Q (some (mz_I r16)) μ15)))
                          else
                            (Q (some (mz_I r12)) μ11)))
                      else
                        (Q (some (mz_I r10)) μ9)))))))))))) :
  v_ES_quotient C Q (0, [(0, mz_R 0 p0), (1, mz_I x1), (2, mz_I x2), (3, mz_I x3), (4, mz_I x4), (5, mz_I x5)], [], μ) := mz_Ev.run [] 400 h
/-! EtaSeries.wrought(IIIIII)I, number 83 -/
abbrev v_ES_wrought (C : mz_Cl) (Q : Option mz_V → mz_M → Prop) : mz_S → Prop := mz_Ev es_SH tb_ES_wrought C Q
set_option maxRecDepth 20000 in
set_option maxHeartbeats 4000000 in
theorem w_ES_wrought_0 {C : mz_Cl} {Q : Option mz_V → mz_M → Prop} (p0 : Nat) (x1 : Int32) (x2 : Int32) (x3 : Int32) (x4 : Int32) (x5 : Int32) (x6 : Int32) (μ : mz_M) (h :
    ∃ (r2 : Int32) (μ1 : mz_M), C n_ES_isOneOfFour [mz_I x1] μ (some (mz_I r2)) μ1 ∧
      (if (r2 : Int32) = (0 : Int32) then
        (Q (some (mz_I ((-1000001)))) μ1)
      else
        (∃ (r4 : Int32) (μ3 : mz_M), C n_ES_isOneOfFour [mz_I x2] μ1 (some (mz_I r4)) μ3 ∧
          (if (r4 : Int32) = (0 : Int32) then
            (Q (some (mz_I ((-1000001)))) μ3)
          else
            (∃ (r6 : Int32) (μ5 : mz_M), C n_ES_isOneOfFour [mz_I x3] μ3 (some (mz_I r6)) μ5 ∧
              (if (r6 : Int32) = (0 : Int32) then
                (Q (some (mz_I ((-1000001)))) μ5)
              else
                (∃ (r8 : Int32) (μ7 : mz_M), C n_ES_isOneOfFour [mz_I x4] μ5 (some (mz_I r8)) μ7 ∧
                  (if (r8 : Int32) = (0 : Int32) then
                    (Q (some (mz_I ((-1000001)))) μ7)
                  else
                    (if (x6 : Int32) < (1 : Int32) then
                      (Q (some (mz_I ((-1000001)))) μ7)
                    else
                      (if (x6 : Int32) ≤ (12 : Int32) then
                        (vp_in x3 4 ∧ (∃ (r10 : Int32) (μ9 : mz_M), C n_Leaf_refuse [mz_R 14 (204 + 2 * (x3 : Int32).toNatClampNeg), mz_I x4, mz_I x5, mz_I x6] μ7 (some (mz_I r10)) μ9 ∧
                          (if (r10 : Int32) = (0 : Int32) then
                            (∃ (r12 : Int32) (μ11 : mz_M), C n_Shelf_isMissing [mz_R 1 1, mz_I x1] μ9 (some (mz_I r12)) μ11 ∧
                              (if (r12 : Int32) = (0 : Int32) then
                                (∃ (r14 : Int32) (μ13 : mz_M), C n_Shelf_isMissing [mz_R 1 1, mz_I x2] μ11 (some (mz_I r14)) μ13 ∧
                                  (if (r14 : Int32) = (0 : Int32) then
                                    (v_ES_wrought C Q (108, [(0, mz_R 0 p0), (1, mz_I x1), (2, mz_I x2), (5, mz_I x5), (6, mz_I x6), (7, mz_R 14 (204 + 2 * (x3 : Int32).toNatClampNeg)), (9, mz_I 0), (10, mz_I 0)], [], μ13))
                                  else
                                    (Q (some (mz_I ((-1000002)))) μ13)))
                              else
                                (Q (some (mz_I ((-1000002)))) μ11)))
                          else
                            (Q (some (mz_I r10)) μ9))))
                      else
                        (Q (some (mz_I ((-1000001)))) μ7))))))))))) :
  v_ES_wrought C Q (0, [(0, mz_R 0 p0), (1, mz_I x1), (2, mz_I x2), (3, mz_I x3), (4, mz_I x4), (5, mz_I x5), (6, mz_I x6)], [], μ) := mz_Ev.run [108] 400 h
set_option maxRecDepth 20000 in
set_option maxHeartbeats 4000000 in
theorem w_ES_wrought_108 {C : mz_Cl} {Q : Option mz_V → mz_M → Prop} (p0 : Nat) (x1 : Int32) (x2 : Int32) (x5 : Int32) (x6 : Int32) (p7 : Nat) (x9 : Int32) (x10 : Int32) (μ : mz_M) (h :
    if (3 : Int32) < (x10 : Int32) then
      (Q (some (mz_I x9)) μ)
    else
      (vp_in x1 4 ∧ (vp_in x2 4 ∧ (∃ (r2 : Int32) (μ1 : mz_M), C n_Row_becomeJoined [mz_R 3 200, mz_I x10, mz_R 3 (3 + 2 * (x1 : Int32).toNatClampNeg), mz_R 3 (3 + 2 * (x2 : Int32).toNatClampNeg)] μ (some (mz_I r2)) μ1 ∧
        (if (r2 : Int32) = (0 : Int32) then
          (∃ (r4 : Int32) (μ3 : mz_M), C n_Leaf_begins [mz_R 14 p7, mz_I x5, mz_I x6, mz_R 3 200] μ1 (some (mz_I r4)) μ3 ∧
            (if (r4 : Int32) = (0 : Int32) then
              (v_ES_wrought C Q (108, [(0, mz_R 0 p0), (1, mz_I x1), (2, mz_I x2), (5, mz_I x5), (6, mz_I x6), (7, mz_R 14 p7), (9, mz_I x9), (10, mz_I (x10 + 1))], [], μ3))
            else
              (v_ES_wrought C Q (108, [(0, mz_R 0 p0), (1, mz_I x1), (2, mz_I x2), (5, mz_I x5), (6, mz_I x6), (7, mz_R 14 p7), (9, mz_I (x9 ||| (1 <<< (x10 &&& 31)))), (10, mz_I (x10 + 1))], [], μ3))))
        else
          (v_ES_wrought C Q (108, [(0, mz_R 0 p0), (1, mz_I x1), (2, mz_I x2), (5, mz_I x5), (6, mz_I x6), (7, mz_R 14 p7), (9, mz_I x9), (10, mz_I (x10 + 1))], [], μ1))))))) :
  v_ES_wrought C Q (108, [(0, mz_R 0 p0), (1, mz_I x1), (2, mz_I x2), (5, mz_I x5), (6, mz_I x6), (7, mz_R 14 p7), (9, mz_I x9), (10, mz_I x10)], [], μ) := mz_Ev.run [108] 400 h
/-! EtaSeries.film(IIII)I, number 84 -/
abbrev v_ES_film (C : mz_Cl) (Q : Option mz_V → mz_M → Prop) : mz_S → Prop := mz_Ev es_SH tb_ES_film C Q
set_option maxRecDepth 20000 in
set_option maxHeartbeats 4000000 in
theorem w_ES_film_0 {C : mz_Cl} {Q : Option mz_V → mz_M → Prop} (p0 : Nat) (x1 : Int32) (x2 : Int32) (x3 : Int32) (x4 : Int32) (μ : mz_M) (h :
    ∃ (r2 : Int32) (μ1 : mz_M), C n_ES_isOneOfFour [mz_I x1] μ (some (mz_I r2)) μ1 ∧
      (if (r2 : Int32) = (0 : Int32) then
        (Q (some (mz_I ((-1000001)))) μ1)
      else
        (∃ (r4 : Int32) (μ3 : mz_M), C n_ES_isOneOfFour [mz_I x2] μ1 (some (mz_I r4)) μ3 ∧
          (if (r4 : Int32) = (0 : Int32) then
            (Q (some (mz_I ((-1000001)))) μ3)
          else
            (∃ (r6 : Int32) (μ5 : mz_M), C n_ES_isOneOfFour [mz_I x3] μ3 (some (mz_I r6)) μ5 ∧
              (if (r6 : Int32) = (0 : Int32) then
                (Q (some (mz_I ((-1000001)))) μ5)
              else
                (∃ (r8 : Int32) (μ7 : mz_M), C n_Shelf_isMissing [mz_R 1 1, mz_I x1] μ5 (some (mz_I r8)) μ7 ∧
                  (if (r8 : Int32) = (0 : Int32) then
                    (vp_in x1 4 ∧ (vp_in x2 4 ∧ (∃ (r10 : Int32) (μ9 : mz_M), C n_Leaf_refuse [mz_R 14 (204 + 2 * (x2 : Int32).toNatClampNeg), mz_I x3, mz_I x4, mz_I (μ7.1 (3 + 2 * (x1 : Int32).toNatClampNeg) 1)] μ7 (some (mz_I r10)) μ9 ∧
                      (if (r10 : Int32) = (0 : Int32) then
                        (v_ES_film C Q (79, [(0, mz_R 0 p0), (2, mz_I x2), (4, mz_I x4), (5, mz_R 3 (3 + 2 * (x1 : Int32).toNatClampNeg)), (7, mz_I 0)], [], μ9))
                      else
                        (Q (some (mz_I r10)) μ9)))))
                  else
                    (Q (some (mz_I ((-1000002)))) μ7))))))))) :
  v_ES_film C Q (0, [(0, mz_R 0 p0), (1, mz_I x1), (2, mz_I x2), (3, mz_I x3), (4, mz_I x4)], [], μ) := mz_Ev.run [79] 400 h
set_option maxRecDepth 20000 in
set_option maxHeartbeats 4000000 in
theorem w_ES_film_79 {C : mz_Cl} {Q : Option mz_V → mz_M → Prop} (p0 : Nat) (x2 : Int32) (x4 : Int32) (p5 : Nat) (x7 : Int32) (μ : mz_M) (h :
    if (μ.1 p5 1 : Int32) ≤ (x7 : Int32) then
      (Q (some (mz_I (μ.1 p5 1))) μ)
    else
      (vp_in x2 4 ∧ (∃ (r2 : Int32) (μ1 : mz_M), C n_Row_at [mz_R 3 p5, mz_I x7] μ (some (mz_I r2)) μ1 ∧
        (∃ μ3, C n_Leaf_put [mz_R 14 (204 + 2 * (x2 : Int32).toNatClampNeg), mz_I (x4 + x7), mz_L ((r2 : Int32).toInt64)] μ1 none μ3 ∧
          (v_ES_film C Q (79, [(0, mz_R 0 p0), (2, mz_I x2), (4, mz_I x4), (5, mz_R 3 p5), (7, mz_I (x7 + 1))], [], μ3)))))) :
  v_ES_film C Q (79, [(0, mz_R 0 p0), (2, mz_I x2), (4, mz_I x4), (5, mz_R 3 p5), (7, mz_I x7)], [], μ) := mz_Ev.run [79] 400 h
/-! EtaSeries.sheet(III)I, number 85 -/
abbrev v_ES_sheet (C : mz_Cl) (Q : Option mz_V → mz_M → Prop) : mz_S → Prop := mz_Ev es_SH tb_ES_sheet C Q
set_option maxRecDepth 20000 in
set_option maxHeartbeats 4000000 in
theorem w_ES_sheet_0 {C : mz_Cl} {Q : Option mz_V → mz_M → Prop} (p0 : Nat) (x1 : Int32) (x2 : Int32) (x3 : Int32) (μ : mz_M) (h :
    ∃ (r2 : Int32) (μ1 : mz_M), C n_ES_isOneOfFour [mz_I x1] μ (some (mz_I r2)) μ1 ∧
      (if (r2 : Int32) = (0 : Int32) then
        (Q (some (mz_I ((-1000001)))) μ1)
      else
        (∃ (r4 : Int32) (μ3 : mz_M), C n_ES_isOneOfFour [mz_I x2] μ1 (some (mz_I r4)) μ3 ∧
          (if (r4 : Int32) = (0 : Int32) then
            (Q (some (mz_I ((-1000001)))) μ3)
          else
            (if (x3 : Int32) ≤ (40 : Int32) then
              (if (0 : Int32) ≤ (x3 : Int32) then
                (vp_in x1 4 ∧ (∃ μ5, C n_Leaf_hold [mz_R 14 (204 + 2 * (x1 : Int32).toNatClampNeg), mz_I x2, mz_I x3] μ3 none μ5 ∧
                  (Q (some (mz_I x3)) μ5)))
              else
                (Q (some (mz_I ((-1000014)))) μ3))
            else
              (Q (some (mz_I ((-1000001)))) μ3)))))) :
  v_ES_sheet C Q (0, [(0, mz_R 0 p0), (1, mz_I x1), (2, mz_I x2), (3, mz_I x3)], [], μ) := mz_Ev.run [] 400 h
/-! EtaSeries.drop(I)I, number 86 -/
abbrev v_ES_drop (C : mz_Cl) (Q : Option mz_V → mz_M → Prop) : mz_S → Prop := mz_Ev es_SH tb_ES_drop C Q
set_option maxRecDepth 20000 in
set_option maxHeartbeats 4000000 in
theorem w_ES_drop_0 {C : mz_Cl} {Q : Option mz_V → mz_M → Prop} (p0 : Nat) (x1 : Int32) (μ : mz_M) (h :
    ∃ (r2 : Int32) (μ1 : mz_M), C n_ES_isOneOfFour [mz_I x1] μ (some (mz_I r2)) μ1 ∧
      (if (r2 : Int32) = (0 : Int32) then
        (Q (some (mz_I ((-1000001)))) μ1)
      else
        (vp_in x1 4 ∧ (if (μ1.1 (204 + 2 * (x1 : Int32).toNatClampNeg) 1 : Int32) = (0 : Int32) then
          (Q (some (mz_I ((-1000011)))) μ1)
        else
          (((0 : Int32) = 0 ∨ (0 : Int32) = 1) ∧ (Q (some (mz_I ((mz_wI μ1 (204 + 2 * (x1 : Int32).toNatClampNeg) 1 0).1 (204 + 2 * (x1 : Int32).toNatClampNeg) 3))) (mz_wI μ1 (204 + 2 * (x1 : Int32).toNatClampNeg) 1 0))))))) :
  v_ES_drop C Q (0, [(0, mz_R 0 p0), (1, mz_I x1)], [], μ) := mz_Ev.run [] 400 h
/-! EtaSeries.item(IIIJ)I, number 87 -/
abbrev v_ES_item (C : mz_Cl) (Q : Option mz_V → mz_M → Prop) : mz_S → Prop := mz_Ev es_SH tb_ES_item C Q
set_option maxRecDepth 20000 in
set_option maxHeartbeats 4000000 in
theorem w_ES_item_0 {C : mz_Cl} {Q : Option mz_V → mz_M → Prop} (p0 : Nat) (x1 : Int32) (x2 : Int32) (x3 : Int32) (y4 : Int64) (μ : mz_M) (h :
    ∃ (r2 : Int32) (μ1 : mz_M), C n_ES_isOneOfFour [mz_I x1] μ (some (mz_I r2)) μ1 ∧
      (if (r2 : Int32) = (0 : Int32) then
        (Q (some (mz_I ((-1000001)))) μ1)
      else
        (∃ (r4 : Int32) (μ3 : mz_M), C n_ES_isOneOfFour [mz_I x2] μ1 (some (mz_I r4)) μ3 ∧
          (if (r4 : Int32) = (0 : Int32) then
            (Q (some (mz_I ((-1000001)))) μ3)
          else
            (vp_in x1 4 ∧ (∃ (r6 : Int32) (μ5 : mz_M), C n_Leaf_refuse [mz_R 14 (204 + 2 * (x1 : Int32).toNatClampNeg), mz_I x2, mz_I x3, mz_I 1] μ3 (some (mz_I r6)) μ5 ∧
              (if (r6 : Int32) = (0 : Int32) then
                (vp_in x1 4 ∧ (∃ μ7, C n_Leaf_put [mz_R 14 (204 + 2 * (x1 : Int32).toNatClampNeg), mz_I x3, mz_L y4] μ5 none μ7 ∧
                  (Q (some (mz_I 1)) μ7)))
              else
                (Q (some (mz_I r6)) μ5)))))))) :
  v_ES_item C Q (0, [(0, mz_R 0 p0), (1, mz_I x1), (2, mz_I x2), (3, mz_I x3), (4, mz_L y4)], [], μ) := mz_Ev.run [] 400 h
/-! EtaSeries.copy(IIIII)I, number 88 -/
abbrev v_ES_copy (C : mz_Cl) (Q : Option mz_V → mz_M → Prop) : mz_S → Prop := mz_Ev es_SH tb_ES_copy C Q
set_option maxRecDepth 20000 in
set_option maxHeartbeats 4000000 in
theorem w_ES_copy_0 {C : mz_Cl} {Q : Option mz_V → mz_M → Prop} (p0 : Nat) (x1 : Int32) (x2 : Int32) (x3 : Int32) (x4 : Int32) (x5 : Int32) (μ : mz_M) (h :
    ∃ (r2 : Int32) (μ1 : mz_M), C n_ES_isOneOfFour [mz_I x1] μ (some (mz_I r2)) μ1 ∧
      (if (r2 : Int32) = (0 : Int32) then
        (Q (some (mz_I ((-1000001)))) μ1)
      else
        (∃ (r4 : Int32) (μ3 : mz_M), C n_ES_isOneOfFour [mz_I x3] μ1 (some (mz_I r4)) μ3 ∧
          (if (r4 : Int32) = (0 : Int32) then
            (Q (some (mz_I ((-1000001)))) μ3)
          else
            (vp_in x1 4 ∧ (vp_in x3 4 ∧ (if (μ3.1 (204 + 2 * (x1 : Int32).toNatClampNeg) 1 : Int32) = (0 : Int32) then
              (Q (some (mz_I ((-1000011)))) μ3)
            else
              (if (μ3.1 (204 + 2 * (x3 : Int32).toNatClampNeg) 1 : Int32) = (0 : Int32) then
                (Q (some (mz_I ((-1000011)))) μ3)
              else
                (if (μ3.1 (204 + 2 * (x1 : Int32).toNatClampNeg) 2 : Int32) = (μ3.1 (204 + 2 * (x3 : Int32).toNatClampNeg) 2 : Int32) then
                  (∃ (r6 : Int32) (μ5 : mz_M), C n_Leaf_hasItems [mz_R 14 (204 + 2 * (x1 : Int32).toNatClampNeg), mz_I x2, mz_I x5] μ3 (some (mz_I r6)) μ5 ∧
                    (if (r6 : Int32) = (0 : Int32) then
                      (Q (some (mz_I ((-1000013)))) μ5)
                    else
                      (∃ (r8 : Int32) (μ7 : mz_M), C n_Leaf_hasItems [mz_R 14 (204 + 2 * (x3 : Int32).toNatClampNeg), mz_I x4, mz_I x5] μ5 (some (mz_I r8)) μ7 ∧
                        (if (r8 : Int32) = (0 : Int32) then
                          (Q (some (mz_I ((-1000013)))) μ7)
                        else
                          ((¬ (x2 : Int32) < 0 ∧ ¬ (x4 : Int32) < 0 ∧ ¬ (x5 : Int32) < 0 ∧ (x2 : Int32).toNatClampNeg + (x5 : Int32).toNatClampNeg ≤ 40 ∧ (x4 : Int32).toNatClampNeg + (x5 : Int32).toNatClampNeg ≤ 40) ∧ (Q (some (mz_I x5)) (mz_cL μ7 ((204 + 2 * (x1 : Int32).toNatClampNeg) + 1) ((204 + 2 * (x3 : Int32).toNatClampNeg) + 1) (x2 : Int32).toNatClampNeg (x4 : Int32).toNatClampNeg (x5 : Int32).toNatClampNeg)))))))
                else
                  (Q (some (mz_I ((-1000012)))) μ3)))))))))) :
  v_ES_copy C Q (0, [(0, mz_R 0 p0), (1, mz_I x1), (2, mz_I x2), (3, mz_I x3), (4, mz_I x4), (5, mz_I x5)], [], μ) := mz_Ev.run [] 400 h
/-! EtaSeries.isOneOfFour(I)Z, number 89 -/
abbrev v_ES_isOneOfFour (C : mz_Cl) (Q : Option mz_V → mz_M → Prop) : mz_S → Prop := mz_Ev es_SH tb_ES_isOneOfFour C Q
set_option maxRecDepth 20000 in
set_option maxHeartbeats 4000000 in
theorem w_ES_isOneOfFour_0 {C : mz_Cl} {Q : Option mz_V → mz_M → Prop} (x0 : Int32) (μ : mz_M) (h :
    if (x0 : Int32) < (0 : Int32) then
      (((0 : Int32) = 0 ∨ (0 : Int32) = 1) ∧ Q (some (mz_I 0)) μ)
    else
      (if (4 : Int32) ≤ (x0 : Int32) then
        (((0 : Int32) = 0 ∨ (0 : Int32) = 1) ∧ Q (some (mz_I 0)) μ)
      else
        (((1 : Int32) = 0 ∨ (1 : Int32) = 1) ∧ Q (some (mz_I 1)) μ))) :
  v_ES_isOneOfFour C Q (0, [(0, mz_I x0)], [], μ) := mz_Ev.run [] 400 h
/-! EtaSeries.isWithin(II)Z, number 90 -/
abbrev v_ES_isWithin (C : mz_Cl) (Q : Option mz_V → mz_M → Prop) : mz_S → Prop := mz_Ev es_SH tb_ES_isWithin C Q
set_option maxRecDepth 20000 in
set_option maxHeartbeats 4000000 in
theorem w_ES_isWithin_0 {C : mz_Cl} {Q : Option mz_V → mz_M → Prop} (x0 : Int32) (x1 : Int32) (μ : mz_M) (h :
    if (x0 : Int32) < (0 : Int32) then
      (((0 : Int32) = 0 ∨ (0 : Int32) = 1) ∧ Q (some (mz_I 0)) μ)
    else
      (if (x1 : Int32) < (x0 : Int32) then
        (((0 : Int32) = 0 ∨ (0 : Int32) = 1) ∧ Q (some (mz_I 0)) μ)
      else
        (((1 : Int32) = 0 ∨ (1 : Int32) = 1) ∧ Q (some (mz_I 1)) μ))) :
  v_ES_isWithin C Q (0, [(0, mz_I x0), (1, mz_I x1)], [], μ) := mz_Ev.run [] 400 h
/-! EtaSeries.isPairs(I)Z, number 91 -/
abbrev v_ES_isPairs (C : mz_Cl) (Q : Option mz_V → mz_M → Prop) : mz_S → Prop := mz_Ev es_SH tb_ES_isPairs C Q
set_option maxRecDepth 20000 in
set_option maxHeartbeats 4000000 in
theorem w_ES_isPairs_0 {C : mz_Cl} {Q : Option mz_V → mz_M → Prop} (x0 : Int32) (μ : mz_M) (h :
    if (x0 : Int32) < (1 : Int32) then
      (((0 : Int32) = 0 ∨ (0 : Int32) = 1) ∧ Q (some (mz_I 0)) μ)
    else
      (if (6 : Int32) < (x0 : Int32) then
        (((0 : Int32) = 0 ∨ (0 : Int32) = 1) ∧ Q (some (mz_I 0)) μ)
      else
        (((1 : Int32) = 0 ∨ (1 : Int32) = 1) ∧ Q (some (mz_I 1)) μ))) :
  v_ES_isPairs C Q (0, [(0, mz_I x0)], [], μ) := mz_Ev.run [] 400 h
/-! EtaSeries.isStep(II)Z, number 92 -/
abbrev v_ES_isStep (C : mz_Cl) (Q : Option mz_V → mz_M → Prop) : mz_S → Prop := mz_Ev es_SH tb_ES_isStep C Q
set_option maxRecDepth 20000 in
set_option maxHeartbeats 4000000 in
theorem w_ES_isStep_0 {C : mz_Cl} {Q : Option mz_V → mz_M → Prop} (x0 : Int32) (x1 : Int32) (μ : mz_M) (h :
    if (x0 : Int32) < (1 : Int32) then
      (((0 : Int32) = 0 ∨ (0 : Int32) = 1) ∧ Q (some (mz_I 0)) μ)
    else
      (if (8 : Int32) < (x0 : Int32) then
        (((0 : Int32) = 0 ∨ (0 : Int32) = 1) ∧ Q (some (mz_I 0)) μ)
      else
        (if (x1 : Int32) < (0 : Int32) then
          (((0 : Int32) = 0 ∨ (0 : Int32) = 1) ∧ Q (some (mz_I 0)) μ)
        else
          (if (x0 : Int32) ≤ (x1 : Int32) then
            (((0 : Int32) = 0 ∨ (0 : Int32) = 1) ∧ Q (some (mz_I 0)) μ)
          else
            (((1 : Int32) = 0 ∨ (1 : Int32) = 1) ∧ Q (some (mz_I 1)) μ))))) :
  v_ES_isStep C Q (0, [(0, mz_I x0), (1, mz_I x1)], [], μ) := mz_Ev.run [] 400 h
/-! EtaSeries.isKind(II)Z, number 93 -/
abbrev v_ES_isKind (C : mz_Cl) (Q : Option mz_V → mz_M → Prop) : mz_S → Prop := mz_Ev es_SH tb_ES_isKind C Q
set_option maxRecDepth 20000 in
set_option maxHeartbeats 4000000 in
theorem w_ES_isKind_0 {C : mz_Cl} {Q : Option mz_V → mz_M → Prop} (x0 : Int32) (x1 : Int32) (μ : mz_M) (h :
    if (x0 : Int32) = nI 0 then
      (if (x1 : Int32) = (0 : Int32) then
        (((1 : Int32) = 0 ∨ (1 : Int32) = 1) ∧ Q (some (mz_I 1)) μ)
      else
        (((0 : Int32) = 0 ∨ (0 : Int32) = 1) ∧ Q (some (mz_I 0)) μ))
    else if (x0 : Int32) = nI 1 then
      (if (x1 : Int32) < (1 : Int32) then
        (((0 : Int32) = 0 ∨ (0 : Int32) = 1) ∧ Q (some (mz_I 0)) μ)
      else
        (if (9 : Int32) < (x1 : Int32) then
          (((0 : Int32) = 0 ∨ (0 : Int32) = 1) ∧ Q (some (mz_I 0)) μ)
        else
          (((1 : Int32) = 0 ∨ (1 : Int32) = 1) ∧ Q (some (mz_I 1)) μ)))
    else if (x0 : Int32) = nI 2 then
      (if (x1 : Int32) < (1 : Int32) then
        (((0 : Int32) = 0 ∨ (0 : Int32) = 1) ∧ Q (some (mz_I 0)) μ)
      else
        (if (9 : Int32) < (x1 : Int32) then
          (((0 : Int32) = 0 ∨ (0 : Int32) = 1) ∧ Q (some (mz_I 0)) μ)
        else
          (((1 : Int32) = 0 ∨ (1 : Int32) = 1) ∧ Q (some (mz_I 1)) μ)))
    else if (x0 : Int32) = nI 3 then
      (if (x1 : Int32) < (1 : Int32) then
        (((0 : Int32) = 0 ∨ (0 : Int32) = 1) ∧ Q (some (mz_I 0)) μ)
      else
        (if (9 : Int32) < (x1 : Int32) then
          (((0 : Int32) = 0 ∨ (0 : Int32) = 1) ∧ Q (some (mz_I 0)) μ)
        else
          (((1 : Int32) = 0 ∨ (1 : Int32) = 1) ∧ Q (some (mz_I 1)) μ)))
    else if (x0 : Int32) = nI 4 then
      (if (x1 : Int32) < (0 : Int32) then
        (((0 : Int32) = 0 ∨ (0 : Int32) = 1) ∧ Q (some (mz_I 0)) μ)
      else
        (if (40 : Int32) ≤ (x1 : Int32) then
          (((0 : Int32) = 0 ∨ (0 : Int32) = 1) ∧ Q (some (mz_I 0)) μ)
        else
          (((1 : Int32) = 0 ∨ (1 : Int32) = 1) ∧ Q (some (mz_I 1)) μ)))
    else (((0 : Int32) = 0 ∨ (0 : Int32) = 1) ∧ Q (some (mz_I 0)) μ)) :
  v_ES_isKind C Q (0, [(0, mz_I x0), (1, mz_I x1)], [], μ) := mz_Ev.run [] 400 h
/-! EtaSeries.isChange(II)Z, number 94 -/
abbrev v_ES_isChange (C : mz_Cl) (Q : Option mz_V → mz_M → Prop) : mz_S → Prop := mz_Ev es_SH tb_ES_isChange C Q
set_option maxRecDepth 20000 in
set_option maxHeartbeats 4000000 in
theorem w_ES_isChange_0 {C : mz_Cl} {Q : Option mz_V → mz_M → Prop} (x0 : Int32) (x1 : Int32) (μ : mz_M) (h :
    if (x0 : Int32) = nI 0 then
      (∃ (r2 : Int32) (μ1 : mz_M), C n_ES_isWithin [mz_I x1, mz_I 9] μ (some (mz_I r2)) μ1 ∧
        (((r2 : Int32) = 0 ∨ (r2 : Int32) = 1) ∧ Q (some (mz_I r2)) μ1))
    else if (x0 : Int32) = nI 1 then
      (if (x1 : Int32) < (1 : Int32) then
        (((0 : Int32) = 0 ∨ (0 : Int32) = 1) ∧ Q (some (mz_I 0)) μ)
      else
        (if (8 : Int32) < (x1 : Int32) then
          (((0 : Int32) = 0 ∨ (0 : Int32) = 1) ∧ Q (some (mz_I 0)) μ)
        else
          (((1 : Int32) = 0 ∨ (1 : Int32) = 1) ∧ Q (some (mz_I 1)) μ)))
    else if (x0 : Int32) = nI 2 then
      (if (x1 : Int32) = (0 : Int32) then
        (((1 : Int32) = 0 ∨ (1 : Int32) = 1) ∧ Q (some (mz_I 1)) μ)
      else
        (((0 : Int32) = 0 ∨ (0 : Int32) = 1) ∧ Q (some (mz_I 0)) μ))
    else if (x0 : Int32) = nI 3 then
      (if (x1 : Int32) < (0 : Int32) then
        (((0 : Int32) = 0 ∨ (0 : Int32) = 1) ∧ Q (some (mz_I 0)) μ)
      else
        (¬ (10 : Int32) = 0 ∧ (¬ (10 : Int32) = 0 ∧ (∃ (r4 : Int32) (μ3 : mz_M), C n_ES_isStep [mz_I (x1 / 10), mz_I (x1 - x1 / 10 * 10)] μ (some (mz_I r4)) μ3 ∧
          (if (r4 : Int32) = (0 : Int32) then
            (((0 : Int32) = 0 ∨ (0 : Int32) = 1) ∧ Q (some (mz_I 0)) μ3)
          else
            (((1 : Int32) = 0 ∨ (1 : Int32) = 1) ∧ Q (some (mz_I 1)) μ3))))))
    else if (x0 : Int32) = nI 4 then
      (if (x1 : Int32) < (1 : Int32) then
        (((0 : Int32) = 0 ∨ (0 : Int32) = 1) ∧ Q (some (mz_I 0)) μ)
      else
        (((1 : Int32) = 0 ∨ (1 : Int32) = 1) ∧ Q (some (mz_I 1)) μ))
    else if (x0 : Int32) = nI 5 then
      (∃ (r6 : Int32) (μ5 : mz_M), C n_ES_isWithin [mz_I x1, mz_I 8] μ (some (mz_I r6)) μ5 ∧
        (((r6 : Int32) = 0 ∨ (r6 : Int32) = 1) ∧ Q (some (mz_I r6)) μ5))
    else if (x0 : Int32) = nI 6 then
      (if (x1 : Int32) < ((-99) : Int32) then
        (((0 : Int32) = 0 ∨ (0 : Int32) = 1) ∧ Q (some (mz_I 0)) μ)
      else
        (if (99 : Int32) < (x1 : Int32) then
          (((0 : Int32) = 0 ∨ (0 : Int32) = 1) ∧ Q (some (mz_I 0)) μ)
        else
          (((1 : Int32) = 0 ∨ (1 : Int32) = 1) ∧ Q (some (mz_I 1)) μ)))
    else (((0 : Int32) = 0 ∨ (0 : Int32) = 1) ∧ Q (some (mz_I 0)) μ)) :
  v_ES_isChange C Q (0, [(0, mz_I x0), (1, mz_I x1)], [], μ) := mz_Ev.run [] 400 h
/-! EtaSeries.isWide(J)Z, number 95 -/
abbrev v_ES_isWide (C : mz_Cl) (Q : Option mz_V → mz_M → Prop) : mz_S → Prop := mz_Ev es_SH tb_ES_isWide C Q
set_option maxRecDepth 20000 in
set_option maxHeartbeats 4000000 in
theorem w_ES_isWide_0 {C : mz_Cl} {Q : Option mz_V → mz_M → Prop} (y0 : Int64) (μ : mz_M) (h :
    if (0 : Int32) < (lg_cmp y0 100000000 : Int32) then
      (((1 : Int32) = 0 ∨ (1 : Int32) = 1) ∧ Q (some (mz_I 1)) μ)
    else
      (if (0 : Int32) ≤ (lg_cmp y0 ((-100000000)) : Int32) then
        (((0 : Int32) = 0 ∨ (0 : Int32) = 1) ∧ Q (some (mz_I 0)) μ)
      else
        (((1 : Int32) = 0 ∨ (1 : Int32) = 1) ∧ Q (some (mz_I 1)) μ))) :
  v_ES_isWide C Q (0, [(0, mz_L y0)], [], μ) := mz_Ev.run [] 400 h
/-! EtaSeries.settle(ILEtaSeries$Row;)I, number 96 -/
abbrev v_ES_settle (C : mz_Cl) (Q : Option mz_V → mz_M → Prop) : mz_S → Prop := mz_Ev es_SH tb_ES_settle C Q
set_option maxRecDepth 20000 in
set_option maxHeartbeats 4000000 in
theorem w_ES_settle_0 {C : mz_Cl} {Q : Option mz_V → mz_M → Prop} (p0 : Nat) (x1 : Int32) (p2 : Nat) (μ : mz_M) (h :
    ∃ μ1, C n_Past_remember [mz_R 5 11, mz_R 1 1] μ none μ1 ∧
      (vp_in x1 4 ∧ (∃ μ2, C n_Row_take [mz_R 3 (3 + 2 * (x1 : Int32).toNatClampNeg), mz_R 3 p2] μ1 none μ2 ∧
        (Q (some (mz_I (μ2.1 p2 1))) μ2)))) :
  v_ES_settle C Q (0, [(0, mz_R 0 p0), (1, mz_I x1), (2, mz_R 3 p2)], [], μ) := mz_Ev.run [] 400 h
/-! EtaSeries.firstUnlike(LEtaSeries$Row;LEtaSeries$Row;)I, number 97 -/
abbrev v_ES_firstUnlike (C : mz_Cl) (Q : Option mz_V → mz_M → Prop) : mz_S → Prop := mz_Ev es_SH tb_ES_firstUnlike C Q
set_option maxRecDepth 20000 in
set_option maxHeartbeats 4000000 in
theorem w_ES_firstUnlike_0 {C : mz_Cl} {Q : Option mz_V → mz_M → Prop} (p0 : Nat) (p1 : Nat) (μ : mz_M) (h :
    ∃ (r2 : Int32) (μ1 : mz_M), C n_Math_min [mz_I (μ.1 p0 1), mz_I (μ.1 p1 1)] μ (some (mz_I r2)) μ1 ∧
      (v_ES_firstUnlike C Q (14, [(0, mz_R 3 p0), (1, mz_R 3 p1), (2, mz_I r2), (3, mz_I 0)], [], μ1))) :
  v_ES_firstUnlike C Q (0, [(0, mz_R 3 p0), (1, mz_R 3 p1)], [], μ) := mz_Ev.run [14] 400 h
set_option maxRecDepth 20000 in
set_option maxHeartbeats 4000000 in
theorem w_ES_firstUnlike_14 {C : mz_Cl} {Q : Option mz_V → mz_M → Prop} (p0 : Nat) (p1 : Nat) (x2 : Int32) (x3 : Int32) (μ : mz_M) (h :
    if (x2 : Int32) ≤ (x3 : Int32) then
      (Q (some (mz_I ((-1000004)))) μ)
    else
      (∃ (r2 : Int32) (μ1 : mz_M), C n_Row_at [mz_R 3 p0, mz_I x3] μ (some (mz_I r2)) μ1 ∧
        (∃ (r4 : Int32) (μ3 : mz_M), C n_Row_at [mz_R 3 p1, mz_I x3] μ1 (some (mz_I r4)) μ3 ∧
          (if (r2 : Int32) = (r4 : Int32) then
            (v_ES_firstUnlike C Q (14, [(0, mz_R 3 p0), (1, mz_R 3 p1), (2, mz_I x2), (3, mz_I (x3 + 1))], [], μ3))
          else
            (Q (some (mz_I x3)) μ3))))) :
  v_ES_firstUnlike C Q (14, [(0, mz_R 3 p0), (1, mz_R 3 p1), (2, mz_I x2), (3, mz_I x3)], [], μ) := mz_Ev.run [14] 400 h
/-! EtaSeries.firstMisfit(LEtaSeries$Row;III)I, number 98 -/
abbrev v_ES_firstMisfit (C : mz_Cl) (Q : Option mz_V → mz_M → Prop) : mz_S → Prop := mz_Ev es_SH tb_ES_firstMisfit C Q
set_option maxRecDepth 20000 in
set_option maxHeartbeats 4000000 in
theorem w_ES_firstMisfit_0 {C : mz_Cl} {Q : Option mz_V → mz_M → Prop} (p0 : Nat) (x1 : Int32) (x2 : Int32) (x3 : Int32) (μ : mz_M) (h :
    if (x1 : Int32) < (1 : Int32) then
      (Q (some (mz_I ((-1000004)))) μ)
    else
      (if (1 : Int32) ≤ (x3 : Int32) then
        (v_ES_firstMisfit C Q (16, [(0, mz_R 3 p0), (1, mz_I x1), (3, mz_I x3), (4, mz_I x2)], [], μ))
      else
        (Q (some (mz_I ((-1000004)))) μ))) :
  v_ES_firstMisfit C Q (0, [(0, mz_R 3 p0), (1, mz_I x1), (2, mz_I x2), (3, mz_I x3)], [], μ) := mz_Ev.run [16] 400 h
set_option maxRecDepth 20000 in
set_option maxHeartbeats 4000000 in
theorem w_ES_firstMisfit_16 {C : mz_Cl} {Q : Option mz_V → mz_M → Prop} (p0 : Nat) (x1 : Int32) (x3 : Int32) (x4 : Int32) (μ : mz_M) (h :
    if (μ.1 p0 1 : Int32) ≤ (x4 : Int32) then
      (Q (some (mz_I ((-1000004)))) μ)
    else
      (∃ (r2 : Int32) (μ1 : mz_M), C n_Row_at [mz_R 3 p0, mz_I x4] μ (some (mz_I r2)) μ1 ∧
        (¬ (x3 : Int32) = 0 ∧ (if (r2 - r2 / x3 * x3 : Int32) = (0 : Int32) then
          (v_ES_firstMisfit C Q (16, [(0, mz_R 3 p0), (1, mz_I x1), (3, mz_I x3), (4, mz_I (x4 + x1))], [], μ1))
        else
          (Q (some (mz_I x4)) μ1))))) :
  v_ES_firstMisfit C Q (16, [(0, mz_R 3 p0), (1, mz_I x1), (3, mz_I x3), (4, mz_I x4)], [], μ) := mz_Ev.run [16] 400 h
/-! EtaSeries.leastFitting(LEtaSeries$Row;II)I, number 99 -/
abbrev v_ES_leastFitting (C : mz_Cl) (Q : Option mz_V → mz_M → Prop) : mz_S → Prop := mz_Ev es_SH tb_ES_leastFitting C Q
set_option maxRecDepth 20000 in
set_option maxHeartbeats 4000000 in
theorem w_ES_leastFitting_0 {C : mz_Cl} {Q : Option mz_V → mz_M → Prop} (p0 : Nat) (x1 : Int32) (x2 : Int32) (μ : mz_M) (h :
    v_ES_leastFitting C Q (2, [(0, mz_R 3 p0), (1, mz_I x1), (2, mz_I x2), (3, mz_I 2)], [], μ)) :
  v_ES_leastFitting C Q (0, [(0, mz_R 3 p0), (1, mz_I x1), (2, mz_I x2)], [], μ) := mz_Ev.run [2] 400 h
set_option maxRecDepth 20000 in
set_option maxHeartbeats 4000000 in
theorem w_ES_leastFitting_2 {C : mz_Cl} {Q : Option mz_V → mz_M → Prop} (p0 : Nat) (x1 : Int32) (x2 : Int32) (x3 : Int32) (μ : mz_M) (h :
    if (9 : Int32) < (x3 : Int32) then
      (Q (some (mz_I ((-1000004)))) μ)
    else
      (∃ (r2 : Int32) (μ1 : mz_M), C n_ES_firstMisfit [mz_R 3 p0, mz_I x1, mz_I x2, mz_I x3] μ (some (mz_I r2)) μ1 ∧
        (if (r2 : Int32) = ((-1000004) : Int32) then
          (Q (some (mz_I x3)) μ1)
        else
          (v_ES_leastFitting C Q (2, [(0, mz_R 3 p0), (1, mz_I x1), (2, mz_I x2), (3, mz_I (x3 + 1))], [], μ1))))) :
  v_ES_leastFitting C Q (2, [(0, mz_R 3 p0), (1, mz_I x1), (2, mz_I x2), (3, mz_I x3)], [], μ) := mz_Ev.run [2] 400 h
/-! EtaSeries.chanceOfEven(LEtaSeries$Row;IIZ)I, number 100 -/
abbrev v_ES_chanceOfEven (C : mz_Cl) (Q : Option mz_V → mz_M → Prop) : mz_S → Prop := mz_Ev es_SH tb_ES_chanceOfEven C Q
set_option maxRecDepth 20000 in
set_option maxHeartbeats 4000000 in
theorem w_ES_chanceOfEven_0 {C : mz_Cl} {Q : Option mz_V → mz_M → Prop} (p0 : Nat) (x1 : Int32) (x2 : Int32) (x3 : Int32) (μ : mz_M) (h :
    v_ES_chanceOfEven C Q (9, [(0, mz_R 3 p0), (1, mz_I x1), (2, mz_I x2), (3, mz_I x3), (4, mz_I 1), (5, mz_I 1), (6, mz_I 0)], [], μ)) :
  v_ES_chanceOfEven C Q (0, [(0, mz_R 3 p0), (1, mz_I x1), (2, mz_I x2), (3, mz_I x3)], [], μ) := mz_Ev.run [9, 55] 400 h
set_option maxRecDepth 20000 in
set_option maxHeartbeats 4000000 in
theorem w_ES_chanceOfEven_9 {C : mz_Cl} {Q : Option mz_V → mz_M → Prop} (p0 : Nat) (x1 : Int32) (x2 : Int32) (x3 : Int32) (x4 : Int32) (x5 : Int32) (x6 : Int32) (μ : mz_M) (h :
    if (x1 : Int32) ≤ (x6 : Int32) then
      (v_ES_chanceOfEven C Q (55, [(1, mz_I x1), (3, mz_I x3), (4, mz_I x4), (5, mz_I x5), (6, mz_I 0)], [], μ))
    else
      (∃ (r2 : Int32) (μ1 : mz_M), C n_Row_at [mz_R 3 p0, mz_I x6] μ (some (mz_I r2)) μ1 ∧
        (if (r2 &&& 1 : Int32) = (0 : Int32) then
          (v_ES_chanceOfEven C Q (9, [(0, mz_R 3 p0), (1, mz_I x1), (2, mz_I x2), (3, mz_I x3), (4, mz_I (x4 * (10 - x2))), (5, mz_I (x5 * 10)), (6, mz_I (x6 + 1))], [], μ1))
        else
          (v_ES_chanceOfEven C Q (9, [(0, mz_R 3 p0), (1, mz_I x1), (2, mz_I x2), (3, mz_I x3), (4, mz_I (x4 * x2)), (5, mz_I (x5 * 10)), (6, mz_I (x6 + 1))], [], μ1))))) :
  v_ES_chanceOfEven C Q (9, [(0, mz_R 3 p0), (1, mz_I x1), (2, mz_I x2), (3, mz_I x3), (4, mz_I x4), (5, mz_I x5), (6, mz_I x6)], [], μ) := mz_Ev.run [9, 55] 400 h
set_option maxRecDepth 20000 in
set_option maxHeartbeats 4000000 in
theorem w_ES_chanceOfEven_55 {C : mz_Cl} {Q : Option mz_V → mz_M → Prop} (x1 : Int32) (x3 : Int32) (x4 : Int32) (x5 : Int32) (x6 : Int32) (μ : mz_M) (h :
    if (x1 : Int32) ≤ (x6 : Int32) then
      (if (x3 : Int32) = (0 : Int32) then
        (Q (some (mz_I x5)) μ)
      else
        (Q (some (mz_I x4)) μ))
    else
      (¬ (2 : Int32) = 0 ∧ (if (x4 - x4 / 2 * 2 : Int32) = (0 : Int32) then
        (¬ (2 : Int32) = 0 ∧ (if (x5 - x5 / 2 * 2 : Int32) = (0 : Int32) then
          (¬ (2 : Int32) = 0 ∧ (¬ (2 : Int32) = 0 ∧ (¬ (5 : Int32) = 0 ∧ (if ((x4 / 2) - (x4 / 2) / 5 * 5 : Int32) = (0 : Int32) then
            (¬ (5 : Int32) = 0 ∧ (if ((x5 / 2) - (x5 / 2) / 5 * 5 : Int32) = (0 : Int32) then
              (¬ (5 : Int32) = 0 ∧ (¬ (5 : Int32) = 0 ∧ (v_ES_chanceOfEven C Q (55, [(1, mz_I x1), (3, mz_I x3), (4, mz_I ((x4 / 2) / 5)), (5, mz_I ((x5 / 2) / 5)), (6, mz_I (x6 + 1))], [], μ))))
            else
              (v_ES_chanceOfEven C Q (55, [(1, mz_I x1), (3, mz_I x3), (4, mz_I (x4 / 2)), (5, mz_I (x5 / 2)), (6, mz_I (x6 + 1))], [], μ))))
          else
            (v_ES_chanceOfEven C Q (55, [(1, mz_I x1), (3, mz_I x3), (4, mz_I (x4 / 2)), (5, mz_I (x5 / 2)), (6, mz_I (x6 + 1))], [], μ))))))
        else
          (¬ (5 : Int32) = 0 ∧ (if (x4 - x4 / 5 * 5 : Int32) = (0 : Int32) then
            (¬ (5 : Int32) = 0 ∧ (if (x5 - x5 / 5 * 5 : Int32) = (0 : Int32) then
              (¬ (5 : Int32) = 0 ∧ (¬ (5 : Int32) = 0 ∧ (v_ES_chanceOfEven C Q (55, [(1, mz_I x1), (3, mz_I x3), (4, mz_I (x4 / 5)), (5, mz_I (x5 / 5)), (6, mz_I (x6 + 1))], [], μ))))
            else
              (v_ES_chanceOfEven C Q (55, [(1, mz_I x1), (3, mz_I x3), (4, mz_I x4), (5, mz_I x5), (6, mz_I (x6 + 1))], [], μ))))
          else
            (v_ES_chanceOfEven C Q (55, [(1, mz_I x1), (3, mz_I x3), (4, mz_I x4), (5, mz_I x5), (6, mz_I (x6 + 1))], [], μ))))))
      else
        (¬ (5 : Int32) = 0 ∧ (if (x4 - x4 / 5 * 5 : Int32) = (0 : Int32) then
          (¬ (5 : Int32) = 0 ∧ (if (x5 - x5 / 5 * 5 : Int32) = (0 : Int32) then
            (¬ (5 : Int32) = 0 ∧ (¬ (5 : Int32) = 0 ∧ (v_ES_chanceOfEven C Q (55, [(1, mz_I x1), (3, mz_I x3), (4, mz_I (x4 / 5)), (5, mz_I (x5 / 5)), (6, mz_I (x6 + 1))], [], μ))))
          else
            (v_ES_chanceOfEven C Q (55, [(1, mz_I x1), (3, mz_I x3), (4, mz_I x4), (5, mz_I x5), (6, mz_I (x6 + 1))], [], μ))))
        else
          (v_ES_chanceOfEven C Q (55, [(1, mz_I x1), (3, mz_I x3), (4, mz_I x4), (5, mz_I x5), (6, mz_I (x6 + 1))], [], μ))))))) :
  v_ES_chanceOfEven C Q (55, [(1, mz_I x1), (3, mz_I x3), (4, mz_I x4), (5, mz_I x5), (6, mz_I x6)], [], μ) := mz_Ev.run [9, 55] 400 h
end
section
/-! What the stretches of the methods ask: by program, closed by evaluation. -/
/-! EtaSeriesModel.in(JJJ)Z, number 101 -/
abbrev v_Mo_in (C : mz_Cl) (Q : Option mz_V → mz_M → Prop) : mz_S → Prop := mz_Ev es_SH tb_Mo_in C Q
set_option maxRecDepth 20000 in
set_option maxHeartbeats 4000000 in
theorem w_Mo_in_0 {C : mz_Cl} {Q : Option mz_V → mz_M → Prop} (y0 : Int64) (y2 : Int64) (y4 : Int64) (μ : mz_M) (h :
    if (lg_cmp y0 y2 : Int32) < (0 : Int32) then
      (((0 : Int32) = 0 ∨ (0 : Int32) = 1) ∧ Q (some (mz_I 0)) μ)
    else
      (if (0 : Int32) < (lg_cmp y0 y4 : Int32) then
        (((0 : Int32) = 0 ∨ (0 : Int32) = 1) ∧ Q (some (mz_I 0)) μ)
      else
        (((1 : Int32) = 0 ∨ (1 : Int32) = 1) ∧ Q (some (mz_I 1)) μ))) :
  v_Mo_in C Q (0, [(0, mz_L y0), (2, mz_L y2), (4, mz_L y4)], [], μ) := mz_Ev.run [] 400 h
/-! EtaSeriesModel.isSeries(I)Z, number 102 -/
abbrev v_Mo_isSeries (C : mz_Cl) (Q : Option mz_V → mz_M → Prop) : mz_S → Prop := mz_Ev es_SH tb_Mo_isSeries C Q
set_option maxRecDepth 20000 in
set_option maxHeartbeats 4000000 in
theorem w_Mo_isSeries_0 {C : mz_Cl} {Q : Option mz_V → mz_M → Prop} (x0 : Int32) (μ : mz_M) (h :
    ∃ (r2 : Int32) (μ1 : mz_M), C n_Mo_in [mz_L ((x0 : Int32).toInt64), mz_L 0, mz_L 3] μ (some (mz_I r2)) μ1 ∧
      (((r2 : Int32) = 0 ∨ (r2 : Int32) = 1) ∧ Q (some (mz_I r2)) μ1)) :
  v_Mo_isSeries C Q (0, [(0, mz_I x0)], [], μ) := mz_Ev.run [] 400 h
/-! EtaSeriesModel.many(I)I, number 103 -/
abbrev v_Mo_many (C : mz_Cl) (Q : Option mz_V → mz_M → Prop) : mz_S → Prop := mz_Ev es_SH tb_Mo_many C Q
set_option maxRecDepth 20000 in
set_option maxHeartbeats 4000000 in
theorem w_Mo_many_0 {C : mz_Cl} {Q : Option mz_V → mz_M → Prop} (p0 : Nat) (x1 : Int32) (μ : mz_M) (h :
    vp_in (2 + x1) 166 ∧ (Q (some (mz_I (μ.1 1 (2 + x1 : Int32).toNatClampNeg))) μ)) :
  v_Mo_many C Q (0, [(0, mz_R 16 p0), (1, mz_I x1)], [], μ) := mz_Ev.run [] 400 h
/-! EtaSeriesModel.termOf(II)I, number 104 -/
abbrev v_Mo_termOf (C : mz_Cl) (Q : Option mz_V → mz_M → Prop) : mz_S → Prop := mz_Ev es_SH tb_Mo_termOf C Q
set_option maxRecDepth 20000 in
set_option maxHeartbeats 4000000 in
theorem w_Mo_termOf_0 {C : mz_Cl} {Q : Option mz_V → mz_M → Prop} (p0 : Nat) (x1 : Int32) (x2 : Int32) (μ : mz_M) (h :
    vp_in ((6 + (40 * x1)) + x2) 166 ∧ (Q (some (mz_I (μ.1 1 ((6 + (40 * x1)) + x2 : Int32).toNatClampNeg))) μ)) :
  v_Mo_termOf C Q (0, [(0, mz_R 16 p0), (1, mz_I x1), (2, mz_I x2)], [], μ) := mz_Ev.run [] 400 h
/-! EtaSeriesModel.takesOne(I)V, number 105 -/
abbrev v_Mo_takesOne (C : mz_Cl) (Q : Option mz_V → mz_M → Prop) : mz_S → Prop := mz_Ev es_SH tb_Mo_takesOne C Q
set_option maxRecDepth 20000 in
set_option maxHeartbeats 4000000 in
theorem w_Mo_takesOne_0 {C : mz_Cl} {Q : Option mz_V → mz_M → Prop} (p0 : Nat) (x1 : Int32) (μ : mz_M) (h :
    ∃ (r2 : Int32) (μ1 : mz_M), C n_Mo_many [mz_R 16 p0, mz_I x1] μ (some (mz_I r2)) μ1 ∧
      (v_Mo_takesOne C Q (11, [(0, mz_R 16 p0), (1, mz_I x1), (2, mz_I 0)], [], mz_wI μ1 p0 2 r2))) :
  v_Mo_takesOne C Q (0, [(0, mz_R 16 p0), (1, mz_I x1)], [], μ) := mz_Ev.run [11] 400 h
set_option maxRecDepth 20000 in
set_option maxHeartbeats 4000000 in
theorem w_Mo_takesOne_11 {C : mz_Cl} {Q : Option mz_V → mz_M → Prop} (p0 : Nat) (x1 : Int32) (x2 : Int32) (μ : mz_M) (h :
    if (μ.1 p0 2 : Int32) ≤ (x2 : Int32) then
      (Q none μ)
    else
      (∃ (r2 : Int32) (μ1 : mz_M), C n_Mo_termOf [mz_R 16 p0, mz_I x1, mz_I x2] μ (some (mz_I r2)) μ1 ∧
        (vp_in x2 40 ∧ (v_Mo_takesOne C Q (11, [(0, mz_R 16 p0), (1, mz_I x1), (2, mz_I (x2 + 1))], [], mz_wL μ1 2 (x2 : Int32).toNatClampNeg ((r2 : Int32).toInt64)))))) :
  v_Mo_takesOne C Q (11, [(0, mz_R 16 p0), (1, mz_I x1), (2, mz_I x2)], [], μ) := mz_Ev.run [11] 400 h
/-! EtaSeriesModel.takesTwo(I)V, number 106 -/
abbrev v_Mo_takesTwo (C : mz_Cl) (Q : Option mz_V → mz_M → Prop) : mz_S → Prop := mz_Ev es_SH tb_Mo_takesTwo C Q
set_option maxRecDepth 20000 in
set_option maxHeartbeats 4000000 in
theorem w_Mo_takesTwo_0 {C : mz_Cl} {Q : Option mz_V → mz_M → Prop} (p0 : Nat) (x1 : Int32) (μ : mz_M) (h :
    ∃ (r2 : Int32) (μ1 : mz_M), C n_Mo_many [mz_R 16 p0, mz_I x1] μ (some (mz_I r2)) μ1 ∧
      (v_Mo_takesTwo C Q (11, [(0, mz_R 16 p0), (1, mz_I x1), (2, mz_I 0)], [], mz_wI μ1 p0 4 r2))) :
  v_Mo_takesTwo C Q (0, [(0, mz_R 16 p0), (1, mz_I x1)], [], μ) := mz_Ev.run [11] 400 h
set_option maxRecDepth 20000 in
set_option maxHeartbeats 4000000 in
theorem w_Mo_takesTwo_11 {C : mz_Cl} {Q : Option mz_V → mz_M → Prop} (p0 : Nat) (x1 : Int32) (x2 : Int32) (μ : mz_M) (h :
    if (μ.1 p0 4 : Int32) ≤ (x2 : Int32) then
      (Q none μ)
    else
      (∃ (r2 : Int32) (μ1 : mz_M), C n_Mo_termOf [mz_R 16 p0, mz_I x1, mz_I x2] μ (some (mz_I r2)) μ1 ∧
        (vp_in x2 40 ∧ (v_Mo_takesTwo C Q (11, [(0, mz_R 16 p0), (1, mz_I x1), (2, mz_I (x2 + 1))], [], mz_wL μ1 3 (x2 : Int32).toNatClampNeg ((r2 : Int32).toInt64)))))) :
  v_Mo_takesTwo C Q (11, [(0, mz_R 16 p0), (1, mz_I x1), (2, mz_I x2)], [], μ) := mz_Ev.run [11] 400 h
/-! EtaSeriesModel.goesOn()V, number 107 -/
abbrev v_Mo_goesOn (C : mz_Cl) (Q : Option mz_V → mz_M → Prop) : mz_S → Prop := mz_Ev es_SH tb_Mo_goesOn C Q
set_option maxRecDepth 20000 in
set_option maxHeartbeats 4000000 in
theorem w_Mo_goesOn_0 {C : mz_Cl} {Q : Option mz_V → mz_M → Prop} (p0 : Nat) (μ : mz_M) (h :
    v_Mo_goesOn C Q (10, [(0, mz_R 16 p0), (1, mz_I 0)], [], mz_wI μ p0 2 (μ.1 p0 6))) :
  v_Mo_goesOn C Q (0, [(0, mz_R 16 p0)], [], μ) := mz_Ev.run [10] 400 h
set_option maxRecDepth 20000 in
set_option maxHeartbeats 4000000 in
theorem w_Mo_goesOn_10 {C : mz_Cl} {Q : Option mz_V → mz_M → Prop} (p0 : Nat) (x1 : Int32) (μ : mz_M) (h :
    if (μ.1 p0 6 : Int32) ≤ (x1 : Int32) then
      (Q none μ)
    else
      (vp_in x1 40 ∧ (vp_in x1 40 ∧ (v_Mo_goesOn C Q (10, [(0, mz_R 16 p0), (1, mz_I (x1 + 1))], [], mz_wL μ 2 (x1 : Int32).toNatClampNeg (μ.2 4 (x1 : Int32).toNatClampNeg)))))) :
  v_Mo_goesOn C Q (10, [(0, mz_R 16 p0), (1, mz_I x1)], [], μ) := mz_Ev.run [10] 400 h
/-! EtaSeriesModel.copiesToTwo()V, number 108 -/
abbrev v_Mo_copiesToTwo (C : mz_Cl) (Q : Option mz_V → mz_M → Prop) : mz_S → Prop := mz_Ev es_SH tb_Mo_copiesToTwo C Q
set_option maxRecDepth 20000 in
set_option maxHeartbeats 4000000 in
theorem w_Mo_copiesToTwo_0 {C : mz_Cl} {Q : Option mz_V → mz_M → Prop} (p0 : Nat) (μ : mz_M) (h :
    v_Mo_copiesToTwo C Q (10, [(0, mz_R 16 p0), (1, mz_I 0)], [], mz_wI μ p0 4 (μ.1 p0 6))) :
  v_Mo_copiesToTwo C Q (0, [(0, mz_R 16 p0)], [], μ) := mz_Ev.run [10] 400 h
set_option maxRecDepth 20000 in
set_option maxHeartbeats 4000000 in
theorem w_Mo_copiesToTwo_10 {C : mz_Cl} {Q : Option mz_V → mz_M → Prop} (p0 : Nat) (x1 : Int32) (μ : mz_M) (h :
    if (μ.1 p0 6 : Int32) ≤ (x1 : Int32) then
      (Q none μ)
    else
      (vp_in x1 40 ∧ (vp_in x1 40 ∧ (v_Mo_copiesToTwo C Q (10, [(0, mz_R 16 p0), (1, mz_I (x1 + 1))], [], mz_wL μ 3 (x1 : Int32).toNatClampNeg (μ.2 4 (x1 : Int32).toNatClampNeg)))))) :
  v_Mo_copiesToTwo C Q (10, [(0, mz_R 16 p0), (1, mz_I x1)], [], μ) := mz_Ev.run [10] 400 h
/-! EtaSeriesModel.keeps(I)I, number 109 -/
abbrev v_Mo_keeps (C : mz_Cl) (Q : Option mz_V → mz_M → Prop) : mz_S → Prop := mz_Ev es_SH tb_Mo_keeps C Q
set_option maxRecDepth 20000 in
set_option maxHeartbeats 4000000 in
theorem w_Mo_keeps_0 {C : mz_Cl} {Q : Option mz_V → mz_M → Prop} (p0 : Nat) (x1 : Int32) (μ : mz_M) (h :
    ∃ μ1, C n_Mo_notes [mz_R 16 p0] μ none μ1 ∧
      (vp_in (2 + x1) 166 ∧ (v_Mo_keeps C Q (18, [(0, mz_R 16 p0), (1, mz_I x1), (2, mz_I 0)], [], mz_wI μ1 1 (2 + x1 : Int32).toNatClampNeg (μ1.1 p0 6))))) :
  v_Mo_keeps C Q (0, [(0, mz_R 16 p0), (1, mz_I x1)], [], μ) := mz_Ev.run [18] 400 h
set_option maxRecDepth 20000 in
set_option maxHeartbeats 4000000 in
theorem w_Mo_keeps_18 {C : mz_Cl} {Q : Option mz_V → mz_M → Prop} (p0 : Nat) (x1 : Int32) (x2 : Int32) (μ : mz_M) (h :
    if (40 : Int32) ≤ (x2 : Int32) then
      (Q (some (mz_I (μ.1 p0 6))) μ)
    else
      (if (μ.1 p0 6 : Int32) ≤ (x2 : Int32) then
        (vp_in ((6 + (40 * x1)) + x2) 166 ∧ (v_Mo_keeps C Q (18, [(0, mz_R 16 p0), (1, mz_I x1), (2, mz_I (x2 + 1))], [], mz_wI μ 1 ((6 + (40 * x1)) + x2 : Int32).toNatClampNeg 0)))
      else
        (vp_in x2 40 ∧ (vp_in ((6 + (40 * x1)) + x2) 166 ∧ (v_Mo_keeps C Q (18, [(0, mz_R 16 p0), (1, mz_I x1), (2, mz_I (x2 + 1))], [], mz_wI μ 1 ((6 + (40 * x1)) + x2 : Int32).toNatClampNeg ((μ.2 4 (x2 : Int32).toNatClampNeg : Int64).toInt32))))))) :
  v_Mo_keeps C Q (18, [(0, mz_R 16 p0), (1, mz_I x1), (2, mz_I x2)], [], μ) := mz_Ev.run [18] 400 h
/-! EtaSeriesModel.wide()I, number 110 -/
abbrev v_Mo_wide (C : mz_Cl) (Q : Option mz_V → mz_M → Prop) : mz_S → Prop := mz_Ev es_SH tb_Mo_wide C Q
set_option maxRecDepth 20000 in
set_option maxHeartbeats 4000000 in
theorem w_Mo_wide_0 {C : mz_Cl} {Q : Option mz_V → mz_M → Prop} (p0 : Nat) (μ : mz_M) (h :
    v_Mo_wide C Q (4, [(0, mz_R 16 p0), (1, mz_I 0), (2, mz_I 0)], [], μ)) :
  v_Mo_wide C Q (0, [(0, mz_R 16 p0)], [], μ) := mz_Ev.run [4] 400 h
set_option maxRecDepth 20000 in
set_option maxHeartbeats 4000000 in
theorem w_Mo_wide_4 {C : mz_Cl} {Q : Option mz_V → mz_M → Prop} (p0 : Nat) (x1 : Int32) (x2 : Int32) (μ : mz_M) (h :
    if (μ.1 p0 6 : Int32) ≤ (x2 : Int32) then
      (if (x1 : Int32) = (0 : Int32) then
        (Q (some (mz_I 0)) μ)
      else
        (Q (some (mz_I ((-1000005)))) μ))
    else
      (if (x1 : Int32) = (0 : Int32) then
        (vp_in x2 40 ∧ (∃ (r2 : Int32) (μ1 : mz_M), C n_Mo_in [mz_L (μ.2 4 (x2 : Int32).toNatClampNeg), mz_L ((-100000000)), mz_L 100000000] μ (some (mz_I r2)) μ1 ∧
          (if (r2 : Int32) = (0 : Int32) then
            (v_Mo_wide C Q (4, [(0, mz_R 16 p0), (1, mz_I 1), (2, mz_I (x2 + 1))], [], μ1))
          else
            (v_Mo_wide C Q (4, [(0, mz_R 16 p0), (1, mz_I 0), (2, mz_I (x2 + 1))], [], μ1)))))
      else
        (v_Mo_wide C Q (4, [(0, mz_R 16 p0), (1, mz_I 1), (2, mz_I (x2 + 1))], [], μ)))) :
  v_Mo_wide C Q (4, [(0, mz_R 16 p0), (1, mz_I x1), (2, mz_I x2)], [], μ) := mz_Ev.run [4] 400 h
/-! EtaSeriesModel.product(I)J, number 111 -/
abbrev v_Mo_product (C : mz_Cl) (Q : Option mz_V → mz_M → Prop) : mz_S → Prop := mz_Ev es_SH tb_Mo_product C Q
set_option maxRecDepth 20000 in
set_option maxHeartbeats 4000000 in
theorem w_Mo_product_0 {C : mz_Cl} {Q : Option mz_V → mz_M → Prop} (p0 : Nat) (x1 : Int32) (μ : mz_M) (h :
    v_Mo_product C Q (5, [(0, mz_R 16 p0), (1, mz_I x1), (2, mz_L 0), (4, mz_I 0)], [], μ)) :
  v_Mo_product C Q (0, [(0, mz_R 16 p0), (1, mz_I x1)], [], μ) := mz_Ev.run [5] 400 h
set_option maxRecDepth 20000 in
set_option maxHeartbeats 4000000 in
theorem w_Mo_product_5 {C : mz_Cl} {Q : Option mz_V → mz_M → Prop} (p0 : Nat) (x1 : Int32) (y2 : Int64) (x4 : Int32) (μ : mz_M) (h :
    if (x1 : Int32) < (x4 : Int32) then
      (Q (some (mz_L y2)) μ)
    else
      (vp_in x4 40 ∧ (vp_in (x1 - x4) 40 ∧ (v_Mo_product C Q (5, [(0, mz_R 16 p0), (1, mz_I x1), (2, mz_L (y2 + ((μ.2 2 (x4 : Int32).toNatClampNeg) * (μ.2 3 (x1 - x4 : Int32).toNatClampNeg)))), (4, mz_I (x4 + 1))], [], μ))))) :
  v_Mo_product C Q (5, [(0, mz_R 16 p0), (1, mz_I x1), (2, mz_L y2), (4, mz_I x4)], [], μ) := mz_Ev.run [5] 400 h
/-! EtaSeriesModel.over()I, number 112 -/
abbrev v_Mo_over (C : mz_Cl) (Q : Option mz_V → mz_M → Prop) : mz_S → Prop := mz_Ev es_SH tb_Mo_over C Q
set_option maxRecDepth 20000 in
set_option maxHeartbeats 4000000 in
theorem w_Mo_over_0 {C : mz_Cl} {Q : Option mz_V → mz_M → Prop} (p0 : Nat) (μ : mz_M) (h :
    vp_in 0 40 ∧ (if (lg_cmp (μ.2 3 (0 : Int32).toNatClampNeg) 1 : Int32) = (0 : Int32) then
      (v_Mo_over C Q (29, [(0, mz_R 16 p0), (1, mz_I 0)], [], μ))
    else
      (vp_in 0 40 ∧ (if (lg_cmp (μ.2 3 (0 : Int32).toNatClampNeg) ((-1)) : Int32) = (0 : Int32) then
        (v_Mo_over C Q (29, [(0, mz_R 16 p0), (1, mz_I 0)], [], μ))
      else
        (Q (some (mz_I ((-1000006)))) μ))))) :
  v_Mo_over C Q (0, [(0, mz_R 16 p0)], [], μ) := mz_Ev.run [29, 47] 400 h
set_option maxRecDepth 20000 in
set_option maxHeartbeats 4000000 in
theorem w_Mo_over_29 {C : mz_Cl} {Q : Option mz_V → mz_M → Prop} (p0 : Nat) (x1 : Int32) (μ : mz_M) (h :
    if (μ.1 p0 6 : Int32) ≤ (x1 : Int32) then
      (Q (some (mz_I 0)) μ)
    else
      (vp_in x1 40 ∧ (v_Mo_over C Q (47, [(0, mz_R 16 p0), (1, mz_I x1), (2, mz_L (μ.2 2 (x1 : Int32).toNatClampNeg)), (4, mz_I 1)], [], μ)))) :
  v_Mo_over C Q (29, [(0, mz_R 16 p0), (1, mz_I x1)], [], μ) := mz_Ev.run [29, 47] 400 h
set_option maxRecDepth 20000 in
set_option maxHeartbeats 4000000 in
theorem w_Mo_over_47 {C : mz_Cl} {Q : Option mz_V → mz_M → Prop} (p0 : Nat) (x1 : Int32) (y2 : Int64) (x4 : Int32) (μ : mz_M) (h :
    if (x1 : Int32) < (x4 : Int32) then
      (vp_in 0 40 ∧ (vp_in x1 40 ∧ (vp_in x1 40 ∧ (∃ (r2 : Int32) (μ1 : mz_M), C n_Mo_in [mz_L ((mz_wL μ 4 (x1 : Int32).toNatClampNeg (y2 * (μ.2 3 (0 : Int32).toNatClampNeg))).2 4 (x1 : Int32).toNatClampNeg), mz_L ((-100000000)), mz_L 100000000] (mz_wL μ 4 (x1 : Int32).toNatClampNeg (y2 * (μ.2 3 (0 : Int32).toNatClampNeg))) (some (mz_I r2)) μ1 ∧
        (if (r2 : Int32) = (0 : Int32) then
          (Q (some (mz_I ((-1000005)))) μ1)
        else
          (v_Mo_over C Q (29, [(0, mz_R 16 p0), (1, mz_I (x1 + 1))], [], μ1)))))))
    else
      (vp_in x4 40 ∧ (vp_in (x1 - x4) 40 ∧ (v_Mo_over C Q (47, [(0, mz_R 16 p0), (1, mz_I x1), (2, mz_L (y2 - ((μ.2 3 (x4 : Int32).toNatClampNeg) * (μ.2 4 (x1 - x4 : Int32).toNatClampNeg)))), (4, mz_I (x4 + 1))], [], μ))))) :
  v_Mo_over C Q (47, [(0, mz_R 16 p0), (1, mz_I x1), (2, mz_L y2), (4, mz_I x4)], [], μ) := mz_Ev.run [29, 47] 400 h
/-! EtaSeriesModel.joins(I)I, number 113 -/
abbrev v_Mo_joins (C : mz_Cl) (Q : Option mz_V → mz_M → Prop) : mz_S → Prop := mz_Ev es_SH tb_Mo_joins C Q
set_option maxRecDepth 20000 in
set_option maxHeartbeats 4000000 in
theorem w_Mo_joins_0 {C : mz_Cl} {Q : Option mz_V → mz_M → Prop} (p0 : Nat) (x1 : Int32) (μ : mz_M) (h :
    if (μ.1 p0 4 : Int32) ≤ (μ.1 p0 2 : Int32) then
      (if (x1 : Int32) = (3 : Int32) then
        (∃ (r2 : Int32) (μ1 : mz_M), C n_Mo_over [mz_R 16 p0] (mz_wI μ p0 6 (μ.1 p0 4)) (some (mz_I r2)) μ1 ∧
          (Q (some (mz_I r2)) μ1))
      else
        (v_Mo_joins C Q (38, [(0, mz_R 16 p0), (1, mz_I x1), (2, mz_I 0)], [], mz_wI μ p0 6 (μ.1 p0 4))))
    else
      (if (x1 : Int32) = (3 : Int32) then
        (∃ (r4 : Int32) (μ3 : mz_M), C n_Mo_over [mz_R 16 p0] (mz_wI μ p0 6 (μ.1 p0 2)) (some (mz_I r4)) μ3 ∧
          (Q (some (mz_I r4)) μ3))
      else
        (v_Mo_joins C Q (38, [(0, mz_R 16 p0), (1, mz_I x1), (2, mz_I 0)], [], mz_wI μ p0 6 (μ.1 p0 2))))) :
  v_Mo_joins C Q (0, [(0, mz_R 16 p0), (1, mz_I x1)], [], μ) := mz_Ev.run [38] 400 h
set_option maxRecDepth 20000 in
set_option maxHeartbeats 4000000 in
theorem w_Mo_joins_38 {C : mz_Cl} {Q : Option mz_V → mz_M → Prop} (p0 : Nat) (x1 : Int32) (x2 : Int32) (μ : mz_M) (h :
    if (μ.1 p0 6 : Int32) ≤ (x2 : Int32) then
      (∃ (r2 : Int32) (μ1 : mz_M), C n_Mo_wide [mz_R 16 p0] μ (some (mz_I r2)) μ1 ∧
        (Q (some (mz_I r2)) μ1))
    else
      (if (x1 : Int32) = (0 : Int32) then
        (vp_in x2 40 ∧ (vp_in x2 40 ∧ (vp_in x2 40 ∧ (v_Mo_joins C Q (38, [(0, mz_R 16 p0), (1, mz_I x1), (2, mz_I (x2 + 1))], [], mz_wL μ 4 (x2 : Int32).toNatClampNeg ((μ.2 2 (x2 : Int32).toNatClampNeg) + (μ.2 3 (x2 : Int32).toNatClampNeg)))))))
      else
        (if (x1 : Int32) = (1 : Int32) then
          (vp_in x2 40 ∧ (vp_in x2 40 ∧ (vp_in x2 40 ∧ (v_Mo_joins C Q (38, [(0, mz_R 16 p0), (1, mz_I x1), (2, mz_I (x2 + 1))], [], mz_wL μ 4 (x2 : Int32).toNatClampNeg ((μ.2 2 (x2 : Int32).toNatClampNeg) - (μ.2 3 (x2 : Int32).toNatClampNeg)))))))
        else
          (∃ (r4 : Int64) (μ3 : mz_M), C n_Mo_product [mz_R 16 p0, mz_I x2] μ (some (mz_L r4)) μ3 ∧
            (vp_in x2 40 ∧ (v_Mo_joins C Q (38, [(0, mz_R 16 p0), (1, mz_I x1), (2, mz_I (x2 + 1))], [], mz_wL μ3 4 (x2 : Int32).toNatClampNeg r4))))))) :
  v_Mo_joins C Q (38, [(0, mz_R 16 p0), (1, mz_I x1), (2, mz_I x2)], [], μ) := mz_Ev.run [38] 400 h
/-! EtaSeriesModel.makes(III)V, number 114 -/
abbrev v_Mo_makes (C : mz_Cl) (Q : Option mz_V → mz_M → Prop) : mz_S → Prop := mz_Ev es_SH tb_Mo_makes C Q
set_option maxRecDepth 20000 in
set_option maxHeartbeats 4000000 in
theorem w_Mo_makes_0 {C : mz_Cl} {Q : Option mz_V → mz_M → Prop} (p0 : Nat) (x1 : Int32) (x2 : Int32) (x3 : Int32) (μ : mz_M) (h :
    v_Mo_makes C Q (8, [(0, mz_R 16 p0), (1, mz_I x1), (2, mz_I x2), (3, mz_I x3), (4, mz_I 0)], [], mz_wI μ p0 6 x3)) :
  v_Mo_makes C Q (0, [(0, mz_R 16 p0), (1, mz_I x1), (2, mz_I x2), (3, mz_I x3)], [], μ) := mz_Ev.run [8, 65] 400 h
set_option maxRecDepth 20000 in
set_option maxHeartbeats 4000000 in
theorem w_Mo_makes_8 {C : mz_Cl} {Q : Option mz_V → mz_M → Prop} (p0 : Nat) (x1 : Int32) (x2 : Int32) (x3 : Int32) (x4 : Int32) (μ : mz_M) (h :
    if (x3 : Int32) ≤ (x4 : Int32) then
      (if (x1 : Int32) = (0 : Int32) then
        (if (x3 : Int32) ≤ (x2 : Int32) then
          (Q none μ)
        else
          (vp_in x2 40 ∧ (Q none (mz_wL μ 4 (x2 : Int32).toNatClampNeg 1))))
      else
        (if (x1 : Int32) = (4 : Int32) then
          (if (x3 : Int32) ≤ (x2 : Int32) then
            (Q none μ)
          else
            (vp_in x2 40 ∧ (Q none (mz_wL μ 4 (x2 : Int32).toNatClampNeg 1))))
        else
          (if (x1 : Int32) = (3 : Int32) then
            (∃ μ1, C n_Mo_euler [mz_R 16 p0, mz_I x2, mz_I x3] μ none μ1 ∧
              (Q none μ1))
          else
            (v_Mo_makes C Q (65, [(0, mz_R 16 p0), (1, mz_I x1), (2, mz_I x2), (3, mz_I x3), (4, mz_I 0)], [], μ)))))
    else
      (vp_in x4 40 ∧ (v_Mo_makes C Q (8, [(0, mz_R 16 p0), (1, mz_I x1), (2, mz_I x2), (3, mz_I x3), (4, mz_I (x4 + 1))], [], mz_wL μ 4 (x4 : Int32).toNatClampNeg 0)))) :
  v_Mo_makes C Q (8, [(0, mz_R 16 p0), (1, mz_I x1), (2, mz_I x2), (3, mz_I x3), (4, mz_I x4)], [], μ) := mz_Ev.run [8, 65] 400 h
set_option maxRecDepth 20000 in
set_option maxHeartbeats 4000000 in
theorem w_Mo_makes_65 {C : mz_Cl} {Q : Option mz_V → mz_M → Prop} (p0 : Nat) (x1 : Int32) (x2 : Int32) (x3 : Int32) (x4 : Int32) (μ : mz_M) (h :
    if (40 : Int32) ≤ (x4 : Int32) then
      (Q none μ)
    else
      (if (x1 : Int32) = (1 : Int32) then
        (if (x3 : Int32) ≤ ((x2 * x4) * x4 : Int32) then
          (v_Mo_makes C Q (65, [(0, mz_R 16 p0), (1, mz_I x1), (2, mz_I x2), (3, mz_I x3), (4, mz_I (x4 + 1))], [], μ))
        else
          (vp_in ((x2 * x4) * x4) 40 ∧ (if (x1 : Int32) = (1 : Int32) then
            (if (x4 : Int32) ≤ (0 : Int32) then
              (vp_in ((x2 * x4) * x4) 40 ∧ (v_Mo_makes C Q (65, [(0, mz_R 16 p0), (1, mz_I x1), (2, mz_I x2), (3, mz_I x3), (4, mz_I (x4 + 1))], [], mz_wL μ 4 ((x2 * x4) * x4 : Int32).toNatClampNeg ((μ.2 4 ((x2 * x4) * x4 : Int32).toNatClampNeg) + 1))))
            else
              (vp_in ((x2 * x4) * x4) 40 ∧ (v_Mo_makes C Q (65, [(0, mz_R 16 p0), (1, mz_I x1), (2, mz_I x2), (3, mz_I x3), (4, mz_I (x4 + 1))], [], mz_wL μ 4 ((x2 * x4) * x4 : Int32).toNatClampNeg ((μ.2 4 ((x2 * x4) * x4 : Int32).toNatClampNeg) + 2)))))
          else
            (vp_in ((x2 * x4) * x4) 40 ∧ (v_Mo_makes C Q (65, [(0, mz_R 16 p0), (1, mz_I x1), (2, mz_I x2), (3, mz_I x3), (4, mz_I (x4 + 1))], [], mz_wL μ 4 ((x2 * x4) * x4 : Int32).toNatClampNeg ((μ.2 4 ((x2 * x4) * x4 : Int32).toNatClampNeg) + 1)))))))
      else
        (¬ (2 : Int32) = 0 ∧ (if (x3 : Int32) ≤ (((x2 * x4) * (x4 + 1)) / 2 : Int32) then
          (v_Mo_makes C Q (65, [(0, mz_R 16 p0), (1, mz_I x1), (2, mz_I x2), (3, mz_I x3), (4, mz_I (x4 + 1))], [], μ))
        else
          (vp_in (((x2 * x4) * (x4 + 1)) / 2) 40 ∧ (if (x1 : Int32) = (1 : Int32) then
            (if (x4 : Int32) ≤ (0 : Int32) then
              (vp_in (((x2 * x4) * (x4 + 1)) / 2) 40 ∧ (v_Mo_makes C Q (65, [(0, mz_R 16 p0), (1, mz_I x1), (2, mz_I x2), (3, mz_I x3), (4, mz_I (x4 + 1))], [], mz_wL μ 4 (((x2 * x4) * (x4 + 1)) / 2 : Int32).toNatClampNeg ((μ.2 4 (((x2 * x4) * (x4 + 1)) / 2 : Int32).toNatClampNeg) + 1))))
            else
              (vp_in (((x2 * x4) * (x4 + 1)) / 2) 40 ∧ (v_Mo_makes C Q (65, [(0, mz_R 16 p0), (1, mz_I x1), (2, mz_I x2), (3, mz_I x3), (4, mz_I (x4 + 1))], [], mz_wL μ 4 (((x2 * x4) * (x4 + 1)) / 2 : Int32).toNatClampNeg ((μ.2 4 (((x2 * x4) * (x4 + 1)) / 2 : Int32).toNatClampNeg) + 2)))))
          else
            (vp_in (((x2 * x4) * (x4 + 1)) / 2) 40 ∧ (v_Mo_makes C Q (65, [(0, mz_R 16 p0), (1, mz_I x1), (2, mz_I x2), (3, mz_I x3), (4, mz_I (x4 + 1))], [], mz_wL μ 4 (((x2 * x4) * (x4 + 1)) / 2 : Int32).toNatClampNeg ((μ.2 4 (((x2 * x4) * (x4 + 1)) / 2 : Int32).toNatClampNeg) + 1)))))))))) :
  v_Mo_makes C Q (65, [(0, mz_R 16 p0), (1, mz_I x1), (2, mz_I x2), (3, mz_I x3), (4, mz_I x4)], [], μ) := mz_Ev.run [8, 65] 400 h
/-! EtaSeriesModel.euler(II)V, number 115 -/
abbrev v_Mo_euler (C : mz_Cl) (Q : Option mz_V → mz_M → Prop) : mz_S → Prop := mz_Ev es_SH tb_Mo_euler C Q
set_option maxRecDepth 20000 in
set_option maxHeartbeats 4000000 in
theorem w_Mo_euler_0 {C : mz_Cl} {Q : Option mz_V → mz_M → Prop} (p0 : Nat) (x1 : Int32) (x2 : Int32) (μ : mz_M) (h :
    vp_in 0 40 ∧ (v_Mo_euler C Q (9, [(0, mz_R 16 p0), (1, mz_I x1), (2, mz_I x2), (3, mz_I x1)], [], mz_wL μ 4 (0 : Int32).toNatClampNeg 1))) :
  v_Mo_euler C Q (0, [(0, mz_R 16 p0), (1, mz_I x1), (2, mz_I x2)], [], μ) := mz_Ev.run [9, 19] 400 h
set_option maxRecDepth 20000 in
set_option maxHeartbeats 4000000 in
theorem w_Mo_euler_9 {C : mz_Cl} {Q : Option mz_V → mz_M → Prop} (p0 : Nat) (x1 : Int32) (x2 : Int32) (x3 : Int32) (μ : mz_M) (h :
    if (x2 : Int32) ≤ (x3 : Int32) then
      (Q none μ)
    else
      (v_Mo_euler C Q (19, [(0, mz_R 16 p0), (1, mz_I x1), (2, mz_I x2), (3, mz_I x3), (4, mz_I (x2 - 1))], [], μ))) :
  v_Mo_euler C Q (9, [(0, mz_R 16 p0), (1, mz_I x1), (2, mz_I x2), (3, mz_I x3)], [], μ) := mz_Ev.run [9, 19] 400 h
set_option maxRecDepth 20000 in
set_option maxHeartbeats 4000000 in
theorem w_Mo_euler_19 {C : mz_Cl} {Q : Option mz_V → mz_M → Prop} (p0 : Nat) (x1 : Int32) (x2 : Int32) (x3 : Int32) (x4 : Int32) (μ : mz_M) (h :
    if (x4 : Int32) < (x3 : Int32) then
      (v_Mo_euler C Q (9, [(0, mz_R 16 p0), (1, mz_I x1), (2, mz_I x2), (3, mz_I (x3 + x1))], [], μ))
    else
      (vp_in x4 40 ∧ (vp_in (x4 - x3) 40 ∧ (vp_in x4 40 ∧ (v_Mo_euler C Q (19, [(0, mz_R 16 p0), (1, mz_I x1), (2, mz_I x2), (3, mz_I x3), (4, mz_I (x4 + (-1)))], [], mz_wL μ 4 (x4 : Int32).toNatClampNeg ((μ.2 4 (x4 : Int32).toNatClampNeg) - (μ.2 4 (x4 - x3 : Int32).toNatClampNeg)))))))) :
  v_Mo_euler C Q (19, [(0, mz_R 16 p0), (1, mz_I x1), (2, mz_I x2), (3, mz_I x3), (4, mz_I x4)], [], μ) := mz_Ev.run [9, 19] 400 h
/-! EtaSeriesModel.powers(I)I, number 116 -/
abbrev v_Mo_powers (C : mz_Cl) (Q : Option mz_V → mz_M → Prop) : mz_S → Prop := mz_Ev es_SH tb_Mo_powers C Q
set_option maxRecDepth 20000 in
set_option maxHeartbeats 4000000 in
theorem w_Mo_powers_0 {C : mz_Cl} {Q : Option mz_V → mz_M → Prop} (p0 : Nat) (x1 : Int32) (μ : mz_M) (h :
    ∃ μ1, C n_Mo_copiesToTwo [mz_R 16 p0] μ none μ1 ∧
      (∃ μ2, C n_Mo_makes [mz_R 16 p0, mz_I 0, mz_I 0, mz_I (μ.1 p0 6)] μ1 none μ2 ∧
        (v_Mo_powers C Q (21, [(0, mz_R 16 p0), (1, mz_I x1), (3, mz_I 0), (4, mz_I 0)], [], μ2)))) :
  v_Mo_powers C Q (0, [(0, mz_R 16 p0), (1, mz_I x1)], [], μ) := mz_Ev.run [21] 400 h
set_option maxRecDepth 20000 in
set_option maxHeartbeats 4000000 in
theorem w_Mo_powers_21 {C : mz_Cl} {Q : Option mz_V → mz_M → Prop} (p0 : Nat) (x1 : Int32) (x3 : Int32) (x4 : Int32) (μ : mz_M) (h :
    if (x1 : Int32) ≤ (x4 : Int32) then
      (Q (some (mz_I x3)) μ)
    else
      (if (x3 : Int32) = (0 : Int32) then
        (∃ μ1, C n_Mo_goesOn [mz_R 16 p0] μ none μ1 ∧
          (∃ (r3 : Int32) (μ2 : mz_M), C n_Mo_joins [mz_R 16 p0, mz_I 2] μ1 (some (mz_I r3)) μ2 ∧
            (v_Mo_powers C Q (21, [(0, mz_R 16 p0), (1, mz_I x1), (3, mz_I r3), (4, mz_I (x4 + 1))], [], μ2))))
      else
        (Q (some (mz_I x3)) μ))) :
  v_Mo_powers C Q (21, [(0, mz_R 16 p0), (1, mz_I x1), (3, mz_I x3), (4, mz_I x4)], [], μ) := mz_Ev.run [21] 400 h
/-! EtaSeriesModel.isKind(II)Z, number 117 -/
abbrev v_Mo_isKind (C : mz_Cl) (Q : Option mz_V → mz_M → Prop) : mz_S → Prop := mz_Ev es_SH tb_Mo_isKind C Q
set_option maxRecDepth 20000 in
set_option maxHeartbeats 4000000 in
theorem w_Mo_isKind_0 {C : mz_Cl} {Q : Option mz_V → mz_M → Prop} (x0 : Int32) (x1 : Int32) (μ : mz_M) (h :
    if (x0 : Int32) = (0 : Int32) then
      (if (x1 : Int32) = (0 : Int32) then
        (((1 : Int32) = 0 ∨ (1 : Int32) = 1) ∧ Q (some (mz_I 1)) μ)
      else
        (((0 : Int32) = 0 ∨ (0 : Int32) = 1) ∧ Q (some (mz_I 0)) μ))
    else
      (if (x0 : Int32) = (4 : Int32) then
        (∃ (r2 : Int32) (μ1 : mz_M), C n_Mo_in [mz_L ((x1 : Int32).toInt64), mz_L 0, mz_L 39] μ (some (mz_I r2)) μ1 ∧
          (((r2 : Int32) = 0 ∨ (r2 : Int32) = 1) ∧ Q (some (mz_I r2)) μ1))
      else
        (∃ (r4 : Int32) (μ3 : mz_M), C n_Mo_in [mz_L ((x0 : Int32).toInt64), mz_L 1, mz_L 3] μ (some (mz_I r4)) μ3 ∧
          (if (r4 : Int32) = (0 : Int32) then
            (((0 : Int32) = 0 ∨ (0 : Int32) = 1) ∧ Q (some (mz_I 0)) μ3)
          else
            (∃ (r6 : Int32) (μ5 : mz_M), C n_Mo_in [mz_L ((x1 : Int32).toInt64), mz_L 1, mz_L 9] μ3 (some (mz_I r6)) μ5 ∧
              (if (r6 : Int32) = (0 : Int32) then
                (((0 : Int32) = 0 ∨ (0 : Int32) = 1) ∧ Q (some (mz_I 0)) μ5)
              else
                (((1 : Int32) = 0 ∨ (1 : Int32) = 1) ∧ Q (some (mz_I 1)) μ5))))))) :
  v_Mo_isKind C Q (0, [(0, mz_I x0), (1, mz_I x1)], [], μ) := mz_Ev.run [] 400 h
/-! EtaSeriesModel.make(III)I, number 118 -/
abbrev v_Mo_make (C : mz_Cl) (Q : Option mz_V → mz_M → Prop) : mz_S → Prop := mz_Ev es_SH tb_Mo_make C Q
set_option maxRecDepth 20000 in
set_option maxHeartbeats 4000000 in
theorem w_Mo_make_0 {C : mz_Cl} {Q : Option mz_V → mz_M → Prop} (p0 : Nat) (x1 : Int32) (x2 : Int32) (x3 : Int32) (μ : mz_M) (h :
    ∃ (r2 : Int32) (μ1 : mz_M), C n_Mo_isSeries [mz_I x1] μ (some (mz_I r2)) μ1 ∧
      (if (r2 : Int32) = (0 : Int32) then
        (Q (some (mz_I ((-1000001)))) μ1)
      else
        (∃ (r4 : Int32) (μ3 : mz_M), C n_Mo_isKind [mz_I x2, mz_I x3] μ1 (some (mz_I r4)) μ3 ∧
          (if (r4 : Int32) = (0 : Int32) then
            (Q (some (mz_I ((-1000001)))) μ3)
          else
            (vp_in 0 166 ∧ (∃ μ5, C n_Mo_makes [mz_R 16 p0, mz_I x2, mz_I x3, mz_I (μ3.1 1 (0 : Int32).toNatClampNeg)] μ3 none μ5 ∧
              (∃ (r7 : Int32) (μ6 : mz_M), C n_Mo_keeps [mz_R 16 p0, mz_I x1] μ5 (some (mz_I r7)) μ6 ∧
                (Q (some (mz_I r7)) μ6)))))))) :
  v_Mo_make C Q (0, [(0, mz_R 16 p0), (1, mz_I x1), (2, mz_I x2), (3, mz_I x3)], [], μ) := mz_Ev.run [] 400 h
/-! EtaSeriesModel.join(IIII)I, number 119 -/
abbrev v_Mo_join (C : mz_Cl) (Q : Option mz_V → mz_M → Prop) : mz_S → Prop := mz_Ev es_SH tb_Mo_join C Q
set_option maxRecDepth 20000 in
set_option maxHeartbeats 4000000 in
theorem w_Mo_join_0 {C : mz_Cl} {Q : Option mz_V → mz_M → Prop} (p0 : Nat) (x1 : Int32) (x2 : Int32) (x3 : Int32) (x4 : Int32) (μ : mz_M) (h :
    ∃ (r2 : Int32) (μ1 : mz_M), C n_Mo_isSeries [mz_I x1] μ (some (mz_I r2)) μ1 ∧
      (if (r2 : Int32) = (0 : Int32) then
        (Q (some (mz_I ((-1000001)))) μ1)
      else
        (∃ (r4 : Int32) (μ3 : mz_M), C n_Mo_in [mz_L ((x2 : Int32).toInt64), mz_L 0, mz_L 3] μ1 (some (mz_I r4)) μ3 ∧
          (if (r4 : Int32) = (0 : Int32) then
            (Q (some (mz_I ((-1000001)))) μ3)
          else
            (∃ (r6 : Int32) (μ5 : mz_M), C n_Mo_isSeries [mz_I x3] μ3 (some (mz_I r6)) μ5 ∧
              (if (r6 : Int32) = (0 : Int32) then
                (Q (some (mz_I ((-1000001)))) μ5)
              else
                (∃ (r8 : Int32) (μ7 : mz_M), C n_Mo_isSeries [mz_I x4] μ5 (some (mz_I r8)) μ7 ∧
                  (if (r8 : Int32) = (0 : Int32) then
                    (Q (some (mz_I ((-1000001)))) μ7)
                  else
                    (∃ (r10 : Int32) (μ9 : mz_M), C n_Mo_many [mz_R 16 p0, mz_I x3] μ7 (some (mz_I r10)) μ9 ∧
                      (if (r10 : Int32) = (0 : Int32) then
                        (Q (some (mz_I ((-1000011)))) μ9)
                      else
                        (∃ (r12 : Int32) (μ11 : mz_M), C n_Mo_many [mz_R 16 p0, mz_I x4] μ9 (some (mz_I r12)) μ11 ∧
                          (if (r12 : Int32) = (0 : Int32) then
                            (Q (some (mz_I ((-1000011)))) μ11)
                          else
                            (∃ μ13, C n_Mo_takesOne [mz_R 16 p0, mz_I x3] μ11 none μ13 ∧
                              (∃ μ14, C n_Mo_takesTwo [mz_R 16 p0, mz_I x4] μ13 none μ14 ∧
                                (∃ (r16 : Int32) (μ15 : mz_M), C n_Mo_joins [mz_R 16 p0, mz_I x2] μ14 (some (mz_I r16)) μ15 ∧
                                  (if (0 : Int32) ≤ (r16 : Int32) then
                                    (∃ (r18 : Int32) (μ17 : mz_M), C n_Mo_keeps [mz_R 16 p0, mz_I x1] μ15 (some (mz_I r18)) μ17 ∧
                                      (Q (some (mz_I r18)) μ17))
                                  else
                                    (Q (some (mz_I r16)) μ15))))))))))))))))) :
  v_Mo_join C Q (0, [(0, mz_R 16 p0), (1, mz_I x1), (2, mz_I x2), (3, mz_I x3), (4, mz_I x4)], [], μ) := mz_Ev.run [] 400 h
/-! EtaSeriesModel.isChange(II)Z, number 120 -/
abbrev v_Mo_isChange (C : mz_Cl) (Q : Option mz_V → mz_M → Prop) : mz_S → Prop := mz_Ev es_SH tb_Mo_isChange C Q
set_option maxRecDepth 20000 in
set_option maxHeartbeats 4000000 in
theorem w_Mo_isChange_0 {C : mz_Cl} {Q : Option mz_V → mz_M → Prop} (x0 : Int32) (x1 : Int32) (μ : mz_M) (h :
    if (x0 : Int32) = nI 0 then
      (∃ (r2 : Int32) (μ1 : mz_M), C n_Mo_in [mz_L ((x1 : Int32).toInt64), mz_L 0, mz_L 9] μ (some (mz_I r2)) μ1 ∧
        (((r2 : Int32) = 0 ∨ (r2 : Int32) = 1) ∧ Q (some (mz_I r2)) μ1))
    else if (x0 : Int32) = nI 1 then
      (∃ (r4 : Int32) (μ3 : mz_M), C n_Mo_in [mz_L ((x1 : Int32).toInt64), mz_L 1, mz_L 8] μ (some (mz_I r4)) μ3 ∧
        (((r4 : Int32) = 0 ∨ (r4 : Int32) = 1) ∧ Q (some (mz_I r4)) μ3))
    else if (x0 : Int32) = nI 2 then
      (if (x1 : Int32) = (0 : Int32) then
        (((1 : Int32) = 0 ∨ (1 : Int32) = 1) ∧ Q (some (mz_I 1)) μ)
      else
        (((0 : Int32) = 0 ∨ (0 : Int32) = 1) ∧ Q (some (mz_I 0)) μ))
    else if (x0 : Int32) = nI 3 then
      (¬ (10 : Int32) = 0 ∧ (∃ (r6 : Int32) (μ5 : mz_M), C n_Mo_in [mz_L ((x1 / 10 : Int32).toInt64), mz_L 1, mz_L 8] μ (some (mz_I r6)) μ5 ∧
        (if (r6 : Int32) = (0 : Int32) then
          (((0 : Int32) = 0 ∨ (0 : Int32) = 1) ∧ Q (some (mz_I 0)) μ5)
        else
          (¬ (10 : Int32) = 0 ∧ (¬ (10 : Int32) = 0 ∧ (∃ (r8 : Int32) (μ7 : mz_M), C n_Mo_in [mz_L ((x1 - x1 / 10 * 10 : Int32).toInt64), mz_L 0, mz_L (((x1 / 10) - 1 : Int32).toInt64)] μ5 (some (mz_I r8)) μ7 ∧
            (if (r8 : Int32) = (0 : Int32) then
              (((0 : Int32) = 0 ∨ (0 : Int32) = 1) ∧ Q (some (mz_I 0)) μ7)
            else
              (((1 : Int32) = 0 ∨ (1 : Int32) = 1) ∧ Q (some (mz_I 1)) μ7))))))))
    else if (x0 : Int32) = nI 4 then
      (if (x1 : Int32) < (1 : Int32) then
        (((0 : Int32) = 0 ∨ (0 : Int32) = 1) ∧ Q (some (mz_I 0)) μ)
      else
        (((1 : Int32) = 0 ∨ (1 : Int32) = 1) ∧ Q (some (mz_I 1)) μ))
    else if (x0 : Int32) = nI 5 then
      (∃ (r10 : Int32) (μ9 : mz_M), C n_Mo_in [mz_L ((x1 : Int32).toInt64), mz_L 0, mz_L 8] μ (some (mz_I r10)) μ9 ∧
        (((r10 : Int32) = 0 ∨ (r10 : Int32) = 1) ∧ Q (some (mz_I r10)) μ9))
    else if (x0 : Int32) = nI 6 then
      (∃ (r12 : Int32) (μ11 : mz_M), C n_Mo_in [mz_L ((x1 : Int32).toInt64), mz_L ((-99)), mz_L 99] μ (some (mz_I r12)) μ11 ∧
        (((r12 : Int32) = 0 ∨ (r12 : Int32) = 1) ∧ Q (some (mz_I r12)) μ11))
    else (((0 : Int32) = 0 ∨ (0 : Int32) = 1) ∧ Q (some (mz_I 0)) μ)) :
  v_Mo_isChange C Q (0, [(0, mz_I x0), (1, mz_I x1)], [], μ) := mz_Ev.run [] 400 h
/-! EtaSeriesModel.changes(II)I, number 121 -/
abbrev v_Mo_changes (C : mz_Cl) (Q : Option mz_V → mz_M → Prop) : mz_S → Prop := mz_Ev es_SH tb_Mo_changes C Q
set_option maxRecDepth 20000 in
set_option maxHeartbeats 4000000 in
theorem w_Mo_changes_0 {C : mz_Cl} {Q : Option mz_V → mz_M → Prop} (p0 : Nat) (x1 : Int32) (x2 : Int32) (μ : mz_M) (h :
    if (x1 : Int32) = (4 : Int32) then
      (if (x1 : Int32) = (3 : Int32) then
        (¬ (10 : Int32) = 0 ∧ (v_Mo_changes C Q (32, [(0, mz_R 16 p0), (2, mz_I x2), (3, mz_I (x2 - x2 / 10 * 10))], [], mz_wI (mz_wI μ p0 6 x2) p0 6 0)))
      else
        (v_Mo_changes C Q (91, [(0, mz_R 16 p0), (1, mz_I x1), (2, mz_I x2), (3, mz_I 0)], [], mz_wI μ p0 6 x2)))
    else
      (if (x1 : Int32) = (3 : Int32) then
        (¬ (10 : Int32) = 0 ∧ (v_Mo_changes C Q (32, [(0, mz_R 16 p0), (2, mz_I x2), (3, mz_I (x2 - x2 / 10 * 10))], [], mz_wI (mz_wI μ p0 6 (μ.1 p0 2)) p0 6 0)))
      else
        (v_Mo_changes C Q (91, [(0, mz_R 16 p0), (1, mz_I x1), (2, mz_I x2), (3, mz_I 0)], [], mz_wI μ p0 6 (μ.1 p0 2))))) :
  v_Mo_changes C Q (0, [(0, mz_R 16 p0), (1, mz_I x1), (2, mz_I x2)], [], μ) := mz_Ev.run [32, 91] 400 h
set_option maxRecDepth 20000 in
set_option maxHeartbeats 4000000 in
theorem w_Mo_changes_32 {C : mz_Cl} {Q : Option mz_V → mz_M → Prop} (p0 : Nat) (x2 : Int32) (x3 : Int32) (μ : mz_M) (h :
    if (μ.1 p0 2 : Int32) ≤ (x3 : Int32) then
      (if (μ.1 p0 6 : Int32) = (0 : Int32) then
        (Q (some (mz_I ((-1000002)))) μ)
      else
        (Q (some (mz_I 0)) μ))
    else
      (vp_in x3 40 ∧ (vp_in (μ.1 p0 6) 40 ∧ (¬ (10 : Int32) = 0 ∧ (v_Mo_changes C Q (32, [(0, mz_R 16 p0), (2, mz_I x2), (3, mz_I (x3 + (x2 / 10)))], [], mz_wI (mz_wL μ 4 (μ.1 p0 6 : Int32).toNatClampNeg (μ.2 2 (x3 : Int32).toNatClampNeg)) p0 6 (((mz_wL μ 4 (μ.1 p0 6 : Int32).toNatClampNeg (μ.2 2 (x3 : Int32).toNatClampNeg)).1 p0 6) + 1))))))) :
  v_Mo_changes C Q (32, [(0, mz_R 16 p0), (2, mz_I x2), (3, mz_I x3)], [], μ) := mz_Ev.run [32, 91] 400 h
set_option maxRecDepth 20000 in
set_option maxHeartbeats 4000000 in
theorem w_Mo_changes_91 {C : mz_Cl} {Q : Option mz_V → mz_M → Prop} (p0 : Nat) (x1 : Int32) (x2 : Int32) (x3 : Int32) (μ : mz_M) (h :
    if (μ.1 p0 6 : Int32) ≤ (x3 : Int32) then
      (if (x1 : Int32) = (5 : Int32) then
        (∃ (r2 : Int32) (μ1 : mz_M), C n_Mo_powers [mz_R 16 p0, mz_I x2] μ (some (mz_I r2)) μ1 ∧
          (Q (some (mz_I r2)) μ1))
      else
        (∃ (r4 : Int32) (μ3 : mz_M), C n_Mo_wide [mz_R 16 p0] μ (some (mz_I r4)) μ3 ∧
          (Q (some (mz_I r4)) μ3)))
    else
      (if (x1 : Int32) = nI 0 then
        (if (x2 : Int32) ≤ (x3 : Int32) then
          (vp_in (x3 - x2) 40 ∧ (vp_in x3 40 ∧ (v_Mo_changes C Q (91, [(0, mz_R 16 p0), (1, mz_I x1), (2, mz_I x2), (3, mz_I (x3 + 1))], [], mz_wL μ 4 (x3 : Int32).toNatClampNeg (μ.2 2 (x3 - x2 : Int32).toNatClampNeg)))))
        else
          (vp_in x3 40 ∧ (v_Mo_changes C Q (91, [(0, mz_R 16 p0), (1, mz_I x1), (2, mz_I x2), (3, mz_I (x3 + 1))], [], mz_wL μ 4 (x3 : Int32).toNatClampNeg 0))))
      else if (x1 : Int32) = nI 1 then
        (¬ (x2 : Int32) = 0 ∧ (if (x3 - x3 / x2 * x2 : Int32) = (0 : Int32) then
          (¬ (x2 : Int32) = 0 ∧ (vp_in (x3 / x2) 40 ∧ (vp_in x3 40 ∧ (v_Mo_changes C Q (91, [(0, mz_R 16 p0), (1, mz_I x1), (2, mz_I x2), (3, mz_I (x3 + 1))], [], mz_wL μ 4 (x3 : Int32).toNatClampNeg (μ.2 2 (x3 / x2 : Int32).toNatClampNeg))))))
        else
          (vp_in x3 40 ∧ (v_Mo_changes C Q (91, [(0, mz_R 16 p0), (1, mz_I x1), (2, mz_I x2), (3, mz_I (x3 + 1))], [], mz_wL μ 4 (x3 : Int32).toNatClampNeg 0)))))
      else if (x1 : Int32) = nI 2 then
        (¬ (2 : Int32) = 0 ∧ (if (x3 - x3 / 2 * 2 : Int32) = (0 : Int32) then
          (vp_in x3 40 ∧ (vp_in x3 40 ∧ (v_Mo_changes C Q (91, [(0, mz_R 16 p0), (1, mz_I x1), (2, mz_I x2), (3, mz_I (x3 + 1))], [], mz_wL μ 4 (x3 : Int32).toNatClampNeg (μ.2 2 (x3 : Int32).toNatClampNeg)))))
        else
          (vp_in x3 40 ∧ (vp_in x3 40 ∧ (v_Mo_changes C Q (91, [(0, mz_R 16 p0), (1, mz_I x1), (2, mz_I x2), (3, mz_I (x3 + 1))], [], mz_wL μ 4 (x3 : Int32).toNatClampNeg (-(μ.2 2 (x3 : Int32).toNatClampNeg))))))))
      else if (x1 : Int32) = nI 3 then
        (vp_in x3 40 ∧ (vp_in x3 40 ∧ (v_Mo_changes C Q (91, [(0, mz_R 16 p0), (1, mz_I x1), (2, mz_I x2), (3, mz_I (x3 + 1))], [], mz_wL μ 4 (x3 : Int32).toNatClampNeg (μ.2 2 (x3 : Int32).toNatClampNeg)))))
      else if (x1 : Int32) = nI 4 then
        (vp_in x3 40 ∧ (vp_in x3 40 ∧ (v_Mo_changes C Q (91, [(0, mz_R 16 p0), (1, mz_I x1), (2, mz_I x2), (3, mz_I (x3 + 1))], [], mz_wL μ 4 (x3 : Int32).toNatClampNeg (μ.2 2 (x3 : Int32).toNatClampNeg)))))
      else if (x1 : Int32) = nI 5 then
        (vp_in x3 40 ∧ (vp_in x3 40 ∧ (v_Mo_changes C Q (91, [(0, mz_R 16 p0), (1, mz_I x1), (2, mz_I x2), (3, mz_I (x3 + 1))], [], mz_wL μ 4 (x3 : Int32).toNatClampNeg (μ.2 2 (x3 : Int32).toNatClampNeg)))))
      else if (x1 : Int32) = nI 6 then
        (vp_in x3 40 ∧ (vp_in x3 40 ∧ (v_Mo_changes C Q (91, [(0, mz_R 16 p0), (1, mz_I x1), (2, mz_I x2), (3, mz_I (x3 + 1))], [], mz_wL μ 4 (x3 : Int32).toNatClampNeg ((μ.2 2 (x3 : Int32).toNatClampNeg) * ((x2 : Int32).toInt64))))))
      else (vp_in x3 40 ∧ (vp_in x3 40 ∧ (v_Mo_changes C Q (91, [(0, mz_R 16 p0), (1, mz_I x1), (2, mz_I x2), (3, mz_I (x3 + 1))], [], mz_wL μ 4 (x3 : Int32).toNatClampNeg (μ.2 2 (x3 : Int32).toNatClampNeg))))))) :
  v_Mo_changes C Q (91, [(0, mz_R 16 p0), (1, mz_I x1), (2, mz_I x2), (3, mz_I x3)], [], μ) := mz_Ev.run [32, 91] 400 h
/-! EtaSeriesModel.change(III)I, number 122 -/
abbrev v_Mo_change (C : mz_Cl) (Q : Option mz_V → mz_M → Prop) : mz_S → Prop := mz_Ev es_SH tb_Mo_change C Q
set_option maxRecDepth 20000 in
set_option maxHeartbeats 4000000 in
theorem w_Mo_change_0 {C : mz_Cl} {Q : Option mz_V → mz_M → Prop} (p0 : Nat) (x1 : Int32) (x2 : Int32) (x3 : Int32) (μ : mz_M) (h :
    ∃ (r2 : Int32) (μ1 : mz_M), C n_Mo_isSeries [mz_I x1] μ (some (mz_I r2)) μ1 ∧
      (if (r2 : Int32) = (0 : Int32) then
        (Q (some (mz_I ((-1000001)))) μ1)
      else
        (∃ (r4 : Int32) (μ3 : mz_M), C n_Mo_isChange [mz_I x2, mz_I x3] μ1 (some (mz_I r4)) μ3 ∧
          (if (r4 : Int32) = (0 : Int32) then
            (Q (some (mz_I ((-1000001)))) μ3)
          else
            (∃ (r6 : Int32) (μ5 : mz_M), C n_Mo_many [mz_R 16 p0, mz_I x1] μ3 (some (mz_I r6)) μ5 ∧
              (if (r6 : Int32) = (0 : Int32) then
                (Q (some (mz_I ((-1000011)))) μ5)
              else
                (if (x2 : Int32) = (4 : Int32) then
                  (∃ (r8 : Int32) (μ7 : mz_M), C n_Mo_many [mz_R 16 p0, mz_I x1] μ5 (some (mz_I r8)) μ7 ∧
                    (if (x3 : Int32) ≤ (r8 : Int32) then
                      (∃ μ9, C n_Mo_takesOne [mz_R 16 p0, mz_I x1] μ7 none μ9 ∧
                        (∃ (r11 : Int32) (μ10 : mz_M), C n_Mo_changes [mz_R 16 p0, mz_I x2, mz_I x3] μ9 (some (mz_I r11)) μ10 ∧
                          (if (0 : Int32) ≤ (r11 : Int32) then
                            (∃ (r13 : Int32) (μ12 : mz_M), C n_Mo_keeps [mz_R 16 p0, mz_I x1] μ10 (some (mz_I r13)) μ12 ∧
                              (Q (some (mz_I r13)) μ12))
                          else
                            (Q (some (mz_I r11)) μ10))))
                    else
                      (Q (some (mz_I ((-1000001)))) μ7)))
                else
                  (∃ μ14, C n_Mo_takesOne [mz_R 16 p0, mz_I x1] μ5 none μ14 ∧
                    (∃ (r16 : Int32) (μ15 : mz_M), C n_Mo_changes [mz_R 16 p0, mz_I x2, mz_I x3] μ14 (some (mz_I r16)) μ15 ∧
                      (if (0 : Int32) ≤ (r16 : Int32) then
                        (∃ (r18 : Int32) (μ17 : mz_M), C n_Mo_keeps [mz_R 16 p0, mz_I x1] μ15 (some (mz_I r18)) μ17 ∧
                          (Q (some (mz_I r18)) μ17))
                      else
                        (Q (some (mz_I r16)) μ15))))))))))) :
  v_Mo_change C Q (0, [(0, mz_R 16 p0), (1, mz_I x1), (2, mz_I x2), (3, mz_I x3)], [], μ) := mz_Ev.run [] 400 h
/-! EtaSeriesModel.out(I)I, number 123 -/
abbrev v_Mo_out (C : mz_Cl) (Q : Option mz_V → mz_M → Prop) : mz_S → Prop := mz_Ev es_SH tb_Mo_out C Q
set_option maxRecDepth 20000 in
set_option maxHeartbeats 4000000 in
theorem w_Mo_out_0 {C : mz_Cl} {Q : Option mz_V → mz_M → Prop} (p0 : Nat) (x1 : Int32) (μ : mz_M) (h :
    ∃ (r2 : Int32) (μ1 : mz_M), C n_Mo_isSeries [mz_I x1] μ (some (mz_I r2)) μ1 ∧
      (if (r2 : Int32) = (0 : Int32) then
        (Q (some (mz_I ((-1000001)))) μ1)
      else
        (∃ (r4 : Int32) (μ3 : mz_M), C n_Mo_many [mz_R 16 p0, mz_I x1] μ1 (some (mz_I r4)) μ3 ∧
          (if (r4 : Int32) = (0 : Int32) then
            (Q (some (mz_I ((-1000011)))) μ3)
          else
            (∃ (r6 : Int32) (μ5 : mz_M), C n_Mo_keeps [mz_R 16 p0, mz_I x1] (mz_wI μ3 p0 6 0) (some (mz_I r6)) μ5 ∧
              (Q (some (mz_I r4)) μ5)))))) :
  v_Mo_out C Q (0, [(0, mz_R 16 p0), (1, mz_I x1)], [], μ) := mz_Ev.run [] 400 h
/-! EtaSeriesModel.length(I)I, number 124 -/
abbrev v_Mo_length (C : mz_Cl) (Q : Option mz_V → mz_M → Prop) : mz_S → Prop := mz_Ev es_SH tb_Mo_length C Q
set_option maxRecDepth 20000 in
set_option maxHeartbeats 4000000 in
theorem w_Mo_length_0 {C : mz_Cl} {Q : Option mz_V → mz_M → Prop} (p0 : Nat) (x1 : Int32) (μ : mz_M) (h :
    ∃ (r2 : Int32) (μ1 : mz_M), C n_Mo_in [mz_L ((x1 : Int32).toInt64), mz_L 4, mz_L 40] μ (some (mz_I r2)) μ1 ∧
      (if (r2 : Int32) = (0 : Int32) then
        (Q (some (mz_I ((-1000001)))) μ1)
      else
        (vp_in 0 166 ∧ (if (μ1.1 1 (0 : Int32).toNatClampNeg : Int32) = (x1 : Int32) then
          (Q (some (mz_I ((-1000002)))) μ1)
        else
          (∃ μ3, C n_Mo_notes [mz_R 16 p0] μ1 none μ3 ∧
            (vp_in 0 166 ∧ (Q (some (mz_I (μ1.1 1 (0 : Int32).toNatClampNeg))) (mz_wI μ3 1 (0 : Int32).toNatClampNeg x1)))))))) :
  v_Mo_length C Q (0, [(0, mz_R 16 p0), (1, mz_I x1)], [], μ) := mz_Ev.run [] 400 h
/-! EtaSeriesModel.there()I, number 125 -/
abbrev v_Mo_there (C : mz_Cl) (Q : Option mz_V → mz_M → Prop) : mz_S → Prop := mz_Ev es_SH tb_Mo_there C Q
set_option maxRecDepth 20000 in
set_option maxHeartbeats 4000000 in
theorem w_Mo_there_0 {C : mz_Cl} {Q : Option mz_V → mz_M → Prop} (p0 : Nat) (μ : mz_M) (h :
    v_Mo_there C Q (4, [(0, mz_R 16 p0), (1, mz_I 0), (2, mz_I 0)], [], μ)) :
  v_Mo_there C Q (0, [(0, mz_R 16 p0)], [], μ) := mz_Ev.run [4] 400 h
set_option maxRecDepth 20000 in
set_option maxHeartbeats 4000000 in
theorem w_Mo_there_4 {C : mz_Cl} {Q : Option mz_V → mz_M → Prop} (p0 : Nat) (x1 : Int32) (x2 : Int32) (μ : mz_M) (h :
    if (4 : Int32) ≤ (x2 : Int32) then
      (Q (some (mz_I x1)) μ)
    else
      (∃ (r2 : Int32) (μ1 : mz_M), C n_Mo_many [mz_R 16 p0, mz_I x2] μ (some (mz_I r2)) μ1 ∧
        (if (r2 : Int32) ≤ (0 : Int32) then
          (v_Mo_there C Q (4, [(0, mz_R 16 p0), (1, mz_I (x1 ||| 0)), (2, mz_I (x2 + 1))], [], μ1))
        else
          (v_Mo_there C Q (4, [(0, mz_R 16 p0), (1, mz_I (x1 ||| (1 <<< (x2 &&& 31)))), (2, mz_I (x2 + 1))], [], μ1))))) :
  v_Mo_there C Q (4, [(0, mz_R 16 p0), (1, mz_I x1), (2, mz_I x2)], [], μ) := mz_Ev.run [4] 400 h
/-! EtaSeriesModel.drift(I)I, number 126 -/
abbrev v_Mo_drift (C : mz_Cl) (Q : Option mz_V → mz_M → Prop) : mz_S → Prop := mz_Ev es_SH tb_Mo_drift C Q
set_option maxRecDepth 20000 in
set_option maxHeartbeats 4000000 in
theorem w_Mo_drift_0 {C : mz_Cl} {Q : Option mz_V → mz_M → Prop} (p0 : Nat) (x1 : Int32) (μ : mz_M) (h :
    ∃ (r2 : Int32) (μ1 : mz_M), C n_Mo_in [mz_L ((x1 : Int32).toInt64), mz_L 1, mz_L 40] μ (some (mz_I r2)) μ1 ∧
      (if (r2 : Int32) = (0 : Int32) then
        (Q (some (mz_I ((-1000001)))) μ1)
      else
        (v_Mo_drift C Q (17, [(0, mz_R 16 p0), (1, mz_I x1), (2, mz_I 0)], [], μ1)))) :
  v_Mo_drift C Q (0, [(0, mz_R 16 p0), (1, mz_I x1)], [], μ) := mz_Ev.run [17] 400 h
set_option maxRecDepth 20000 in
set_option maxHeartbeats 4000000 in
theorem w_Mo_drift_17 {C : mz_Cl} {Q : Option mz_V → mz_M → Prop} (p0 : Nat) (x1 : Int32) (x2 : Int32) (μ : mz_M) (h :
    if (x1 : Int32) ≤ (x2 : Int32) then
      (∃ (r2 : Int32) (μ1 : mz_M), C n_Mo_there [mz_R 16 p0] μ (some (mz_I r2)) μ1 ∧
        (Q (some (mz_I r2)) μ1))
    else
      (vp_in 1 166 ∧ (¬ (2147483648 : Int64) = 0 ∧ (¬ (65536 : Int64) = 0 ∧ (¬ (4 : Int32) = 0 ∧ (¬ (3 : Int32) = 0 ∧ (¬ (16 : Int32) = 0 ∧ (¬ (9 : Int32) = 0 ∧ (vp_in 0 166 ∧ (∃ μ3, C n_Mo_makes [mz_R 16 p0, mz_I (1 + (((((((((μ.1 1 (1 : Int32).toNatClampNeg : Int32).toInt64) * 1103515245) + 12345) - ((((μ.1 1 (1 : Int32).toNatClampNeg : Int32).toInt64) * 1103515245) + 12345) / 2147483648 * 2147483648) / 65536 : Int64).toInt32) / 4) - ((((((((μ.1 1 (1 : Int32).toNatClampNeg : Int32).toInt64) * 1103515245) + 12345) - ((((μ.1 1 (1 : Int32).toNatClampNeg : Int32).toInt64) * 1103515245) + 12345) / 2147483648 * 2147483648) / 65536 : Int64).toInt32) / 4) / 3 * 3)), mz_I (1 + (((((((((μ.1 1 (1 : Int32).toNatClampNeg : Int32).toInt64) * 1103515245) + 12345) - ((((μ.1 1 (1 : Int32).toNatClampNeg : Int32).toInt64) * 1103515245) + 12345) / 2147483648 * 2147483648) / 65536 : Int64).toInt32) / 16) - ((((((((μ.1 1 (1 : Int32).toNatClampNeg : Int32).toInt64) * 1103515245) + 12345) - ((((μ.1 1 (1 : Int32).toNatClampNeg : Int32).toInt64) * 1103515245) + 12345) / 2147483648 * 2147483648) / 65536 : Int64).toInt32) / 16) / 9 * 9)), mz_I (μ.1 1 (0 : Int32).toNatClampNeg)] μ none μ3 ∧
        (¬ (4 : Int32) = 0 ∧ (∃ (r5 : Int32) (μ4 : mz_M), C n_Mo_keeps [mz_R 16 p0, mz_I ((((((((μ.1 1 (1 : Int32).toNatClampNeg : Int32).toInt64) * 1103515245) + 12345) - ((((μ.1 1 (1 : Int32).toNatClampNeg : Int32).toInt64) * 1103515245) + 12345) / 2147483648 * 2147483648) / 65536 : Int64).toInt32) - (((((((μ.1 1 (1 : Int32).toNatClampNeg : Int32).toInt64) * 1103515245) + 12345) - ((((μ.1 1 (1 : Int32).toNatClampNeg : Int32).toInt64) * 1103515245) + 12345) / 2147483648 * 2147483648) / 65536 : Int64).toInt32) / 4 * 4)] μ3 (some (mz_I r5)) μ4 ∧
          (vp_in 1 166 ∧ (v_Mo_drift C Q (17, [(0, mz_R 16 p0), (1, mz_I x1), (2, mz_I (x2 + 1))], [], mz_wI μ4 1 (1 : Int32).toNatClampNeg ((((((μ.1 1 (1 : Int32).toNatClampNeg : Int32).toInt64) * 1103515245) + 12345) - ((((μ.1 1 (1 : Int32).toNatClampNeg : Int32).toInt64) * 1103515245) + 12345) / 2147483648 * 2147483648 : Int64).toInt32)))))))))))))))) :
  v_Mo_drift C Q (17, [(0, mz_R 16 p0), (1, mz_I x1), (2, mz_I x2)], [], μ) := mz_Ev.run [17] 400 h
/-! EtaSeriesModel.notes()V, number 127 -/
abbrev v_Mo_notes (C : mz_Cl) (Q : Option mz_V → mz_M → Prop) : mz_S → Prop := mz_Ev es_SH tb_Mo_notes C Q
set_option maxRecDepth 20000 in
set_option maxHeartbeats 4000000 in
theorem w_Mo_notes_0 {C : mz_Cl} {Q : Option mz_V → mz_M → Prop} (p0 : Nat) (μ : mz_M) (h :
    if (μ.1 p0 8 : Int32) = (6 : Int32) then
      (v_Mo_notes C Q (13, [(0, mz_R 16 p0), (1, mz_I 166)], [], μ))
    else
      (v_Mo_notes C Q (49, [(0, mz_R 16 p0), (1, mz_I 0)], [], μ))) :
  v_Mo_notes C Q (0, [(0, mz_R 16 p0)], [], μ) := mz_Ev.run [13, 49] 400 h
set_option maxRecDepth 20000 in
set_option maxHeartbeats 4000000 in
theorem w_Mo_notes_13 {C : mz_Cl} {Q : Option mz_V → mz_M → Prop} (p0 : Nat) (x1 : Int32) (μ : mz_M) (h :
    if (996 : Int32) ≤ (x1 : Int32) then
      (v_Mo_notes C Q (49, [(0, mz_R 16 p0), (1, mz_I 0)], [], mz_wI μ p0 8 5))
    else
      (vp_in x1 996 ∧ (vp_in (x1 - 166) 996 ∧ (v_Mo_notes C Q (13, [(0, mz_R 16 p0), (1, mz_I (x1 + 1))], [], mz_wI μ 5 (x1 - 166 : Int32).toNatClampNeg (μ.1 5 (x1 : Int32).toNatClampNeg)))))) :
  v_Mo_notes C Q (13, [(0, mz_R 16 p0), (1, mz_I x1)], [], μ) := mz_Ev.run [13, 49] 400 h
set_option maxRecDepth 20000 in
set_option maxHeartbeats 4000000 in
theorem w_Mo_notes_49 {C : mz_Cl} {Q : Option mz_V → mz_M → Prop} (p0 : Nat) (x1 : Int32) (μ : mz_M) (h :
    if (166 : Int32) ≤ (x1 : Int32) then
      (Q none (mz_wI μ p0 8 ((μ.1 p0 8) + 1)))
    else
      (vp_in x1 166 ∧ (vp_in ((166 * (μ.1 p0 8)) + x1) 996 ∧ (v_Mo_notes C Q (49, [(0, mz_R 16 p0), (1, mz_I (x1 + 1))], [], mz_wI μ 5 ((166 * (μ.1 p0 8)) + x1 : Int32).toNatClampNeg (μ.1 1 (x1 : Int32).toNatClampNeg)))))) :
  v_Mo_notes C Q (49, [(0, mz_R 16 p0), (1, mz_I x1)], [], μ) := mz_Ev.run [13, 49] 400 h
/-! EtaSeriesModel.undo()I, number 128 -/
abbrev v_Mo_undo (C : mz_Cl) (Q : Option mz_V → mz_M → Prop) : mz_S → Prop := mz_Ev es_SH tb_Mo_undo C Q
set_option maxRecDepth 20000 in
set_option maxHeartbeats 4000000 in
theorem w_Mo_undo_0 {C : mz_Cl} {Q : Option mz_V → mz_M → Prop} (p0 : Nat) (μ : mz_M) (h :
    if (μ.1 p0 8 : Int32) = (0 : Int32) then
      (Q (some (mz_I ((-1000004)))) μ)
    else
      (v_Mo_undo C Q (22, [(0, mz_R 16 p0), (1, mz_I 0)], [], mz_wI μ p0 8 ((μ.1 p0 8) - 1)))) :
  v_Mo_undo C Q (0, [(0, mz_R 16 p0)], [], μ) := mz_Ev.run [22] 400 h
set_option maxRecDepth 20000 in
set_option maxHeartbeats 4000000 in
theorem w_Mo_undo_22 {C : mz_Cl} {Q : Option mz_V → mz_M → Prop} (p0 : Nat) (x1 : Int32) (μ : mz_M) (h :
    if (166 : Int32) ≤ (x1 : Int32) then
      (Q (some (mz_I (μ.1 p0 8))) μ)
    else
      (vp_in ((166 * (μ.1 p0 8)) + x1) 996 ∧ (vp_in x1 166 ∧ (v_Mo_undo C Q (22, [(0, mz_R 16 p0), (1, mz_I (x1 + 1))], [], mz_wI μ 1 (x1 : Int32).toNatClampNeg (μ.1 5 ((166 * (μ.1 p0 8)) + x1 : Int32).toNatClampNeg)))))) :
  v_Mo_undo C Q (22, [(0, mz_R 16 p0), (1, mz_I x1)], [], μ) := mz_Ev.run [22] 400 h
/-! EtaSeriesModel.seed(I)I, number 129 -/
abbrev v_Mo_seed (C : mz_Cl) (Q : Option mz_V → mz_M → Prop) : mz_S → Prop := mz_Ev es_SH tb_Mo_seed C Q
set_option maxRecDepth 20000 in
set_option maxHeartbeats 4000000 in
theorem w_Mo_seed_0 {C : mz_Cl} {Q : Option mz_V → mz_M → Prop} (p0 : Nat) (x1 : Int32) (μ : mz_M) (h :
    if (0 : Int32) ≤ (x1 : Int32) then
      (vp_in 1 166 ∧ (vp_in 1 166 ∧ (Q (some (mz_I (μ.1 1 (1 : Int32).toNatClampNeg))) (mz_wI μ 1 (1 : Int32).toNatClampNeg x1))))
    else
      (Q (some (mz_I ((-1000001)))) μ)) :
  v_Mo_seed C Q (0, [(0, mz_R 16 p0), (1, mz_I x1)], [], μ) := mz_Ev.run [] 400 h
/-! EtaSeriesModel.term(II)I, number 130 -/
abbrev v_Mo_term (C : mz_Cl) (Q : Option mz_V → mz_M → Prop) : mz_S → Prop := mz_Ev es_SH tb_Mo_term C Q
set_option maxRecDepth 20000 in
set_option maxHeartbeats 4000000 in
theorem w_Mo_term_0 {C : mz_Cl} {Q : Option mz_V → mz_M → Prop} (p0 : Nat) (x1 : Int32) (x2 : Int32) (μ : mz_M) (h :
    ∃ (r2 : Int32) (μ1 : mz_M), C n_Mo_isSeries [mz_I x1] μ (some (mz_I r2)) μ1 ∧
      (if (r2 : Int32) = (0 : Int32) then
        (Q (some (mz_I ((-1000001)))) μ1)
      else
        (if (0 : Int32) ≤ (x2 : Int32) then
          (∃ (r4 : Int32) (μ3 : mz_M), C n_Mo_many [mz_R 16 p0, mz_I x1] μ1 (some (mz_I r4)) μ3 ∧
            (if (r4 : Int32) = (0 : Int32) then
              (Q (some (mz_I ((-1000011)))) μ3)
            else
              (∃ (r6 : Int32) (μ5 : mz_M), C n_Mo_many [mz_R 16 p0, mz_I x1] μ3 (some (mz_I r6)) μ5 ∧
                (if (r6 : Int32) ≤ (x2 : Int32) then
                  (Q (some (mz_I ((-1000001)))) μ5)
                else
                  (∃ (r8 : Int32) (μ7 : mz_M), C n_Mo_termOf [mz_R 16 p0, mz_I x1, mz_I x2] μ5 (some (mz_I r8)) μ7 ∧
                    (Q (some (mz_I r8)) μ7))))))
        else
          (Q (some (mz_I ((-1000001)))) μ1)))) :
  v_Mo_term C Q (0, [(0, mz_R 16 p0), (1, mz_I x1), (2, mz_I x2)], [], μ) := mz_Ev.run [] 400 h
/-! EtaSeriesModel.count(I)I, number 131 -/
abbrev v_Mo_count (C : mz_Cl) (Q : Option mz_V → mz_M → Prop) : mz_S → Prop := mz_Ev es_SH tb_Mo_count C Q
set_option maxRecDepth 20000 in
set_option maxHeartbeats 4000000 in
theorem w_Mo_count_0 {C : mz_Cl} {Q : Option mz_V → mz_M → Prop} (p0 : Nat) (x1 : Int32) (μ : mz_M) (h :
    if (x1 : Int32) = nI 0 then
      (vp_in 0 166 ∧ (Q (some (mz_I (μ.1 1 (0 : Int32).toNatClampNeg))) μ))
    else if (x1 : Int32) = nI 1 then
      (∃ (r2 : Int32) (μ1 : mz_M), C n_Mo_there [mz_R 16 p0] μ (some (mz_I r2)) μ1 ∧
        (Q (some (mz_I r2)) μ1))
    else if (x1 : Int32) = nI 2 then
      (∃ (r4 : Int32) (μ3 : mz_M), C n_Mo_many [mz_R 16 p0, mz_I (x1 - 2)] μ (some (mz_I r4)) μ3 ∧
        (Q (some (mz_I r4)) μ3))
    else if (x1 : Int32) = nI 3 then
      (∃ (r6 : Int32) (μ5 : mz_M), C n_Mo_many [mz_R 16 p0, mz_I (x1 - 2)] μ (some (mz_I r6)) μ5 ∧
        (Q (some (mz_I r6)) μ5))
    else if (x1 : Int32) = nI 4 then
      (∃ (r8 : Int32) (μ7 : mz_M), C n_Mo_many [mz_R 16 p0, mz_I (x1 - 2)] μ (some (mz_I r8)) μ7 ∧
        (Q (some (mz_I r8)) μ7))
    else if (x1 : Int32) = nI 5 then
      (∃ (r10 : Int32) (μ9 : mz_M), C n_Mo_many [mz_R 16 p0, mz_I (x1 - 2)] μ (some (mz_I r10)) μ9 ∧
        (Q (some (mz_I r10)) μ9))
    else if (x1 : Int32) = nI 6 then
      (Q (some (mz_I (μ.1 p0 12))) μ)
    else if (x1 : Int32) = nI 7 then
      (Q (some (mz_I (μ.1 p0 13))) μ)
    else if (x1 : Int32) = nI 8 then
      (Q (some (mz_I (μ.1 p0 8))) μ)
    else (Q (some (mz_I ((-1000001)))) μ)) :
  v_Mo_count C Q (0, [(0, mz_R 16 p0), (1, mz_I x1)], [], μ) := mz_Ev.run [] 400 h
/-! EtaSeriesModel.type(I)I, number 132 -/
abbrev v_Mo_type (C : mz_Cl) (Q : Option mz_V → mz_M → Prop) : mz_S → Prop := mz_Ev es_SH tb_Mo_type C Q
set_option maxRecDepth 20000 in
set_option maxHeartbeats 4000000 in
theorem w_Mo_type_0 {C : mz_Cl} {Q : Option mz_V → mz_M → Prop} (p0 : Nat) (x1 : Int32) (μ : mz_M) (h :
    ∃ (r2 : Int32) (μ1 : mz_M), C n_Mo_in [mz_L ((x1 : Int32).toInt64), mz_L 32, mz_L 126] μ (some (mz_I r2)) μ1 ∧
      (if (r2 : Int32) = (0 : Int32) then
        (Q (some (mz_I ((-1000001)))) μ1)
      else
        (if (μ1.1 p0 10 : Int32) = (60 : Int32) then
          (Q (some (mz_I ((-1000003)))) μ1)
        else
          (vp_in (μ1.1 p0 10) 60 ∧ (Q (some (mz_I ((mz_wI (mz_wI μ1 6 (μ1.1 p0 10 : Int32).toNatClampNeg x1) p0 10 (((mz_wI μ1 6 (μ1.1 p0 10 : Int32).toNatClampNeg x1).1 p0 10) + 1)).1 p0 10))) (mz_wI (mz_wI μ1 6 (μ1.1 p0 10 : Int32).toNatClampNeg x1) p0 10 (((mz_wI μ1 6 (μ1.1 p0 10 : Int32).toNatClampNeg x1).1 p0 10) + 1))))))) :
  v_Mo_type C Q (0, [(0, mz_R 16 p0), (1, mz_I x1)], [], μ) := mz_Ev.run [] 400 h
/-! EtaSeriesModel.here()I, number 133 -/
abbrev v_Mo_here (C : mz_Cl) (Q : Option mz_V → mz_M → Prop) : mz_S → Prop := mz_Ev es_SH tb_Mo_here C Q
set_option maxRecDepth 20000 in
set_option maxHeartbeats 4000000 in
theorem w_Mo_here_0 {C : mz_Cl} {Q : Option mz_V → mz_M → Prop} (p0 : Nat) (μ : mz_M) (h :
    if (μ.1 p0 10 : Int32) ≤ (μ.1 p0 11 : Int32) then
      (if (μ.1 p0 10 : Int32) ≤ (μ.1 p0 11 : Int32) then
        (Q (some (mz_I 0)) μ)
      else
        (vp_in (μ.1 p0 11) 60 ∧ (Q (some (mz_I (μ.1 6 (μ.1 p0 11 : Int32).toNatClampNeg))) μ)))
    else
      (vp_in (μ.1 p0 11) 60 ∧ (if (μ.1 6 (μ.1 p0 11 : Int32).toNatClampNeg : Int32) = (32 : Int32) then
        (v_Mo_here C Q (0, [(0, mz_R 16 p0)], [], mz_wI μ p0 11 ((μ.1 p0 11) + 1)))
      else
        (if (μ.1 p0 10 : Int32) ≤ (μ.1 p0 11 : Int32) then
          (Q (some (mz_I 0)) μ)
        else
          (vp_in (μ.1 p0 11) 60 ∧ (Q (some (mz_I (μ.1 6 (μ.1 p0 11 : Int32).toNatClampNeg))) μ)))))) :
  v_Mo_here C Q (0, [(0, mz_R 16 p0)], [], μ) := mz_Ev.run [0] 400 h
/-! EtaSeriesModel.has(I)Z, number 134 -/
abbrev v_Mo_has (C : mz_Cl) (Q : Option mz_V → mz_M → Prop) : mz_S → Prop := mz_Ev es_SH tb_Mo_has C Q
set_option maxRecDepth 20000 in
set_option maxHeartbeats 4000000 in
theorem w_Mo_has_0 {C : mz_Cl} {Q : Option mz_V → mz_M → Prop} (p0 : Nat) (x1 : Int32) (μ : mz_M) (h :
    ∃ (r2 : Int32) (μ1 : mz_M), C n_Mo_here [mz_R 16 p0] μ (some (mz_I r2)) μ1 ∧
      (if (r2 : Int32) = (x1 : Int32) then
        (((1 : Int32) = 0 ∨ (1 : Int32) = 1) ∧ Q (some (mz_I 1)) (mz_wI μ1 p0 11 ((μ1.1 p0 11) + 1)))
      else
        (((0 : Int32) = 0 ∨ (0 : Int32) = 1) ∧ Q (some (mz_I 0)) μ1))) :
  v_Mo_has C Q (0, [(0, mz_R 16 p0), (1, mz_I x1)], [], μ) := mz_Ev.run [] 400 h
/-! EtaSeriesModel.number()I, number 135 -/
abbrev v_Mo_number (C : mz_Cl) (Q : Option mz_V → mz_M → Prop) : mz_S → Prop := mz_Ev es_SH tb_Mo_number C Q
set_option maxRecDepth 20000 in
set_option maxHeartbeats 4000000 in
theorem w_Mo_number_0 {C : mz_Cl} {Q : Option mz_V → mz_M → Prop} (p0 : Nat) (μ : mz_M) (h :
    ∃ (r2 : Int32) (μ1 : mz_M), C n_Mo_here [mz_R 16 p0] μ (some (mz_I r2)) μ1 ∧
      (∃ (r4 : Int32) (μ3 : mz_M), C n_Mo_in [mz_L ((r2 : Int32).toInt64), mz_L 48, mz_L 57] μ1 (some (mz_I r4)) μ3 ∧
        (if (r4 : Int32) = (0 : Int32) then
          (Q (some (mz_I ((-1)))) μ3)
        else
          (vp_in (μ3.1 p0 11) 60 ∧ (if ((mz_wI μ3 p0 11 ((μ3.1 p0 11) + 1)).1 p0 10 : Int32) ≤ ((mz_wI μ3 p0 11 ((μ3.1 p0 11) + 1)).1 p0 11 : Int32) then
            (Q (some (mz_I ((μ3.1 6 (μ3.1 p0 11 : Int32).toNatClampNeg) - 48))) (mz_wI μ3 p0 11 ((μ3.1 p0 11) + 1)))
          else
            (vp_in ((mz_wI μ3 p0 11 ((μ3.1 p0 11) + 1)).1 p0 11) 60 ∧ (∃ (r6 : Int32) (μ5 : mz_M), C n_Mo_in [mz_L (((mz_wI μ3 p0 11 ((μ3.1 p0 11) + 1)).1 6 ((mz_wI μ3 p0 11 ((μ3.1 p0 11) + 1)).1 p0 11 : Int32).toNatClampNeg : Int32).toInt64), mz_L 48, mz_L 57] (mz_wI μ3 p0 11 ((μ3.1 p0 11) + 1)) (some (mz_I r6)) μ5 ∧
              (if (r6 : Int32) = (0 : Int32) then
                (Q (some (mz_I ((μ3.1 6 (μ3.1 p0 11 : Int32).toNatClampNeg) - 48))) μ5)
              else
                (vp_in (μ5.1 p0 11) 60 ∧ (Q (some (mz_I (((10 * ((μ3.1 6 (μ3.1 p0 11 : Int32).toNatClampNeg) - 48)) + (μ5.1 6 (μ5.1 p0 11 : Int32).toNatClampNeg)) - 48))) (mz_wI μ5 p0 11 ((μ5.1 p0 11) + 1)))))))))))) :
  v_Mo_number C Q (0, [(0, mz_R 16 p0)], [], μ) := mz_Ev.run [] 400 h
/-! EtaSeriesModel.kindOf(I)I, number 136 -/
abbrev v_Mo_kindOf (C : mz_Cl) (Q : Option mz_V → mz_M → Prop) : mz_S → Prop := mz_Ev es_SH tb_Mo_kindOf C Q
set_option maxRecDepth 20000 in
set_option maxHeartbeats 4000000 in
theorem w_Mo_kindOf_0 {C : mz_Cl} {Q : Option mz_V → mz_M → Prop} (x0 : Int32) (μ : mz_M) (h :
    if (x0 : Int32) = (116 : Int32) then
      (Q (some (mz_I 1)) μ)
    else
      (if (x0 : Int32) = (115 : Int32) then
        (Q (some (mz_I 2)) μ)
      else
        (if (x0 : Int32) = (101 : Int32) then
          (Q (some (mz_I 3)) μ)
        else
          (if (x0 : Int32) = (113 : Int32) then
            (Q (some (mz_I 4)) μ)
          else
            (Q (some (mz_I ((-1)))) μ))))) :
  v_Mo_kindOf C Q (0, [(0, mz_I x0)], [], μ) := mz_Ev.run [] 400 h
/-! EtaSeriesModel.readsAtom()Z, number 137 -/
abbrev v_Mo_readsAtom (C : mz_Cl) (Q : Option mz_V → mz_M → Prop) : mz_S → Prop := mz_Ev es_SH tb_Mo_readsAtom C Q
set_option maxRecDepth 20000 in
set_option maxHeartbeats 4000000 in
theorem w_Mo_readsAtom_0 {C : mz_Cl} {Q : Option mz_V → mz_M → Prop} (p0 : Nat) (μ : mz_M) (h :
    ∃ (r2 : Int32) (μ1 : mz_M), C n_Mo_here [mz_R 16 p0] μ (some (mz_I r2)) μ1 ∧
      (∃ (r4 : Int32) (μ3 : mz_M), C n_Mo_kindOf [mz_I r2] μ1 (some (mz_I r4)) μ3 ∧
        (if (0 : Int32) ≤ ((mz_wI μ3 p0 14 r4).1 p0 14 : Int32) then
          (∃ (r6 : Int32) (μ5 : mz_M), C n_Mo_has [mz_R 16 p0, mz_I 40] (mz_wI (mz_wI μ3 p0 14 r4) p0 11 (((mz_wI μ3 p0 14 r4).1 p0 11) + 1)) (some (mz_I r6)) μ5 ∧
            (if (r6 : Int32) = (0 : Int32) then
              (((0 : Int32) = 0 ∨ (0 : Int32) = 1) ∧ Q (some (mz_I 0)) μ5)
            else
              (∃ (r8 : Int32) (μ7 : mz_M), C n_Mo_here [mz_R 16 p0] μ5 (some (mz_I r8)) μ7 ∧
                (∃ (r10 : Int32) (μ9 : mz_M), C n_Mo_in [mz_L ((r8 : Int32).toInt64), mz_L 48, mz_L 57] μ7 (some (mz_I r10)) μ9 ∧
                  (if (r10 : Int32) = (0 : Int32) then
                    (∃ (r12 : Int32) (μ11 : mz_M), C n_Mo_isKind [mz_I ((mz_wI μ9 p0 15 ((-1))).1 p0 14), mz_I ((mz_wI μ9 p0 15 ((-1))).1 p0 15)] (mz_wI μ9 p0 15 ((-1))) (some (mz_I r12)) μ11 ∧
                      (if (r12 : Int32) = (0 : Int32) then
                        (((0 : Int32) = 0 ∨ (0 : Int32) = 1) ∧ Q (some (mz_I 0)) (mz_wI μ11 p0 11 (μ9.1 p0 11)))
                      else
                        (∃ (r14 : Int32) (μ13 : mz_M), C n_Mo_has [mz_R 16 p0, mz_I 41] μ11 (some (mz_I r14)) μ13 ∧
                          (((r14 : Int32) = 0 ∨ (r14 : Int32) = 1) ∧ Q (some (mz_I r14)) μ13))))
                  else
                    (∃ (r16 : Int32) (μ15 : mz_M), C n_Mo_number [mz_R 16 p0] μ9 (some (mz_I r16)) μ15 ∧
                      (∃ (r18 : Int32) (μ17 : mz_M), C n_Mo_isKind [mz_I ((mz_wI μ15 p0 15 r16).1 p0 14), mz_I ((mz_wI μ15 p0 15 r16).1 p0 15)] (mz_wI μ15 p0 15 r16) (some (mz_I r18)) μ17 ∧
                        (if (r18 : Int32) = (0 : Int32) then
                          (((0 : Int32) = 0 ∨ (0 : Int32) = 1) ∧ Q (some (mz_I 0)) (mz_wI μ17 p0 11 (μ9.1 p0 11)))
                        else
                          (∃ (r20 : Int32) (μ19 : mz_M), C n_Mo_has [mz_R 16 p0, mz_I 41] μ17 (some (mz_I r20)) μ19 ∧
                            (((r20 : Int32) = 0 ∨ (r20 : Int32) = 1) ∧ Q (some (mz_I r20)) μ19))))))))))
        else
          (∃ (r22 : Int32) (μ21 : mz_M), C n_Mo_number [mz_R 16 p0] (mz_wI (mz_wI μ3 p0 14 r4) p0 14 0) (some (mz_I r22)) μ21 ∧
            (if ((mz_wI μ21 p0 15 r22).1 p0 15 : Int32) < (0 : Int32) then
              (((0 : Int32) = 0 ∨ (0 : Int32) = 1) ∧ Q (some (mz_I 0)) (mz_wI μ21 p0 15 r22))
            else
              (((1 : Int32) = 0 ∨ (1 : Int32) = 1) ∧ Q (some (mz_I 1)) (mz_wI μ21 p0 15 r22))))))) :
  v_Mo_readsAtom C Q (0, [(0, mz_R 16 p0)], [], μ) := mz_Ev.run [] 400 h
/-! EtaSeriesModel.isText()Z, number 138 -/
abbrev v_Mo_isText (C : mz_Cl) (Q : Option mz_V → mz_M → Prop) : mz_S → Prop := mz_Ev es_SH tb_Mo_isText C Q
set_option maxRecDepth 20000 in
set_option maxHeartbeats 4000000 in
theorem w_Mo_isText_0 {C : mz_Cl} {Q : Option mz_V → mz_M → Prop} (p0 : Nat) (μ : mz_M) (h :
    v_Mo_isText C Q (14, [(0, mz_R 16 p0), (1, mz_I 0), (2, mz_I 1), (3, mz_I 0), (4, mz_I 1)], [], mz_wI μ p0 11 0)) :
  v_Mo_isText C Q (0, [(0, mz_R 16 p0)], [], μ) := mz_Ev.run [14, 30, 69, 162, 191, 250] 400 h
set_option maxRecDepth 20000 in
set_option maxHeartbeats 4000000 in
theorem w_Mo_isText_14 {C : mz_Cl} {Q : Option mz_V → mz_M → Prop} (p0 : Nat) (x1 : Int32) (x2 : Int32) (x3 : Int32) (x4 : Int32) (μ : mz_M) (h :
    if (x4 : Int32) = (0 : Int32) then
      (v_Mo_isText C Q (250, [(1, mz_I x1), (4, mz_I x4)], [], μ))
    else
      (if (x2 : Int32) = (0 : Int32) then
        (∃ (r2 : Int32) (μ1 : mz_M), C n_Mo_here [mz_R 16 p0] μ (some (mz_I r2)) μ1 ∧
          (if (r2 : Int32) = (0 : Int32) then
            (v_Mo_isText C Q (250, [(1, mz_I x1), (4, mz_I x4)], [], μ1))
          else
            (v_Mo_isText C Q (30, [(0, mz_R 16 p0), (1, mz_I x1), (2, mz_I x2), (3, mz_I x3), (4, mz_I x4)], [], μ1))))
      else
        (v_Mo_isText C Q (30, [(0, mz_R 16 p0), (1, mz_I x1), (2, mz_I x2), (3, mz_I x3), (4, mz_I x4)], [], μ)))) :
  v_Mo_isText C Q (14, [(0, mz_R 16 p0), (1, mz_I x1), (2, mz_I x2), (3, mz_I x3), (4, mz_I x4)], [], μ) := mz_Ev.run [14, 30, 69, 162, 191, 250] 400 h
set_option maxRecDepth 20000 in
set_option maxHeartbeats 4000000 in
theorem w_Mo_isText_30 {C : mz_Cl} {Q : Option mz_V → mz_M → Prop} (p0 : Nat) (x1 : Int32) (x2 : Int32) (x3 : Int32) (x4 : Int32) (μ : mz_M) (h :
    ∃ (r2 : Int32) (μ1 : mz_M), C n_Mo_here [mz_R 16 p0] μ (some (mz_I r2)) μ1 ∧
      (if (x2 : Int32) = (0 : Int32) then
        (v_Mo_isText C Q (69, [(0, mz_R 16 p0), (1, mz_I x1), (2, mz_I x2), (3, mz_I x3), (4, mz_I x4), (5, mz_I r2)], [], μ1))
      else
        (if (r2 : Int32) = (40 : Int32) then
          (if (6 : Int32) ≤ (x1 : Int32) then
            (v_Mo_isText C Q (69, [(0, mz_R 16 p0), (1, mz_I x1), (2, mz_I x2), (3, mz_I x3), (4, mz_I x4), (5, mz_I r2)], [], μ1))
          else
            (v_Mo_isText C Q (14, [(0, mz_R 16 p0), (1, mz_I (x1 + 1)), (2, mz_I x2), (3, mz_I x3), (4, mz_I x4)], [], mz_wI μ1 p0 11 ((μ1.1 p0 11) + 1))))
        else
          (v_Mo_isText C Q (69, [(0, mz_R 16 p0), (1, mz_I x1), (2, mz_I x2), (3, mz_I x3), (4, mz_I x4), (5, mz_I r2)], [], μ1))))) :
  v_Mo_isText C Q (30, [(0, mz_R 16 p0), (1, mz_I x1), (2, mz_I x2), (3, mz_I x3), (4, mz_I x4)], [], μ) := mz_Ev.run [14, 30, 69, 162, 191, 250] 400 h
set_option maxRecDepth 20000 in
set_option maxHeartbeats 4000000 in
theorem w_Mo_isText_69 {C : mz_Cl} {Q : Option mz_V → mz_M → Prop} (p0 : Nat) (x1 : Int32) (x2 : Int32) (x3 : Int32) (x4 : Int32) (x5 : Int32) (μ : mz_M) (h :
    if (x2 : Int32) = (0 : Int32) then
      (if (x5 : Int32) = (94 : Int32) then
        (if (x3 : Int32) = (0 : Int32) then
          (v_Mo_isText C Q (162, [(0, mz_R 16 p0), (1, mz_I x1), (2, mz_I x2), (3, mz_I x3), (4, mz_I x4), (5, mz_I x5)], [], μ))
        else
          (∃ (r2 : Int32) (μ1 : mz_M), C n_Mo_here [mz_R 16 p0] (mz_wI μ p0 11 ((μ.1 p0 11) + 1)) (some (mz_I r2)) μ1 ∧
            (∃ (r4 : Int32) (μ3 : mz_M), C n_Mo_in [mz_L ((r2 : Int32).toInt64), mz_L 48, mz_L 56] μ1 (some (mz_I r4)) μ3 ∧
              (if (r4 : Int32) = (0 : Int32) then
                (v_Mo_isText C Q (14, [(0, mz_R 16 p0), (1, mz_I x1), (2, mz_I x2), (3, mz_I 0), (4, mz_I r4)], [], mz_wI μ3 p0 11 ((μ3.1 p0 11) + 0)))
              else
                (v_Mo_isText C Q (14, [(0, mz_R 16 p0), (1, mz_I x1), (2, mz_I x2), (3, mz_I 0), (4, mz_I r4)], [], mz_wI μ3 p0 11 ((μ3.1 p0 11) + 1)))))))
      else
        (v_Mo_isText C Q (162, [(0, mz_R 16 p0), (1, mz_I x1), (2, mz_I x2), (3, mz_I x3), (4, mz_I x4), (5, mz_I x5)], [], μ)))
    else
      (if (x5 : Int32) = (40 : Int32) then
        (v_Mo_isText C Q (14, [(0, mz_R 16 p0), (1, mz_I x1), (2, mz_I 0), (3, mz_I 1), (4, mz_I 0)], [], μ))
      else
        (∃ (r6 : Int32) (μ5 : mz_M), C n_Mo_readsAtom [mz_R 16 p0] μ (some (mz_I r6)) μ5 ∧
          (if (r6 : Int32) = (0 : Int32) then
            (v_Mo_isText C Q (14, [(0, mz_R 16 p0), (1, mz_I x1), (2, mz_I 0), (3, mz_I 1), (4, mz_I 0)], [], μ5))
          else
            (v_Mo_isText C Q (14, [(0, mz_R 16 p0), (1, mz_I x1), (2, mz_I 0), (3, mz_I 1), (4, mz_I 1)], [], μ5)))))) :
  v_Mo_isText C Q (69, [(0, mz_R 16 p0), (1, mz_I x1), (2, mz_I x2), (3, mz_I x3), (4, mz_I x4), (5, mz_I x5)], [], μ) := mz_Ev.run [14, 30, 69, 162, 191, 250] 400 h
set_option maxRecDepth 20000 in
set_option maxHeartbeats 4000000 in
theorem w_Mo_isText_162 {C : mz_Cl} {Q : Option mz_V → mz_M → Prop} (p0 : Nat) (x1 : Int32) (x2 : Int32) (x3 : Int32) (x4 : Int32) (x5 : Int32) (μ : mz_M) (h :
    if (x5 : Int32) = (41 : Int32) then
      (if (x1 : Int32) ≤ (0 : Int32) then
        (v_Mo_isText C Q (191, [(0, mz_R 16 p0), (1, mz_I x1), (3, mz_I x3), (5, mz_I x5)], [], μ))
      else
        (v_Mo_isText C Q (14, [(0, mz_R 16 p0), (1, mz_I (x1 + (-1))), (2, mz_I x2), (3, mz_I 1), (4, mz_I x4)], [], mz_wI μ p0 11 ((μ.1 p0 11) + 1))))
    else
      (v_Mo_isText C Q (191, [(0, mz_R 16 p0), (1, mz_I x1), (3, mz_I x3), (5, mz_I x5)], [], μ))) :
  v_Mo_isText C Q (162, [(0, mz_R 16 p0), (1, mz_I x1), (2, mz_I x2), (3, mz_I x3), (4, mz_I x4), (5, mz_I x5)], [], μ) := mz_Ev.run [14, 30, 69, 162, 191, 250] 400 h
set_option maxRecDepth 20000 in
set_option maxHeartbeats 4000000 in
theorem w_Mo_isText_191 {C : mz_Cl} {Q : Option mz_V → mz_M → Prop} (p0 : Nat) (x1 : Int32) (x3 : Int32) (x5 : Int32) (μ : mz_M) (h :
    if (x5 : Int32) = (42 : Int32) then
      (if (1 : Int32) = (0 : Int32) then
        (v_Mo_isText C Q (14, [(0, mz_R 16 p0), (1, mz_I x1), (2, mz_I 1), (3, mz_I x3), (4, mz_I 1)], [], mz_wI μ p0 11 ((μ.1 p0 11) + 0)))
      else
        (v_Mo_isText C Q (14, [(0, mz_R 16 p0), (1, mz_I x1), (2, mz_I 1), (3, mz_I x3), (4, mz_I 1)], [], mz_wI μ p0 11 ((μ.1 p0 11) + 1))))
    else
      (if (x5 : Int32) = (43 : Int32) then
        (if (1 : Int32) = (0 : Int32) then
          (v_Mo_isText C Q (14, [(0, mz_R 16 p0), (1, mz_I x1), (2, mz_I 1), (3, mz_I x3), (4, mz_I 1)], [], mz_wI μ p0 11 ((μ.1 p0 11) + 0)))
        else
          (v_Mo_isText C Q (14, [(0, mz_R 16 p0), (1, mz_I x1), (2, mz_I 1), (3, mz_I x3), (4, mz_I 1)], [], mz_wI μ p0 11 ((μ.1 p0 11) + 1))))
      else
        (if (x5 : Int32) = (45 : Int32) then
          (if (1 : Int32) = (0 : Int32) then
            (v_Mo_isText C Q (14, [(0, mz_R 16 p0), (1, mz_I x1), (2, mz_I 1), (3, mz_I x3), (4, mz_I 1)], [], mz_wI μ p0 11 ((μ.1 p0 11) + 0)))
          else
            (v_Mo_isText C Q (14, [(0, mz_R 16 p0), (1, mz_I x1), (2, mz_I 1), (3, mz_I x3), (4, mz_I 1)], [], mz_wI μ p0 11 ((μ.1 p0 11) + 1))))
        else
          (if (x5 : Int32) = (47 : Int32) then
            (if (1 : Int32) = (0 : Int32) then
              (v_Mo_isText C Q (14, [(0, mz_R 16 p0), (1, mz_I x1), (2, mz_I 1), (3, mz_I x3), (4, mz_I 1)], [], mz_wI μ p0 11 ((μ.1 p0 11) + 0)))
            else
              (v_Mo_isText C Q (14, [(0, mz_R 16 p0), (1, mz_I x1), (2, mz_I 1), (3, mz_I x3), (4, mz_I 1)], [], mz_wI μ p0 11 ((μ.1 p0 11) + 1))))
          else
            (if (0 : Int32) = (0 : Int32) then
              (v_Mo_isText C Q (14, [(0, mz_R 16 p0), (1, mz_I x1), (2, mz_I 0), (3, mz_I x3), (4, mz_I 0)], [], mz_wI μ p0 11 ((μ.1 p0 11) + 0)))
            else
              (v_Mo_isText C Q (14, [(0, mz_R 16 p0), (1, mz_I x1), (2, mz_I 0), (3, mz_I x3), (4, mz_I 0)], [], mz_wI μ p0 11 ((μ.1 p0 11) + 1)))))))) :
  v_Mo_isText C Q (191, [(0, mz_R 16 p0), (1, mz_I x1), (3, mz_I x3), (5, mz_I x5)], [], μ) := mz_Ev.run [14, 30, 69, 162, 191, 250] 400 h
set_option maxRecDepth 20000 in
set_option maxHeartbeats 4000000 in
theorem w_Mo_isText_250 {C : mz_Cl} {Q : Option mz_V → mz_M → Prop} (x1 : Int32) (x4 : Int32) (μ : mz_M) (h :
    if (x4 : Int32) = (0 : Int32) then
      (((0 : Int32) = 0 ∨ (0 : Int32) = 1) ∧ Q (some (mz_I 0)) μ)
    else
      (if (x1 : Int32) = (0 : Int32) then
        (((1 : Int32) = 0 ∨ (1 : Int32) = 1) ∧ Q (some (mz_I 1)) μ)
      else
        (((0 : Int32) = 0 ∨ (0 : Int32) = 1) ∧ Q (some (mz_I 0)) μ))) :
  v_Mo_isText C Q (250, [(1, mz_I x1), (4, mz_I x4)], [], μ) := mz_Ev.run [14, 30, 69, 162, 191, 250] 400 h
/-! EtaSeriesModel.begins()V, number 139 -/
abbrev v_Mo_begins (C : mz_Cl) (Q : Option mz_V → mz_M → Prop) : mz_S → Prop := mz_Ev es_SH tb_Mo_begins C Q
set_option maxRecDepth 20000 in
set_option maxHeartbeats 4000000 in
theorem w_Mo_begins_0 {C : mz_Cl} {Q : Option mz_V → mz_M → Prop} (p0 : Nat) (μ : mz_M) (h :
    vp_in (μ.1 p0 20) 7 ∧ (vp_in ((mz_wI μ 9 (μ.1 p0 20 : Int32).toNatClampNeg 0).1 p0 20) 7 ∧ (Q none (mz_wI (mz_wI μ 9 (μ.1 p0 20 : Int32).toNatClampNeg 0) 10 ((mz_wI μ 9 (μ.1 p0 20 : Int32).toNatClampNeg 0).1 p0 20 : Int32).toNatClampNeg 0)))) :
  v_Mo_begins C Q (0, [(0, mz_R 16 p0)], [], μ) := mz_Ev.run [] 400 h
/-! EtaSeriesModel.broke(II)I, number 140 -/
abbrev v_Mo_broke (C : mz_Cl) (Q : Option mz_V → mz_M → Prop) : mz_S → Prop := mz_Ev es_SH tb_Mo_broke C Q
set_option maxRecDepth 20000 in
set_option maxHeartbeats 4000000 in
theorem w_Mo_broke_0 {C : mz_Cl} {Q : Option mz_V → mz_M → Prop} (p0 : Nat) (x1 : Int32) (x2 : Int32) (μ : mz_M) (h :
    Q (some (mz_I x1)) (mz_wI (mz_wI μ p0 12 (μ.1 p0 20)) p0 13 x2)) :
  v_Mo_broke C Q (0, [(0, mz_R 16 p0), (1, mz_I x1), (2, mz_I x2)], [], μ) := mz_Ev.run [] 400 h
/-! EtaSeriesModel.lays([J)V, number 141 -/
abbrev v_Mo_lays (C : mz_Cl) (Q : Option mz_V → mz_M → Prop) : mz_S → Prop := mz_Ev es_SH tb_Mo_lays C Q
set_option maxRecDepth 20000 in
set_option maxHeartbeats 4000000 in
theorem w_Mo_lays_0 {C : mz_Cl} {Q : Option mz_V → mz_M → Prop} (p0 : Nat) (p1 : Nat) (μ : mz_M) (h :
    v_Mo_lays C Q (2, [(0, mz_R 16 p0), (1, mz_R 21 p1), (2, mz_I 0)], [], μ)) :
  v_Mo_lays C Q (0, [(0, mz_R 16 p0), (1, mz_R 21 p1)], [], μ) := mz_Ev.run [2] 400 h
set_option maxRecDepth 20000 in
set_option maxHeartbeats 4000000 in
theorem w_Mo_lays_2 {C : mz_Cl} {Q : Option mz_V → mz_M → Prop} (p0 : Nat) (p1 : Nat) (x2 : Int32) (μ : mz_M) (h :
    if (μ.1 p0 6 : Int32) ≤ (x2 : Int32) then
      (Q none μ)
    else
      (vp_in x2 40 ∧ (vp_in ((40 * (μ.1 p0 20)) + x2) 280 ∧ (v_Mo_lays C Q (2, [(0, mz_R 16 p0), (1, mz_R 21 p1), (2, mz_I (x2 + 1))], [], mz_wL μ p1 ((40 * (μ.1 p0 20)) + x2 : Int32).toNatClampNeg (μ.2 4 (x2 : Int32).toNatClampNeg)))))) :
  v_Mo_lays C Q (2, [(0, mz_R 16 p0), (1, mz_R 21 p1), (2, mz_I x2)], [], μ) := mz_Ev.run [2] 400 h
/-! EtaSeriesModel.takesFrom([J)V, number 142 -/
abbrev v_Mo_takesFrom (C : mz_Cl) (Q : Option mz_V → mz_M → Prop) : mz_S → Prop := mz_Ev es_SH tb_Mo_takesFrom C Q
set_option maxRecDepth 20000 in
set_option maxHeartbeats 4000000 in
theorem w_Mo_takesFrom_0 {C : mz_Cl} {Q : Option mz_V → mz_M → Prop} (p0 : Nat) (p1 : Nat) (μ : mz_M) (h :
    vp_in 0 166 ∧ (v_Mo_takesFrom C Q (12, [(0, mz_R 16 p0), (1, mz_R 21 p1), (2, mz_I 0)], [], mz_wI μ p0 2 (μ.1 1 (0 : Int32).toNatClampNeg)))) :
  v_Mo_takesFrom C Q (0, [(0, mz_R 16 p0), (1, mz_R 21 p1)], [], μ) := mz_Ev.run [12] 400 h
set_option maxRecDepth 20000 in
set_option maxHeartbeats 4000000 in
theorem w_Mo_takesFrom_12 {C : mz_Cl} {Q : Option mz_V → mz_M → Prop} (p0 : Nat) (p1 : Nat) (x2 : Int32) (μ : mz_M) (h :
    if (μ.1 p0 2 : Int32) ≤ (x2 : Int32) then
      (Q none μ)
    else
      (vp_in ((40 * (μ.1 p0 20)) + x2) 280 ∧ (vp_in x2 40 ∧ (v_Mo_takesFrom C Q (12, [(0, mz_R 16 p0), (1, mz_R 21 p1), (2, mz_I (x2 + 1))], [], mz_wL μ 2 (x2 : Int32).toNatClampNeg (μ.2 p1 ((40 * (μ.1 p0 20)) + x2 : Int32).toNatClampNeg)))))) :
  v_Mo_takesFrom C Q (12, [(0, mz_R 16 p0), (1, mz_R 21 p1), (2, mz_I x2)], [], μ) := mz_Ev.run [12] 400 h
/-! EtaSeriesModel.joinsPart()I, number 143 -/
abbrev v_Mo_joinsPart (C : mz_Cl) (Q : Option mz_V → mz_M → Prop) : mz_S → Prop := mz_Ev es_SH tb_Mo_joinsPart C Q
set_option maxRecDepth 20000 in
set_option maxHeartbeats 4000000 in
theorem w_Mo_joinsPart_0 {C : mz_Cl} {Q : Option mz_V → mz_M → Prop} (p0 : Nat) (μ : mz_M) (h :
    vp_in (μ.1 p0 20) 7 ∧ (if (μ.1 10 (μ.1 p0 20 : Int32).toNatClampNeg : Int32) = (0 : Int32) then
      (∃ μ1, C n_Mo_lays [mz_R 16 p0, mz_R 21 8] μ none μ1 ∧
        (Q (some (mz_I 0)) μ1))
    else
      (∃ μ2, C n_Mo_copiesToTwo [mz_R 16 p0] μ none μ2 ∧
        (∃ μ3, C n_Mo_takesFrom [mz_R 16 p0, mz_R 21 8] μ2 none μ3 ∧
          (if (μ.1 10 (μ.1 p0 20 : Int32).toNatClampNeg : Int32) = (42 : Int32) then
            (∃ (r5 : Int32) (μ4 : mz_M), C n_Mo_joins [mz_R 16 p0, mz_I 2] μ3 (some (mz_I r5)) μ4 ∧
              (if (0 : Int32) ≤ (r5 : Int32) then
                (∃ μ6, C n_Mo_lays [mz_R 16 p0, mz_R 21 8] μ4 none μ6 ∧
                  (Q (some (mz_I 0)) μ6))
              else
                (∃ (r8 : Int32) (μ7 : mz_M), C n_Mo_broke [mz_R 16 p0, mz_I r5, mz_I (μ.1 10 (μ.1 p0 20 : Int32).toNatClampNeg)] μ4 (some (mz_I r8)) μ7 ∧
                  (Q (some (mz_I r8)) μ7))))
          else
            (∃ (r10 : Int32) (μ9 : mz_M), C n_Mo_joins [mz_R 16 p0, mz_I 3] μ3 (some (mz_I r10)) μ9 ∧
              (if (0 : Int32) ≤ (r10 : Int32) then
                (∃ μ11, C n_Mo_lays [mz_R 16 p0, mz_R 21 8] μ9 none μ11 ∧
                  (Q (some (mz_I 0)) μ11))
              else
                (∃ (r13 : Int32) (μ12 : mz_M), C n_Mo_broke [mz_R 16 p0, mz_I r10, mz_I (μ.1 10 (μ.1 p0 20 : Int32).toNatClampNeg)] μ9 (some (mz_I r13)) μ12 ∧
                  (Q (some (mz_I r13)) μ12))))))))) :
  v_Mo_joinsPart C Q (0, [(0, mz_R 16 p0)], [], μ) := mz_Ev.run [] 400 h
/-! EtaSeriesModel.joinsSum()I, number 144 -/
abbrev v_Mo_joinsSum (C : mz_Cl) (Q : Option mz_V → mz_M → Prop) : mz_S → Prop := mz_Ev es_SH tb_Mo_joinsSum C Q
set_option maxRecDepth 20000 in
set_option maxHeartbeats 4000000 in
theorem w_Mo_joinsSum_0 {C : mz_Cl} {Q : Option mz_V → mz_M → Prop} (p0 : Nat) (μ : mz_M) (h :
    vp_in (μ.1 p0 20) 7 ∧ (∃ μ1, C n_Mo_takesFrom [mz_R 16 p0, mz_R 21 8] μ none μ1 ∧
      (if (μ.1 9 (μ.1 p0 20 : Int32).toNatClampNeg : Int32) = (0 : Int32) then
        (v_Mo_joinsSum C Q (32, [(0, mz_R 16 p0), (2, mz_I 0)], [], mz_wI μ1 p0 6 (μ1.1 p0 2)))
      else
        (v_Mo_joinsSum C Q (71, [(0, mz_R 16 p0), (1, mz_I (μ.1 9 (μ.1 p0 20 : Int32).toNatClampNeg)), (2, mz_I 0)], [], mz_wI μ1 p0 4 (μ1.1 p0 2)))))) :
  v_Mo_joinsSum C Q (0, [(0, mz_R 16 p0)], [], μ) := mz_Ev.run [32, 71] 400 h
set_option maxRecDepth 20000 in
set_option maxHeartbeats 4000000 in
theorem w_Mo_joinsSum_32 {C : mz_Cl} {Q : Option mz_V → mz_M → Prop} (p0 : Nat) (x2 : Int32) (μ : mz_M) (h :
    if (μ.1 p0 2 : Int32) ≤ (x2 : Int32) then
      (∃ μ1, C n_Mo_lays [mz_R 16 p0, mz_R 21 7] μ none μ1 ∧
        (Q (some (mz_I 0)) μ1))
    else
      (vp_in x2 40 ∧ (vp_in x2 40 ∧ (v_Mo_joinsSum C Q (32, [(0, mz_R 16 p0), (2, mz_I (x2 + 1))], [], mz_wL μ 4 (x2 : Int32).toNatClampNeg (μ.2 2 (x2 : Int32).toNatClampNeg)))))) :
  v_Mo_joinsSum C Q (32, [(0, mz_R 16 p0), (2, mz_I x2)], [], μ) := mz_Ev.run [32, 71] 400 h
set_option maxRecDepth 20000 in
set_option maxHeartbeats 4000000 in
theorem w_Mo_joinsSum_71 {C : mz_Cl} {Q : Option mz_V → mz_M → Prop} (p0 : Nat) (x1 : Int32) (x2 : Int32) (μ : mz_M) (h :
    if (μ.1 p0 2 : Int32) ≤ (x2 : Int32) then
      (∃ μ1, C n_Mo_takesFrom [mz_R 16 p0, mz_R 21 7] μ none μ1 ∧
        (if (x1 : Int32) = (43 : Int32) then
          (∃ (r3 : Int32) (μ2 : mz_M), C n_Mo_joins [mz_R 16 p0, mz_I 0] μ1 (some (mz_I r3)) μ2 ∧
            (if (0 : Int32) ≤ (r3 : Int32) then
              (∃ μ4, C n_Mo_lays [mz_R 16 p0, mz_R 21 7] μ2 none μ4 ∧
                (Q (some (mz_I 0)) μ4))
            else
              (∃ (r6 : Int32) (μ5 : mz_M), C n_Mo_broke [mz_R 16 p0, mz_I r3, mz_I x1] μ2 (some (mz_I r6)) μ5 ∧
                (Q (some (mz_I r6)) μ5))))
        else
          (∃ (r8 : Int32) (μ7 : mz_M), C n_Mo_joins [mz_R 16 p0, mz_I 1] μ1 (some (mz_I r8)) μ7 ∧
            (if (0 : Int32) ≤ (r8 : Int32) then
              (∃ μ9, C n_Mo_lays [mz_R 16 p0, mz_R 21 7] μ7 none μ9 ∧
                (Q (some (mz_I 0)) μ9))
            else
              (∃ (r11 : Int32) (μ10 : mz_M), C n_Mo_broke [mz_R 16 p0, mz_I r8, mz_I x1] μ7 (some (mz_I r11)) μ10 ∧
                (Q (some (mz_I r11)) μ10))))))
    else
      (vp_in x2 40 ∧ (vp_in x2 40 ∧ (v_Mo_joinsSum C Q (71, [(0, mz_R 16 p0), (1, mz_I x1), (2, mz_I (x2 + 1))], [], mz_wL μ 3 (x2 : Int32).toNatClampNeg (μ.2 2 (x2 : Int32).toNatClampNeg)))))) :
  v_Mo_joinsSum C Q (71, [(0, mz_R 16 p0), (1, mz_I x1), (2, mz_I x2)], [], μ) := mz_Ev.run [32, 71] 400 h
/-! EtaSeriesModel.joinsAtom()I, number 145 -/
abbrev v_Mo_joinsAtom (C : mz_Cl) (Q : Option mz_V → mz_M → Prop) : mz_S → Prop := mz_Ev es_SH tb_Mo_joinsAtom C Q
set_option maxRecDepth 20000 in
set_option maxHeartbeats 4000000 in
theorem w_Mo_joinsAtom_0 {C : mz_Cl} {Q : Option mz_V → mz_M → Prop} (p0 : Nat) (μ : mz_M) (h :
    ∃ (r2 : Int32) (μ1 : mz_M), C n_Mo_has [mz_R 16 p0, mz_I 94] μ (some (mz_I r2)) μ1 ∧
      (if (r2 : Int32) = (0 : Int32) then
        (∃ (r4 : Int32) (μ3 : mz_M), C n_Mo_joinsPart [mz_R 16 p0] μ1 (some (mz_I r4)) μ3 ∧
          (Q (some (mz_I r4)) μ3))
      else
        (∃ (r6 : Int32) (μ5 : mz_M), C n_Mo_here [mz_R 16 p0] μ1 (some (mz_I r6)) μ5 ∧
          (∃ (r8 : Int32) (μ7 : mz_M), C n_Mo_powers [mz_R 16 p0, mz_I (r6 - 48)] (mz_wI μ5 p0 11 ((μ5.1 p0 11) + 1)) (some (mz_I r8)) μ7 ∧
            (if (0 : Int32) ≤ (r8 : Int32) then
              (∃ (r10 : Int32) (μ9 : mz_M), C n_Mo_joinsPart [mz_R 16 p0] μ7 (some (mz_I r10)) μ9 ∧
                (Q (some (mz_I r10)) μ9))
            else
              (∃ (r12 : Int32) (μ11 : mz_M), C n_Mo_broke [mz_R 16 p0, mz_I r8, mz_I 94] μ7 (some (mz_I r12)) μ11 ∧
                (Q (some (mz_I r12)) μ11))))))) :
  v_Mo_joinsAtom C Q (0, [(0, mz_R 16 p0)], [], μ) := mz_Ev.run [] 400 h
/-! EtaSeriesModel.makesAtom()I, number 146 -/
abbrev v_Mo_makesAtom (C : mz_Cl) (Q : Option mz_V → mz_M → Prop) : mz_S → Prop := mz_Ev es_SH tb_Mo_makesAtom C Q
set_option maxRecDepth 20000 in
set_option maxHeartbeats 4000000 in
theorem w_Mo_makesAtom_0 {C : mz_Cl} {Q : Option mz_V → mz_M → Prop} (p0 : Nat) (μ : mz_M) (h :
    ∃ (r2 : Int32) (μ1 : mz_M), C n_Mo_readsAtom [mz_R 16 p0] μ (some (mz_I r2)) μ1 ∧
      (if (r2 : Int32) = (0 : Int32) then
        (vp_in 0 166 ∧ (∃ μ3, C n_Mo_makes [mz_R 16 p0, mz_I (μ1.1 p0 14), mz_I 0, mz_I (μ1.1 1 (0 : Int32).toNatClampNeg)] μ1 none μ3 ∧
          (if (μ3.1 p0 14 : Int32) = (0 : Int32) then
            (vp_in 0 40 ∧ (∃ (r5 : Int32) (μ4 : mz_M), C n_Mo_joinsAtom [mz_R 16 p0] (mz_wL μ3 4 (0 : Int32).toNatClampNeg ((μ3.1 p0 15 : Int32).toInt64)) (some (mz_I r5)) μ4 ∧
              (Q (some (mz_I r5)) μ4)))
          else
            (vp_in 0 40 ∧ (vp_in 0 40 ∧ (∃ (r7 : Int32) (μ6 : mz_M), C n_Mo_joinsAtom [mz_R 16 p0] (mz_wL μ3 4 (0 : Int32).toNatClampNeg (μ3.2 4 (0 : Int32).toNatClampNeg)) (some (mz_I r7)) μ6 ∧
              (Q (some (mz_I r7)) μ6)))))))
      else
        (if (μ1.1 p0 14 : Int32) ≤ (0 : Int32) then
          (vp_in 0 166 ∧ (∃ μ8, C n_Mo_makes [mz_R 16 p0, mz_I (μ1.1 p0 14), mz_I 0, mz_I (μ1.1 1 (0 : Int32).toNatClampNeg)] μ1 none μ8 ∧
            (if (μ8.1 p0 14 : Int32) = (0 : Int32) then
              (vp_in 0 40 ∧ (∃ (r10 : Int32) (μ9 : mz_M), C n_Mo_joinsAtom [mz_R 16 p0] (mz_wL μ8 4 (0 : Int32).toNatClampNeg ((μ8.1 p0 15 : Int32).toInt64)) (some (mz_I r10)) μ9 ∧
                (Q (some (mz_I r10)) μ9)))
            else
              (vp_in 0 40 ∧ (vp_in 0 40 ∧ (∃ (r12 : Int32) (μ11 : mz_M), C n_Mo_joinsAtom [mz_R 16 p0] (mz_wL μ8 4 (0 : Int32).toNatClampNeg (μ8.2 4 (0 : Int32).toNatClampNeg)) (some (mz_I r12)) μ11 ∧
                (Q (some (mz_I r12)) μ11)))))))
        else
          (vp_in 0 166 ∧ (∃ μ13, C n_Mo_makes [mz_R 16 p0, mz_I (μ1.1 p0 14), mz_I (μ1.1 p0 15), mz_I (μ1.1 1 (0 : Int32).toNatClampNeg)] μ1 none μ13 ∧
            (if (μ13.1 p0 14 : Int32) = (0 : Int32) then
              (vp_in 0 40 ∧ (∃ (r15 : Int32) (μ14 : mz_M), C n_Mo_joinsAtom [mz_R 16 p0] (mz_wL μ13 4 (0 : Int32).toNatClampNeg ((μ13.1 p0 15 : Int32).toInt64)) (some (mz_I r15)) μ14 ∧
                (Q (some (mz_I r15)) μ14)))
            else
              (vp_in 0 40 ∧ (vp_in 0 40 ∧ (∃ (r17 : Int32) (μ16 : mz_M), C n_Mo_joinsAtom [mz_R 16 p0] (mz_wL μ13 4 (0 : Int32).toNatClampNeg (μ13.2 4 (0 : Int32).toNatClampNeg)) (some (mz_I r17)) μ16 ∧
                (Q (some (mz_I r17)) μ16)))))))))) :
  v_Mo_makesAtom C Q (0, [(0, mz_R 16 p0)], [], μ) := mz_Ev.run [] 400 h
/-! EtaSeriesModel.works()I, number 147 -/
abbrev v_Mo_works (C : mz_Cl) (Q : Option mz_V → mz_M → Prop) : mz_S → Prop := mz_Ev es_SH tb_Mo_works C Q
set_option maxRecDepth 20000 in
set_option maxHeartbeats 4000000 in
theorem w_Mo_works_0 {C : mz_Cl} {Q : Option mz_V → mz_M → Prop} (p0 : Nat) (μ : mz_M) (h :
    ∃ μ1, C n_Mo_begins [mz_R 16 p0] (mz_wI (mz_wI μ p0 11 0) p0 20 0) none μ1 ∧
      (v_Mo_works C Q (18, [(0, mz_R 16 p0), (1, mz_I 0), (2, mz_I 1)], [], μ1))) :
  v_Mo_works C Q (0, [(0, mz_R 16 p0)], [], μ) := mz_Ev.run [18] 400 h
set_option maxRecDepth 20000 in
set_option maxHeartbeats 4000000 in
theorem w_Mo_works_18 {C : mz_Cl} {Q : Option mz_V → mz_M → Prop} (p0 : Nat) (x1 : Int32) (x2 : Int32) (μ : mz_M) (h :
    if (x1 : Int32) = (0 : Int32) then
      (∃ (r2 : Int32) (μ1 : mz_M), C n_Mo_here [mz_R 16 p0] μ (some (mz_I r2)) μ1 ∧
        (if (r2 : Int32) = (0 : Int32) then
          (if (x1 : Int32) = (0 : Int32) then
            (∃ (r4 : Int32) (μ3 : mz_M), C n_Mo_joinsSum [mz_R 16 p0] μ1 (some (mz_I r4)) μ3 ∧
              (Q (some (mz_I r4)) μ3))
          else
            (Q (some (mz_I x1)) μ1))
        else
          (∃ (r6 : Int32) (μ5 : mz_M), C n_Mo_here [mz_R 16 p0] μ1 (some (mz_I r6)) μ5 ∧
            (if (x2 : Int32) = (0 : Int32) then
              (if (x2 : Int32) = (0 : Int32) then
                (if (r6 : Int32) = (42 : Int32) then
                  (vp_in (μ5.1 p0 20) 7 ∧ (v_Mo_works C Q (18, [(0, mz_R 16 p0), (1, mz_I x1), (2, mz_I 1)], [], mz_wI (mz_wI μ5 10 (μ5.1 p0 20 : Int32).toNatClampNeg r6) p0 11 (((mz_wI μ5 10 (μ5.1 p0 20 : Int32).toNatClampNeg r6).1 p0 11) + 1))))
                else
                  (if (r6 : Int32) = (47 : Int32) then
                    (vp_in (μ5.1 p0 20) 7 ∧ (v_Mo_works C Q (18, [(0, mz_R 16 p0), (1, mz_I x1), (2, mz_I 1)], [], mz_wI (mz_wI μ5 10 (μ5.1 p0 20 : Int32).toNatClampNeg r6) p0 11 (((mz_wI μ5 10 (μ5.1 p0 20 : Int32).toNatClampNeg r6).1 p0 11) + 1))))
                  else
                    (∃ (r8 : Int32) (μ7 : mz_M), C n_Mo_joinsSum [mz_R 16 p0] μ5 (some (mz_I r8)) μ7 ∧
                      (if (r6 : Int32) = (41 : Int32) then
                        (if (r8 : Int32) = (0 : Int32) then
                          (if (0 : Int32) = (0 : Int32) then
                            (if (r8 : Int32) = (0 : Int32) then
                              (∃ (r10 : Int32) (μ9 : mz_M), C n_Mo_joinsAtom [mz_R 16 p0] (mz_wI (mz_wI μ7 p0 11 ((μ7.1 p0 11) + 1)) p0 20 (((mz_wI μ7 p0 11 ((μ7.1 p0 11) + 1)).1 p0 20) - 1)) (some (mz_I r10)) μ9 ∧
                                (v_Mo_works C Q (18, [(0, mz_R 16 p0), (1, mz_I r10), (2, mz_I 0)], [], μ9)))
                            else
                              (v_Mo_works C Q (18, [(0, mz_R 16 p0), (1, mz_I r8), (2, mz_I 0)], [], mz_wI μ7 p0 11 ((μ7.1 p0 11) + 1))))
                          else
                            (vp_in ((mz_wI μ7 p0 11 ((μ7.1 p0 11) + 1)).1 p0 20) 7 ∧ (vp_in ((mz_wI (mz_wI μ7 p0 11 ((μ7.1 p0 11) + 1)) 9 ((mz_wI μ7 p0 11 ((μ7.1 p0 11) + 1)).1 p0 20 : Int32).toNatClampNeg r6).1 p0 20) 7 ∧ (v_Mo_works C Q (18, [(0, mz_R 16 p0), (1, mz_I r8), (2, mz_I 0)], [], mz_wI (mz_wI (mz_wI μ7 p0 11 ((μ7.1 p0 11) + 1)) 9 ((mz_wI μ7 p0 11 ((μ7.1 p0 11) + 1)).1 p0 20 : Int32).toNatClampNeg r6) 10 ((mz_wI (mz_wI μ7 p0 11 ((μ7.1 p0 11) + 1)) 9 ((mz_wI μ7 p0 11 ((μ7.1 p0 11) + 1)).1 p0 20 : Int32).toNatClampNeg r6).1 p0 20 : Int32).toNatClampNeg 0)))))
                        else
                          (if (r8 : Int32) = (0 : Int32) then
                            (∃ (r12 : Int32) (μ11 : mz_M), C n_Mo_joinsAtom [mz_R 16 p0] (mz_wI (mz_wI μ7 p0 11 ((μ7.1 p0 11) + 1)) p0 20 (((mz_wI μ7 p0 11 ((μ7.1 p0 11) + 1)).1 p0 20) - 1)) (some (mz_I r12)) μ11 ∧
                              (v_Mo_works C Q (18, [(0, mz_R 16 p0), (1, mz_I r12), (2, mz_I 0)], [], μ11)))
                          else
                            (v_Mo_works C Q (18, [(0, mz_R 16 p0), (1, mz_I r8), (2, mz_I 0)], [], mz_wI μ7 p0 11 ((μ7.1 p0 11) + 1)))))
                      else
                        (if (r8 : Int32) = (0 : Int32) then
                          (if (1 : Int32) = (0 : Int32) then
                            (if (r8 : Int32) = (0 : Int32) then
                              (∃ (r14 : Int32) (μ13 : mz_M), C n_Mo_joinsAtom [mz_R 16 p0] (mz_wI (mz_wI μ7 p0 11 ((μ7.1 p0 11) + 1)) p0 20 (((mz_wI μ7 p0 11 ((μ7.1 p0 11) + 1)).1 p0 20) - 1)) (some (mz_I r14)) μ13 ∧
                                (v_Mo_works C Q (18, [(0, mz_R 16 p0), (1, mz_I r14), (2, mz_I 1)], [], μ13)))
                            else
                              (v_Mo_works C Q (18, [(0, mz_R 16 p0), (1, mz_I r8), (2, mz_I 1)], [], mz_wI μ7 p0 11 ((μ7.1 p0 11) + 1))))
                          else
                            (vp_in ((mz_wI μ7 p0 11 ((μ7.1 p0 11) + 1)).1 p0 20) 7 ∧ (vp_in ((mz_wI (mz_wI μ7 p0 11 ((μ7.1 p0 11) + 1)) 9 ((mz_wI μ7 p0 11 ((μ7.1 p0 11) + 1)).1 p0 20 : Int32).toNatClampNeg r6).1 p0 20) 7 ∧ (v_Mo_works C Q (18, [(0, mz_R 16 p0), (1, mz_I r8), (2, mz_I 1)], [], mz_wI (mz_wI (mz_wI μ7 p0 11 ((μ7.1 p0 11) + 1)) 9 ((mz_wI μ7 p0 11 ((μ7.1 p0 11) + 1)).1 p0 20 : Int32).toNatClampNeg r6) 10 ((mz_wI (mz_wI μ7 p0 11 ((μ7.1 p0 11) + 1)) 9 ((mz_wI μ7 p0 11 ((μ7.1 p0 11) + 1)).1 p0 20 : Int32).toNatClampNeg r6).1 p0 20 : Int32).toNatClampNeg 0)))))
                        else
                          (if (r8 : Int32) = (0 : Int32) then
                            (∃ (r16 : Int32) (μ15 : mz_M), C n_Mo_joinsAtom [mz_R 16 p0] (mz_wI (mz_wI μ7 p0 11 ((μ7.1 p0 11) + 1)) p0 20 (((mz_wI μ7 p0 11 ((μ7.1 p0 11) + 1)).1 p0 20) - 1)) (some (mz_I r16)) μ15 ∧
                              (v_Mo_works C Q (18, [(0, mz_R 16 p0), (1, mz_I r16), (2, mz_I 1)], [], μ15)))
                          else
                            (v_Mo_works C Q (18, [(0, mz_R 16 p0), (1, mz_I r8), (2, mz_I 1)], [], mz_wI μ7 p0 11 ((μ7.1 p0 11) + 1)))))))))
              else
                (∃ (r18 : Int32) (μ17 : mz_M), C n_Mo_makesAtom [mz_R 16 p0] μ5 (some (mz_I r18)) μ17 ∧
                  (v_Mo_works C Q (18, [(0, mz_R 16 p0), (1, mz_I r18), (2, mz_I 0)], [], μ17))))
            else
              (if (r6 : Int32) = (40 : Int32) then
                (∃ μ19, C n_Mo_begins [mz_R 16 p0] (mz_wI (mz_wI μ5 p0 11 ((μ5.1 p0 11) + 1)) p0 20 (((mz_wI μ5 p0 11 ((μ5.1 p0 11) + 1)).1 p0 20) + 1)) none μ19 ∧
                  (v_Mo_works C Q (18, [(0, mz_R 16 p0), (1, mz_I x1), (2, mz_I x2)], [], μ19)))
              else
                (if (x2 : Int32) = (0 : Int32) then
                  (if (r6 : Int32) = (42 : Int32) then
                    (vp_in (μ5.1 p0 20) 7 ∧ (v_Mo_works C Q (18, [(0, mz_R 16 p0), (1, mz_I x1), (2, mz_I 1)], [], mz_wI (mz_wI μ5 10 (μ5.1 p0 20 : Int32).toNatClampNeg r6) p0 11 (((mz_wI μ5 10 (μ5.1 p0 20 : Int32).toNatClampNeg r6).1 p0 11) + 1))))
                  else
                    (if (r6 : Int32) = (47 : Int32) then
                      (vp_in (μ5.1 p0 20) 7 ∧ (v_Mo_works C Q (18, [(0, mz_R 16 p0), (1, mz_I x1), (2, mz_I 1)], [], mz_wI (mz_wI μ5 10 (μ5.1 p0 20 : Int32).toNatClampNeg r6) p0 11 (((mz_wI μ5 10 (μ5.1 p0 20 : Int32).toNatClampNeg r6).1 p0 11) + 1))))
                    else
                      (∃ (r21 : Int32) (μ20 : mz_M), C n_Mo_joinsSum [mz_R 16 p0] μ5 (some (mz_I r21)) μ20 ∧
                        (if (r6 : Int32) = (41 : Int32) then
                          (if (r21 : Int32) = (0 : Int32) then
                            (if (0 : Int32) = (0 : Int32) then
                              (if (r21 : Int32) = (0 : Int32) then
                                (∃ (r23 : Int32) (μ22 : mz_M), C n_Mo_joinsAtom [mz_R 16 p0] (mz_wI (mz_wI μ20 p0 11 ((μ20.1 p0 11) + 1)) p0 20 (((mz_wI μ20 p0 11 ((μ20.1 p0 11) + 1)).1 p0 20) - 1)) (some (mz_I r23)) μ22 ∧
                                  (v_Mo_works C Q (18, [(0, mz_R 16 p0), (1, mz_I r23), (2, mz_I 0)], [], μ22)))
                              else
                                (v_Mo_works C Q (18, [(0, mz_R 16 p0), (1, mz_I r21), (2, mz_I 0)], [], mz_wI μ20 p0 11 ((μ20.1 p0 11) + 1))))
                            else
                              (vp_in ((mz_wI μ20 p0 11 ((μ20.1 p0 11) + 1)).1 p0 20) 7 ∧ (vp_in ((mz_wI (mz_wI μ20 p0 11 ((μ20.1 p0 11) + 1)) 9 ((mz_wI μ20 p0 11 ((μ20.1 p0 11) + 1)).1 p0 20 : Int32).toNatClampNeg r6).1 p0 20) 7 ∧ (v_Mo_works C Q (18, [(0, mz_R 16 p0), (1, mz_I r21), (2, mz_I 0)], [], mz_wI (mz_wI (mz_wI μ20 p0 11 ((μ20.1 p0 11) + 1)) 9 ((mz_wI μ20 p0 11 ((μ20.1 p0 11) + 1)).1 p0 20 : Int32).toNatClampNeg r6) 10 ((mz_wI (mz_wI μ20 p0 11 ((μ20.1 p0 11) + 1)) 9 ((mz_wI μ20 p0 11 ((μ20.1 p0 11) + 1)).1 p0 20 : Int32).toNatClampNeg r6).1 p0 20 : Int32).toNatClampNeg 0)))))
                          else
                            (if (r21 : Int32) = (0 : Int32) then
                              (∃ (r25 : Int32) (μ24 : mz_M), C n_Mo_joinsAtom [mz_R 16 p0] (mz_wI (mz_wI μ20 p0 11 ((μ20.1 p0 11) + 1)) p0 20 (((mz_wI μ20 p0 11 ((μ20.1 p0 11) + 1)).1 p0 20) - 1)) (some (mz_I r25)) μ24 ∧
                                (v_Mo_works C Q (18, [(0, mz_R 16 p0), (1, mz_I r25), (2, mz_I 0)], [], μ24)))
                            else
                              (v_Mo_works C Q (18, [(0, mz_R 16 p0), (1, mz_I r21), (2, mz_I 0)], [], mz_wI μ20 p0 11 ((μ20.1 p0 11) + 1)))))
                        else
                          (if (r21 : Int32) = (0 : Int32) then
                            (if (1 : Int32) = (0 : Int32) then
                              (if (r21 : Int32) = (0 : Int32) then
                                (∃ (r27 : Int32) (μ26 : mz_M), C n_Mo_joinsAtom [mz_R 16 p0] (mz_wI (mz_wI μ20 p0 11 ((μ20.1 p0 11) + 1)) p0 20 (((mz_wI μ20 p0 11 ((μ20.1 p0 11) + 1)).1 p0 20) - 1)) (some (mz_I r27)) μ26 ∧
                                  (v_Mo_works C Q (18, [(0, mz_R 16 p0), (1, mz_I r27), (2, mz_I 1)], [], μ26)))
                              else
                                (v_Mo_works C Q (18, [(0, mz_R 16 p0), (1, mz_I r21), (2, mz_I 1)], [], mz_wI μ20 p0 11 ((μ20.1 p0 11) + 1))))
                            else
                              (vp_in ((mz_wI μ20 p0 11 ((μ20.1 p0 11) + 1)).1 p0 20) 7 ∧ (vp_in ((mz_wI (mz_wI μ20 p0 11 ((μ20.1 p0 11) + 1)) 9 ((mz_wI μ20 p0 11 ((μ20.1 p0 11) + 1)).1 p0 20 : Int32).toNatClampNeg r6).1 p0 20) 7 ∧ (v_Mo_works C Q (18, [(0, mz_R 16 p0), (1, mz_I r21), (2, mz_I 1)], [], mz_wI (mz_wI (mz_wI μ20 p0 11 ((μ20.1 p0 11) + 1)) 9 ((mz_wI μ20 p0 11 ((μ20.1 p0 11) + 1)).1 p0 20 : Int32).toNatClampNeg r6) 10 ((mz_wI (mz_wI μ20 p0 11 ((μ20.1 p0 11) + 1)) 9 ((mz_wI μ20 p0 11 ((μ20.1 p0 11) + 1)).1 p0 20 : Int32).toNatClampNeg r6).1 p0 20 : Int32).toNatClampNeg 0)))))
                          else
                            (if (r21 : Int32) = (0 : Int32) then
                              (∃ (r29 : Int32) (μ28 : mz_M), C n_Mo_joinsAtom [mz_R 16 p0] (mz_wI (mz_wI μ20 p0 11 ((μ20.1 p0 11) + 1)) p0 20 (((mz_wI μ20 p0 11 ((μ20.1 p0 11) + 1)).1 p0 20) - 1)) (some (mz_I r29)) μ28 ∧
                                (v_Mo_works C Q (18, [(0, mz_R 16 p0), (1, mz_I r29), (2, mz_I 1)], [], μ28)))
                            else
                              (v_Mo_works C Q (18, [(0, mz_R 16 p0), (1, mz_I r21), (2, mz_I 1)], [], mz_wI μ20 p0 11 ((μ20.1 p0 11) + 1)))))))))
                else
                  (∃ (r31 : Int32) (μ30 : mz_M), C n_Mo_makesAtom [mz_R 16 p0] μ5 (some (mz_I r31)) μ30 ∧
                    (v_Mo_works C Q (18, [(0, mz_R 16 p0), (1, mz_I r31), (2, mz_I 0)], [], μ30)))))))))
    else
      (if (x1 : Int32) = (0 : Int32) then
        (∃ (r33 : Int32) (μ32 : mz_M), C n_Mo_joinsSum [mz_R 16 p0] μ (some (mz_I r33)) μ32 ∧
          (Q (some (mz_I r33)) μ32))
      else
        (Q (some (mz_I x1)) μ))) :
  v_Mo_works C Q (18, [(0, mz_R 16 p0), (1, mz_I x1), (2, mz_I x2)], [], μ) := mz_Ev.run [18] 400 h
/-! EtaSeriesModel.work(I)I, number 148 -/
abbrev v_Mo_work (C : mz_Cl) (Q : Option mz_V → mz_M → Prop) : mz_S → Prop := mz_Ev es_SH tb_Mo_work C Q
set_option maxRecDepth 20000 in
set_option maxHeartbeats 4000000 in
theorem w_Mo_work_0 {C : mz_Cl} {Q : Option mz_V → mz_M → Prop} (p0 : Nat) (x1 : Int32) (μ : mz_M) (h :
    ∃ (r2 : Int32) (μ1 : mz_M), C n_Mo_isSeries [mz_I x1] μ (some (mz_I r2)) μ1 ∧
      (if (r2 : Int32) = (0 : Int32) then
        (Q (some (mz_I ((-1000001)))) μ1)
      else
        (∃ (r4 : Int32) (μ3 : mz_M), C n_Mo_isText [mz_R 16 p0] μ1 (some (mz_I r4)) μ3 ∧
          (if (r4 : Int32) = (0 : Int32) then
            (∃ (r6 : Int32) (μ5 : mz_M), C n_Mo_here [mz_R 16 p0] μ3 (some (mz_I r6)) μ5 ∧
              (if (r6 : Int32) = (0 : Int32) then
                (if (1 : Int32) = (0 : Int32) then
                  (Q (some (mz_I (((-1000020)) - (μ5.1 p0 11)))) (mz_wI μ5 p0 10 0))
                else
                  (Q (some (mz_I (((-1000020)) - (μ5.1 p0 10)))) (mz_wI μ5 p0 10 0)))
              else
                (if (0 : Int32) = (0 : Int32) then
                  (Q (some (mz_I (((-1000020)) - (μ5.1 p0 11)))) (mz_wI μ5 p0 10 0))
                else
                  (Q (some (mz_I (((-1000020)) - (μ5.1 p0 10)))) (mz_wI μ5 p0 10 0)))))
          else
            (∃ (r8 : Int32) (μ7 : mz_M), C n_Mo_works [mz_R 16 p0] (mz_wI (mz_wI μ3 p0 12 ((-1000004))) p0 13 ((-1000004))) (some (mz_I r8)) μ7 ∧
              (if (0 : Int32) ≤ (r8 : Int32) then
                (∃ (r10 : Int32) (μ9 : mz_M), C n_Mo_keeps [mz_R 16 p0, mz_I x1] (mz_wI μ7 p0 10 0) (some (mz_I r10)) μ9 ∧
                  (Q (some (mz_I r10)) μ9))
              else
                (Q (some (mz_I r8)) (mz_wI μ7 p0 10 0)))))))) :
  v_Mo_work C Q (0, [(0, mz_R 16 p0), (1, mz_I x1)], [], μ) := mz_Ev.run [] 400 h
/-! EtaSeriesModel.first(II)I, number 149 -/
abbrev v_Mo_first (C : mz_Cl) (Q : Option mz_V → mz_M → Prop) : mz_S → Prop := mz_Ev es_SH tb_Mo_first C Q
set_option maxRecDepth 20000 in
set_option maxHeartbeats 4000000 in
theorem w_Mo_first_0 {C : mz_Cl} {Q : Option mz_V → mz_M → Prop} (p0 : Nat) (x1 : Int32) (x2 : Int32) (μ : mz_M) (h :
    ∃ (r2 : Int32) (μ1 : mz_M), C n_Mo_isSeries [mz_I x1] μ (some (mz_I r2)) μ1 ∧
      (if (r2 : Int32) = (0 : Int32) then
        (Q (some (mz_I ((-1000001)))) μ1)
      else
        (∃ (r4 : Int32) (μ3 : mz_M), C n_Mo_isSeries [mz_I x2] μ1 (some (mz_I r4)) μ3 ∧
          (if (r4 : Int32) = (0 : Int32) then
            (Q (some (mz_I ((-1000001)))) μ3)
          else
            (∃ (r6 : Int32) (μ5 : mz_M), C n_Mo_many [mz_R 16 p0, mz_I x1] μ3 (some (mz_I r6)) μ5 ∧
              (if (r6 : Int32) = (0 : Int32) then
                (Q (some (mz_I ((-1000011)))) μ5)
              else
                (∃ (r8 : Int32) (μ7 : mz_M), C n_Mo_many [mz_R 16 p0, mz_I x2] μ5 (some (mz_I r8)) μ7 ∧
                  (if (r8 : Int32) = (0 : Int32) then
                    (Q (some (mz_I ((-1000011)))) μ7)
                  else
                    (∃ (r10 : Int32) (μ9 : mz_M), C n_Mo_many [mz_R 16 p0, mz_I x1] μ7 (some (mz_I r10)) μ9 ∧
                      (∃ (r12 : Int32) (μ11 : mz_M), C n_Mo_many [mz_R 16 p0, mz_I x2] μ9 (some (mz_I r12)) μ11 ∧
                        (if (r12 : Int32) ≤ (r10 : Int32) then
                          (∃ (r14 : Int32) (μ13 : mz_M), C n_Mo_many [mz_R 16 p0, mz_I x2] μ11 (some (mz_I r14)) μ13 ∧
                            (v_Mo_first C Q (72, [(0, mz_R 16 p0), (1, mz_I x1), (2, mz_I x2), (4, mz_I ((-1000004))), (5, mz_I (r14 - 1))], [], μ13)))
                        else
                          (∃ (r16 : Int32) (μ15 : mz_M), C n_Mo_many [mz_R 16 p0, mz_I x1] μ11 (some (mz_I r16)) μ15 ∧
                            (v_Mo_first C Q (72, [(0, mz_R 16 p0), (1, mz_I x1), (2, mz_I x2), (4, mz_I ((-1000004))), (5, mz_I (r16 - 1))], [], μ15)))))))))))))) :
  v_Mo_first C Q (0, [(0, mz_R 16 p0), (1, mz_I x1), (2, mz_I x2)], [], μ) := mz_Ev.run [72] 400 h
set_option maxRecDepth 20000 in
set_option maxHeartbeats 4000000 in
theorem w_Mo_first_72 {C : mz_Cl} {Q : Option mz_V → mz_M → Prop} (p0 : Nat) (x1 : Int32) (x2 : Int32) (x4 : Int32) (x5 : Int32) (μ : mz_M) (h :
    if (x5 : Int32) < (0 : Int32) then
      (Q (some (mz_I x4)) μ)
    else
      (∃ (r2 : Int32) (μ1 : mz_M), C n_Mo_termOf [mz_R 16 p0, mz_I x1, mz_I x5] μ (some (mz_I r2)) μ1 ∧
        (∃ (r4 : Int32) (μ3 : mz_M), C n_Mo_termOf [mz_R 16 p0, mz_I x2, mz_I x5] μ1 (some (mz_I r4)) μ3 ∧
          (if (r2 : Int32) = (r4 : Int32) then
            (v_Mo_first C Q (72, [(0, mz_R 16 p0), (1, mz_I x1), (2, mz_I x2), (4, mz_I x4), (5, mz_I (x5 + (-1)))], [], μ3))
          else
            (v_Mo_first C Q (72, [(0, mz_R 16 p0), (1, mz_I x1), (2, mz_I x2), (4, mz_I x5), (5, mz_I (x5 + (-1)))], [], μ3)))))) :
  v_Mo_first C Q (72, [(0, mz_R 16 p0), (1, mz_I x1), (2, mz_I x2), (4, mz_I x4), (5, mz_I x5)], [], μ) := mz_Ev.run [72] 400 h
/-! EtaSeriesModel.isStep(II)Z, number 150 -/
abbrev v_Mo_isStep (C : mz_Cl) (Q : Option mz_V → mz_M → Prop) : mz_S → Prop := mz_Ev es_SH tb_Mo_isStep C Q
set_option maxRecDepth 20000 in
set_option maxHeartbeats 4000000 in
theorem w_Mo_isStep_0 {C : mz_Cl} {Q : Option mz_V → mz_M → Prop} (x0 : Int32) (x1 : Int32) (μ : mz_M) (h :
    ∃ (r2 : Int32) (μ1 : mz_M), C n_Mo_in [mz_L ((x0 : Int32).toInt64), mz_L 1, mz_L 8] μ (some (mz_I r2)) μ1 ∧
      (if (r2 : Int32) = (0 : Int32) then
        (((0 : Int32) = 0 ∨ (0 : Int32) = 1) ∧ Q (some (mz_I 0)) μ1)
      else
        (∃ (r4 : Int32) (μ3 : mz_M), C n_Mo_in [mz_L ((x1 : Int32).toInt64), mz_L 0, mz_L ((x0 - 1 : Int32).toInt64)] μ1 (some (mz_I r4)) μ3 ∧
          (if (r4 : Int32) = (0 : Int32) then
            (((0 : Int32) = 0 ∨ (0 : Int32) = 1) ∧ Q (some (mz_I 0)) μ3)
          else
            (((1 : Int32) = 0 ∨ (1 : Int32) = 1) ∧ Q (some (mz_I 1)) μ3))))) :
  v_Mo_isStep C Q (0, [(0, mz_I x0), (1, mz_I x1)], [], μ) := mz_Ev.run [] 400 h
/-! EtaSeriesModel.failsAt(IIII)I, number 151 -/
abbrev v_Mo_failsAt (C : mz_Cl) (Q : Option mz_V → mz_M → Prop) : mz_S → Prop := mz_Ev es_SH tb_Mo_failsAt C Q
set_option maxRecDepth 20000 in
set_option maxHeartbeats 4000000 in
theorem w_Mo_failsAt_0 {C : mz_Cl} {Q : Option mz_V → mz_M → Prop} (p0 : Nat) (x1 : Int32) (x2 : Int32) (x3 : Int32) (x4 : Int32) (μ : mz_M) (h :
    ∃ (r2 : Int32) (μ1 : mz_M), C n_Mo_many [mz_R 16 p0, mz_I x1] μ (some (mz_I r2)) μ1 ∧
      (v_Mo_failsAt C Q (13, [(0, mz_R 16 p0), (1, mz_I x1), (2, mz_I x2), (3, mz_I x3), (4, mz_I x4), (5, mz_I ((-1000004))), (6, mz_I (r2 - 1))], [], μ1))) :
  v_Mo_failsAt C Q (0, [(0, mz_R 16 p0), (1, mz_I x1), (2, mz_I x2), (3, mz_I x3), (4, mz_I x4)], [], μ) := mz_Ev.run [13] 400 h
set_option maxRecDepth 20000 in
set_option maxHeartbeats 4000000 in
theorem w_Mo_failsAt_13 {C : mz_Cl} {Q : Option mz_V → mz_M → Prop} (p0 : Nat) (x1 : Int32) (x2 : Int32) (x3 : Int32) (x4 : Int32) (x5 : Int32) (x6 : Int32) (μ : mz_M) (h :
    if (x6 : Int32) < (0 : Int32) then
      (Q (some (mz_I x5)) μ)
    else
      (¬ (x2 : Int32) = 0 ∧ (if (x6 - x6 / x2 * x2 : Int32) = (x3 : Int32) then
        (∃ (r2 : Int32) (μ1 : mz_M), C n_Mo_termOf [mz_R 16 p0, mz_I x1, mz_I x6] μ (some (mz_I r2)) μ1 ∧
          (¬ (x4 : Int32) = 0 ∧ (if (r2 - r2 / x4 * x4 : Int32) = (0 : Int32) then
            (v_Mo_failsAt C Q (13, [(0, mz_R 16 p0), (1, mz_I x1), (2, mz_I x2), (3, mz_I x3), (4, mz_I x4), (5, mz_I x5), (6, mz_I (x6 + (-1)))], [], μ1))
          else
            (v_Mo_failsAt C Q (13, [(0, mz_R 16 p0), (1, mz_I x1), (2, mz_I x2), (3, mz_I x3), (4, mz_I x4), (5, mz_I x6), (6, mz_I (x6 + (-1)))], [], μ1)))))
      else
        (v_Mo_failsAt C Q (13, [(0, mz_R 16 p0), (1, mz_I x1), (2, mz_I x2), (3, mz_I x3), (4, mz_I x4), (5, mz_I x5), (6, mz_I (x6 + (-1)))], [], μ))))) :
  v_Mo_failsAt C Q (13, [(0, mz_R 16 p0), (1, mz_I x1), (2, mz_I x2), (3, mz_I x3), (4, mz_I x4), (5, mz_I x5), (6, mz_I x6)], [], μ) := mz_Ev.run [13] 400 h
/-! EtaSeriesModel.fits(IIIII)I, number 152 -/
abbrev v_Mo_fits (C : mz_Cl) (Q : Option mz_V → mz_M → Prop) : mz_S → Prop := mz_Ev es_SH tb_Mo_fits C Q
set_option maxRecDepth 20000 in
set_option maxHeartbeats 4000000 in
theorem w_Mo_fits_0 {C : mz_Cl} {Q : Option mz_V → mz_M → Prop} (p0 : Nat) (x1 : Int32) (x2 : Int32) (x3 : Int32) (x4 : Int32) (x5 : Int32) (μ : mz_M) (h :
    ∃ (r2 : Int32) (μ1 : mz_M), C n_Mo_isSeries [mz_I x1] μ (some (mz_I r2)) μ1 ∧
      (if (r2 : Int32) = (0 : Int32) then
        (Q (some (mz_I ((-1000001)))) μ1)
      else
        (∃ (r4 : Int32) (μ3 : mz_M), C n_Mo_isStep [mz_I x2, mz_I x3] μ1 (some (mz_I r4)) μ3 ∧
          (if (r4 : Int32) = (0 : Int32) then
            (Q (some (mz_I ((-1000001)))) μ3)
          else
            (∃ (r6 : Int32) (μ5 : mz_M), C n_Mo_in [mz_L ((x4 : Int32).toInt64), mz_L 2, mz_L 9] μ3 (some (mz_I r6)) μ5 ∧
              (if (r6 : Int32) = (0 : Int32) then
                (Q (some (mz_I ((-1000001)))) μ5)
              else
                (∃ (r8 : Int32) (μ7 : mz_M), C n_Mo_in [mz_L ((x5 : Int32).toInt64), mz_L 0, mz_L 1] μ5 (some (mz_I r8)) μ7 ∧
                  (if (r8 : Int32) = (0 : Int32) then
                    (Q (some (mz_I ((-1000001)))) μ7)
                  else
                    (∃ (r10 : Int32) (μ9 : mz_M), C n_Mo_many [mz_R 16 p0, mz_I x1] μ7 (some (mz_I r10)) μ9 ∧
                      (if (r10 : Int32) = (0 : Int32) then
                        (Q (some (mz_I ((-1000011)))) μ9)
                      else
                        (∃ (r12 : Int32) (μ11 : mz_M), C n_Mo_failsAt [mz_R 16 p0, mz_I x1, mz_I x2, mz_I x3, mz_I x4] μ9 (some (mz_I r12)) μ11 ∧
                          (if (x5 : Int32) = (1 : Int32) then
                            (Q (some (mz_I r12)) μ11)
                          else
                            (if (r12 : Int32) = ((-1000004) : Int32) then
                              (Q (some (mz_I 1)) μ11)
                            else
                              (Q (some (mz_I 0)) μ11)))))))))))))) :
  v_Mo_fits C Q (0, [(0, mz_R 16 p0), (1, mz_I x1), (2, mz_I x2), (3, mz_I x3), (4, mz_I x4), (5, mz_I x5)], [], μ) := mz_Ev.run [] 400 h
/-! EtaSeriesModel.found(III)I, number 153 -/
abbrev v_Mo_found (C : mz_Cl) (Q : Option mz_V → mz_M → Prop) : mz_S → Prop := mz_Ev es_SH tb_Mo_found C Q
set_option maxRecDepth 20000 in
set_option maxHeartbeats 4000000 in
theorem w_Mo_found_0 {C : mz_Cl} {Q : Option mz_V → mz_M → Prop} (p0 : Nat) (x1 : Int32) (x2 : Int32) (x3 : Int32) (μ : mz_M) (h :
    ∃ (r2 : Int32) (μ1 : mz_M), C n_Mo_isSeries [mz_I x1] μ (some (mz_I r2)) μ1 ∧
      (if (r2 : Int32) = (0 : Int32) then
        (Q (some (mz_I ((-1000001)))) μ1)
      else
        (∃ (r4 : Int32) (μ3 : mz_M), C n_Mo_isStep [mz_I x2, mz_I x3] μ1 (some (mz_I r4)) μ3 ∧
          (if (r4 : Int32) = (0 : Int32) then
            (Q (some (mz_I ((-1000001)))) μ3)
          else
            (∃ (r6 : Int32) (μ5 : mz_M), C n_Mo_many [mz_R 16 p0, mz_I x1] μ3 (some (mz_I r6)) μ5 ∧
              (if (r6 : Int32) = (0 : Int32) then
                (Q (some (mz_I ((-1000011)))) μ5)
              else
                (v_Mo_found C Q (32, [(0, mz_R 16 p0), (1, mz_I x1), (2, mz_I x2), (3, mz_I x3), (4, mz_I x2)], [], μ5)))))))) :
  v_Mo_found C Q (0, [(0, mz_R 16 p0), (1, mz_I x1), (2, mz_I x2), (3, mz_I x3)], [], μ) := mz_Ev.run [32, 52, 77] 400 h
set_option maxRecDepth 20000 in
set_option maxHeartbeats 4000000 in
theorem w_Mo_found_32 {C : mz_Cl} {Q : Option mz_V → mz_M → Prop} (p0 : Nat) (x1 : Int32) (x2 : Int32) (x3 : Int32) (x4 : Int32) (μ : mz_M) (h :
    if (9 : Int32) ≤ (x4 : Int32) then
      (Q (some (mz_I ((-1000004)))) μ)
    else
      (if (x4 : Int32) = (x2 : Int32) then
        (v_Mo_found C Q (52, [(0, mz_R 16 p0), (1, mz_I x1), (2, mz_I x2), (3, mz_I x3), (4, mz_I x4), (5, mz_I x3)], [], μ))
      else
        (v_Mo_found C Q (52, [(0, mz_R 16 p0), (1, mz_I x1), (2, mz_I x2), (3, mz_I x3), (4, mz_I x4), (5, mz_I 0)], [], μ)))) :
  v_Mo_found C Q (32, [(0, mz_R 16 p0), (1, mz_I x1), (2, mz_I x2), (3, mz_I x3), (4, mz_I x4)], [], μ) := mz_Ev.run [32, 52, 77] 400 h
set_option maxRecDepth 20000 in
set_option maxHeartbeats 4000000 in
theorem w_Mo_found_52 {C : mz_Cl} {Q : Option mz_V → mz_M → Prop} (p0 : Nat) (x1 : Int32) (x2 : Int32) (x3 : Int32) (x4 : Int32) (x5 : Int32) (μ : mz_M) (h :
    if (x4 : Int32) ≤ (x5 : Int32) then
      (v_Mo_found C Q (32, [(0, mz_R 16 p0), (1, mz_I x1), (2, mz_I x2), (3, mz_I x3), (4, mz_I (x4 + 1))], [], μ))
    else
      (∃ (r2 : Int32) (μ1 : mz_M), C n_Mo_many [mz_R 16 p0, mz_I x1] μ (some (mz_I r2)) μ1 ∧
        (if (r2 : Int32) ≤ (x5 + (2 * x4) : Int32) then
          (v_Mo_found C Q (32, [(0, mz_R 16 p0), (1, mz_I x1), (2, mz_I x2), (3, mz_I x3), (4, mz_I (x4 + 1))], [], μ1))
        else
          (v_Mo_found C Q (77, [(0, mz_R 16 p0), (1, mz_I x1), (2, mz_I x2), (3, mz_I x3), (4, mz_I x4), (5, mz_I x5), (6, mz_I 2)], [], μ1))))) :
  v_Mo_found C Q (52, [(0, mz_R 16 p0), (1, mz_I x1), (2, mz_I x2), (3, mz_I x3), (4, mz_I x4), (5, mz_I x5)], [], μ) := mz_Ev.run [32, 52, 77] 400 h
set_option maxRecDepth 20000 in
set_option maxHeartbeats 4000000 in
theorem w_Mo_found_77 {C : mz_Cl} {Q : Option mz_V → mz_M → Prop} (p0 : Nat) (x1 : Int32) (x2 : Int32) (x3 : Int32) (x4 : Int32) (x5 : Int32) (x6 : Int32) (μ : mz_M) (h :
    if (10 : Int32) ≤ (x6 : Int32) then
      (v_Mo_found C Q (52, [(0, mz_R 16 p0), (1, mz_I x1), (2, mz_I x2), (3, mz_I x3), (4, mz_I x4), (5, mz_I (x5 + 1))], [], μ))
    else
      (∃ (r2 : Int32) (μ1 : mz_M), C n_Mo_failsAt [mz_R 16 p0, mz_I x1, mz_I x4, mz_I x5, mz_I x6] μ (some (mz_I r2)) μ1 ∧
        (if (r2 : Int32) = ((-1000004) : Int32) then
          (Q (some (mz_I (((1000 * x4) + (100 * x5)) + x6))) μ1)
        else
          (v_Mo_found C Q (77, [(0, mz_R 16 p0), (1, mz_I x1), (2, mz_I x2), (3, mz_I x3), (4, mz_I x4), (5, mz_I x5), (6, mz_I (x6 + 1))], [], μ1))))) :
  v_Mo_found C Q (77, [(0, mz_R 16 p0), (1, mz_I x1), (2, mz_I x2), (3, mz_I x3), (4, mz_I x4), (5, mz_I x5), (6, mz_I x6)], [], μ) := mz_Ev.run [32, 52, 77] 400 h
/-! EtaSeriesModel.guess(IIII)I, number 154 -/
abbrev v_Mo_guess (C : mz_Cl) (Q : Option mz_V → mz_M → Prop) : mz_S → Prop := mz_Ev es_SH tb_Mo_guess C Q
set_option maxRecDepth 20000 in
set_option maxHeartbeats 4000000 in
theorem w_Mo_guess_0 {C : mz_Cl} {Q : Option mz_V → mz_M → Prop} (p0 : Nat) (x1 : Int32) (x2 : Int32) (x3 : Int32) (x4 : Int32) (μ : mz_M) (h :
    ∃ (r2 : Int32) (μ1 : mz_M), C n_Mo_isSeries [mz_I x1] μ (some (mz_I r2)) μ1 ∧
      (if (r2 : Int32) = (0 : Int32) then
        (Q (some (mz_I ((-1000001)))) μ1)
      else
        (∃ (r4 : Int32) (μ3 : mz_M), C n_Mo_in [mz_L ((x2 : Int32).toInt64), mz_L 0, mz_L 6] μ1 (some (mz_I r4)) μ3 ∧
          (if (r4 : Int32) = (0 : Int32) then
            (Q (some (mz_I ((-1000001)))) μ3)
          else
            (∃ (r6 : Int32) (μ5 : mz_M), C n_Mo_in [mz_L ((x3 : Int32).toInt64), mz_L 0, mz_L 10] μ3 (some (mz_I r6)) μ5 ∧
              (if (r6 : Int32) = (0 : Int32) then
                (Q (some (mz_I ((-1000001)))) μ5)
              else
                (∃ (r8 : Int32) (μ7 : mz_M), C n_Mo_in [mz_L ((x4 : Int32).toInt64), mz_L 0, mz_L 1] μ5 (some (mz_I r8)) μ7 ∧
                  (if (r8 : Int32) = (0 : Int32) then
                    (Q (some (mz_I ((-1000001)))) μ7)
                  else
                    (∃ (r10 : Int32) (μ9 : mz_M), C n_Mo_many [mz_R 16 p0, mz_I x1] μ7 (some (mz_I r10)) μ9 ∧
                      (if (r10 : Int32) = (0 : Int32) then
                        (Q (some (mz_I ((-1000011)))) μ9)
                      else
                        (∃ (r12 : Int32) (μ11 : mz_M), C n_Mo_many [mz_R 16 p0, mz_I x1] μ9 (some (mz_I r12)) μ11 ∧
                          (if (x2 : Int32) ≤ (r12 : Int32) then
                            (v_Mo_guess C Q (77, [(0, mz_R 16 p0), (1, mz_I x1), (2, mz_I x2), (3, mz_I x3), (4, mz_I x4), (5, mz_I 1), (6, mz_I 1), (7, mz_I 0)], [], μ11))
                          else
                            (Q (some (mz_I ((-1000001)))) μ11))))))))))))) :
  v_Mo_guess C Q (0, [(0, mz_R 16 p0), (1, mz_I x1), (2, mz_I x2), (3, mz_I x3), (4, mz_I x4)], [], μ) := mz_Ev.run [77, 129] 400 h
set_option maxRecDepth 20000 in
set_option maxHeartbeats 4000000 in
theorem w_Mo_guess_77 {C : mz_Cl} {Q : Option mz_V → mz_M → Prop} (p0 : Nat) (x1 : Int32) (x2 : Int32) (x3 : Int32) (x4 : Int32) (x5 : Int32) (x6 : Int32) (x7 : Int32) (μ : mz_M) (h :
    if (x2 : Int32) ≤ (x7 : Int32) then
      (v_Mo_guess C Q (129, [(4, mz_I x4), (5, mz_I x5), (6, mz_I x6), (7, mz_I x5), (8, mz_I x6)], [], μ))
    else
      (∃ (r2 : Int32) (μ1 : mz_M), C n_Mo_termOf [mz_R 16 p0, mz_I x1, mz_I x7] μ (some (mz_I r2)) μ1 ∧
        (¬ (2 : Int32) = 0 ∧ (if (r2 - r2 / 2 * 2 : Int32) = (0 : Int32) then
          (v_Mo_guess C Q (77, [(0, mz_R 16 p0), (1, mz_I x1), (2, mz_I x2), (3, mz_I x3), (4, mz_I x4), (5, mz_I (x5 * (10 - x3))), (6, mz_I (x6 * 10)), (7, mz_I (x7 + 1))], [], μ1))
        else
          (v_Mo_guess C Q (77, [(0, mz_R 16 p0), (1, mz_I x1), (2, mz_I x2), (3, mz_I x3), (4, mz_I x4), (5, mz_I (x5 * x3)), (6, mz_I (x6 * 10)), (7, mz_I (x7 + 1))], [], μ1)))))) :
  v_Mo_guess C Q (77, [(0, mz_R 16 p0), (1, mz_I x1), (2, mz_I x2), (3, mz_I x3), (4, mz_I x4), (5, mz_I x5), (6, mz_I x6), (7, mz_I x7)], [], μ) := mz_Ev.run [77, 129] 400 h
set_option maxRecDepth 20000 in
set_option maxHeartbeats 4000000 in
theorem w_Mo_guess_129 {C : mz_Cl} {Q : Option mz_V → mz_M → Prop} (x4 : Int32) (x5 : Int32) (x6 : Int32) (x7 : Int32) (x8 : Int32) (μ : mz_M) (h :
    if (x8 : Int32) = (0 : Int32) then
      (if (x4 : Int32) = (0 : Int32) then
        (¬ (x7 : Int32) = 0 ∧ (Q (some (mz_I (x5 / x7))) μ))
      else
        (¬ (x7 : Int32) = 0 ∧ (Q (some (mz_I (x6 / x7))) μ)))
    else
      (¬ (x8 : Int32) = 0 ∧ (v_Mo_guess C Q (129, [(4, mz_I x4), (5, mz_I x5), (6, mz_I x6), (7, mz_I x8), (8, mz_I (x7 - x7 / x8 * x8))], [], μ)))) :
  v_Mo_guess C Q (129, [(4, mz_I x4), (5, mz_I x5), (6, mz_I x6), (7, mz_I x7), (8, mz_I x8)], [], μ) := mz_Ev.run [77, 129] 400 h
/-! EtaSeriesModel.image()I, number 155 -/
abbrev v_Mo_image (C : mz_Cl) (Q : Option mz_V → mz_M → Prop) : mz_S → Prop := mz_Ev es_SH tb_Mo_image C Q
set_option maxRecDepth 20000 in
set_option maxHeartbeats 4000000 in
theorem w_Mo_image_0 {C : mz_Cl} {Q : Option mz_V → mz_M → Prop} (p0 : Nat) (μ : mz_M) (h :
    v_Mo_image C Q (2, [(0, mz_R 16 p0), (1, mz_I 0)], [], μ)) :
  v_Mo_image C Q (0, [(0, mz_R 16 p0)], [], μ) := mz_Ev.run [2, 29] 400 h
set_option maxRecDepth 20000 in
set_option maxHeartbeats 4000000 in
theorem w_Mo_image_2 {C : mz_Cl} {Q : Option mz_V → mz_M → Prop} (p0 : Nat) (x1 : Int32) (μ : mz_M) (h :
    if (166 : Int32) ≤ (x1 : Int32) then
      (v_Mo_image C Q (29, [(0, mz_R 16 p0), (1, mz_I 0)], [], μ))
    else
      (vp_in x1 166 ∧ (vp_in x1 166 ∧ (v_Mo_image C Q (2, [(0, mz_R 16 p0), (1, mz_I (x1 + 1))], [], mz_wI μ 11 (x1 : Int32).toNatClampNeg (μ.1 1 (x1 : Int32).toNatClampNeg)))))) :
  v_Mo_image C Q (2, [(0, mz_R 16 p0), (1, mz_I x1)], [], μ) := mz_Ev.run [2, 29] 400 h
set_option maxRecDepth 20000 in
set_option maxHeartbeats 4000000 in
theorem w_Mo_image_29 {C : mz_Cl} {Q : Option mz_V → mz_M → Prop} (p0 : Nat) (x1 : Int32) (μ : mz_M) (h :
    if (996 : Int32) ≤ (x1 : Int32) then
      (Q (some (mz_I 1)) (mz_wI μ p0 23 (μ.1 p0 8)))
    else
      (vp_in x1 996 ∧ (vp_in x1 996 ∧ (v_Mo_image C Q (29, [(0, mz_R 16 p0), (1, mz_I (x1 + 1))], [], mz_wI μ 12 (x1 : Int32).toNatClampNeg (μ.1 5 (x1 : Int32).toNatClampNeg)))))) :
  v_Mo_image C Q (29, [(0, mz_R 16 p0), (1, mz_I x1)], [], μ) := mz_Ev.run [2, 29] 400 h
/-! EtaSeriesModel.restore()I, number 156 -/
abbrev v_Mo_restore (C : mz_Cl) (Q : Option mz_V → mz_M → Prop) : mz_S → Prop := mz_Ev es_SH tb_Mo_restore C Q
set_option maxRecDepth 20000 in
set_option maxHeartbeats 4000000 in
theorem w_Mo_restore_0 {C : mz_Cl} {Q : Option mz_V → mz_M → Prop} (p0 : Nat) (μ : mz_M) (h :
    if (0 : Int32) ≤ (μ.1 p0 23 : Int32) then
      (v_Mo_restore C Q (12, [(0, mz_R 16 p0), (1, mz_I 0)], [], μ))
    else
      (Q (some (mz_I ((-1000004)))) μ)) :
  v_Mo_restore C Q (0, [(0, mz_R 16 p0)], [], μ) := mz_Ev.run [12, 39] 400 h
set_option maxRecDepth 20000 in
set_option maxHeartbeats 4000000 in
theorem w_Mo_restore_12 {C : mz_Cl} {Q : Option mz_V → mz_M → Prop} (p0 : Nat) (x1 : Int32) (μ : mz_M) (h :
    if (166 : Int32) ≤ (x1 : Int32) then
      (v_Mo_restore C Q (39, [(0, mz_R 16 p0), (1, mz_I 0)], [], μ))
    else
      (vp_in x1 166 ∧ (vp_in x1 166 ∧ (v_Mo_restore C Q (12, [(0, mz_R 16 p0), (1, mz_I (x1 + 1))], [], mz_wI μ 1 (x1 : Int32).toNatClampNeg (μ.1 11 (x1 : Int32).toNatClampNeg)))))) :
  v_Mo_restore C Q (12, [(0, mz_R 16 p0), (1, mz_I x1)], [], μ) := mz_Ev.run [12, 39] 400 h
set_option maxRecDepth 20000 in
set_option maxHeartbeats 4000000 in
theorem w_Mo_restore_39 {C : mz_Cl} {Q : Option mz_V → mz_M → Prop} (p0 : Nat) (x1 : Int32) (μ : mz_M) (h :
    if (996 : Int32) ≤ (x1 : Int32) then
      (Q (some (mz_I 1)) (mz_wI μ p0 8 (μ.1 p0 23)))
    else
      (vp_in x1 996 ∧ (vp_in x1 996 ∧ (v_Mo_restore C Q (39, [(0, mz_R 16 p0), (1, mz_I (x1 + 1))], [], mz_wI μ 5 (x1 : Int32).toNatClampNeg (μ.1 12 (x1 : Int32).toNatClampNeg)))))) :
  v_Mo_restore C Q (39, [(0, mz_R 16 p0), (1, mz_I x1)], [], μ) := mz_Ev.run [12, 39] 400 h
/-! EtaSeriesModel.isSheet(I)Z, number 157 -/
abbrev v_Mo_isSheet (C : mz_Cl) (Q : Option mz_V → mz_M → Prop) : mz_S → Prop := mz_Ev es_SH tb_Mo_isSheet C Q
set_option maxRecDepth 20000 in
set_option maxHeartbeats 4000000 in
theorem w_Mo_isSheet_0 {C : mz_Cl} {Q : Option mz_V → mz_M → Prop} (x0 : Int32) (μ : mz_M) (h :
    ∃ (r2 : Int32) (μ1 : mz_M), C n_Mo_in [mz_L ((x0 : Int32).toInt64), mz_L 0, mz_L 3] μ (some (mz_I r2)) μ1 ∧
      (((r2 : Int32) = 0 ∨ (r2 : Int32) = 1) ∧ Q (some (mz_I r2)) μ1)) :
  v_Mo_isSheet C Q (0, [(0, mz_I x0)], [], μ) := mz_Ev.run [] 400 h
/-! EtaSeriesModel.cut(JI)J, number 158 -/
abbrev v_Mo_cut (C : mz_Cl) (Q : Option mz_V → mz_M → Prop) : mz_S → Prop := mz_Ev es_SH tb_Mo_cut C Q
set_option maxRecDepth 20000 in
set_option maxHeartbeats 4000000 in
theorem w_Mo_cut_0 {C : mz_Cl} {Q : Option mz_V → mz_M → Prop} (y0 : Int64) (x2 : Int32) (μ : mz_M) (h :
    if (x2 : Int32) = (0 : Int32) then
      (Q (some (mz_L ((((y0 : Int64).toInt32 : Int32).toInt8.toInt32 : Int32).toInt64))) μ)
    else
      (if (x2 : Int32) = (1 : Int32) then
        (Q (some (mz_L ((((y0 : Int64).toInt32 : Int32).toInt16.toInt32 : Int32).toInt64))) μ)
      else
        (if (x2 : Int32) = (2 : Int32) then
          (Q (some (mz_L (((y0 : Int64).toInt32 : Int32).toInt64))) μ)
        else
          (Q (some (mz_L y0)) μ)))) :
  v_Mo_cut C Q (0, [(0, mz_L y0), (2, mz_I x2)], [], μ) := mz_Ev.run [] 400 h
/-! EtaSeriesModel.sheet(III)I, number 159 -/
abbrev v_Mo_sheet (C : mz_Cl) (Q : Option mz_V → mz_M → Prop) : mz_S → Prop := mz_Ev es_SH tb_Mo_sheet C Q
set_option maxRecDepth 20000 in
set_option maxHeartbeats 4000000 in
theorem w_Mo_sheet_0 {C : mz_Cl} {Q : Option mz_V → mz_M → Prop} (p0 : Nat) (x1 : Int32) (x2 : Int32) (x3 : Int32) (μ : mz_M) (h :
    ∃ (r2 : Int32) (μ1 : mz_M), C n_Mo_isSheet [mz_I x1] μ (some (mz_I r2)) μ1 ∧
      (if (r2 : Int32) = (0 : Int32) then
        (Q (some (mz_I ((-1000001)))) μ1)
      else
        (∃ (r4 : Int32) (μ3 : mz_M), C n_Mo_in [mz_L ((x2 : Int32).toInt64), mz_L 0, mz_L 3] μ1 (some (mz_I r4)) μ3 ∧
          (if (r4 : Int32) = (0 : Int32) then
            (Q (some (mz_I ((-1000001)))) μ3)
          else
            (if (x3 : Int32) ≤ (40 : Int32) then
              (if (0 : Int32) ≤ (x3 : Int32) then
                (vp_in x1 4 ∧ (vp_in x1 4 ∧ (v_Mo_sheet C Q (53, [(0, mz_R 16 p0), (1, mz_I x1), (3, mz_I x3), (4, mz_I 0)], [], mz_wI (mz_wI μ3 13 (x1 : Int32).toNatClampNeg x2) 14 (x1 : Int32).toNatClampNeg x3))))
              else
                (Q (some (mz_I ((-1000014)))) μ3))
            else
              (Q (some (mz_I ((-1000001)))) μ3)))))) :
  v_Mo_sheet C Q (0, [(0, mz_R 16 p0), (1, mz_I x1), (2, mz_I x2), (3, mz_I x3)], [], μ) := mz_Ev.run [53] 400 h
set_option maxRecDepth 20000 in
set_option maxHeartbeats 4000000 in
theorem w_Mo_sheet_53 {C : mz_Cl} {Q : Option mz_V → mz_M → Prop} (p0 : Nat) (x1 : Int32) (x3 : Int32) (x4 : Int32) (μ : mz_M) (h :
    if (40 : Int32) ≤ (x4 : Int32) then
      (Q (some (mz_I x3)) μ)
    else
      (vp_in ((40 * x1) + x4) 160 ∧ (v_Mo_sheet C Q (53, [(0, mz_R 16 p0), (1, mz_I x1), (3, mz_I x3), (4, mz_I (x4 + 1))], [], mz_wL μ 15 ((40 * x1) + x4 : Int32).toNatClampNeg 0)))) :
  v_Mo_sheet C Q (53, [(0, mz_R 16 p0), (1, mz_I x1), (3, mz_I x3), (4, mz_I x4)], [], μ) := mz_Ev.run [53] 400 h
/-! EtaSeriesModel.drop(I)I, number 160 -/
abbrev v_Mo_drop (C : mz_Cl) (Q : Option mz_V → mz_M → Prop) : mz_S → Prop := mz_Ev es_SH tb_Mo_drop C Q
set_option maxRecDepth 20000 in
set_option maxHeartbeats 4000000 in
theorem w_Mo_drop_0 {C : mz_Cl} {Q : Option mz_V → mz_M → Prop} (p0 : Nat) (x1 : Int32) (μ : mz_M) (h :
    ∃ (r2 : Int32) (μ1 : mz_M), C n_Mo_isSheet [mz_I x1] μ (some (mz_I r2)) μ1 ∧
      (if (r2 : Int32) = (0 : Int32) then
        (Q (some (mz_I ((-1000001)))) μ1)
      else
        (vp_in x1 4 ∧ (if (0 : Int32) ≤ (μ1.1 13 (x1 : Int32).toNatClampNeg : Int32) then
          (vp_in x1 4 ∧ (vp_in x1 4 ∧ (Q (some (mz_I ((mz_wI μ1 13 (x1 : Int32).toNatClampNeg ((-1))).1 14 (x1 : Int32).toNatClampNeg))) (mz_wI μ1 13 (x1 : Int32).toNatClampNeg ((-1))))))
        else
          (Q (some (mz_I ((-1000011)))) μ1))))) :
  v_Mo_drop C Q (0, [(0, mz_R 16 p0), (1, mz_I x1)], [], μ) := mz_Ev.run [] 400 h
/-! EtaSeriesModel.why(IIII)I, number 161 -/
abbrev v_Mo_why (C : mz_Cl) (Q : Option mz_V → mz_M → Prop) : mz_S → Prop := mz_Ev es_SH tb_Mo_why C Q
set_option maxRecDepth 20000 in
set_option maxHeartbeats 4000000 in
theorem w_Mo_why_0 {C : mz_Cl} {Q : Option mz_V → mz_M → Prop} (p0 : Nat) (x1 : Int32) (x2 : Int32) (x3 : Int32) (x4 : Int32) (μ : mz_M) (h :
    vp_in x1 4 ∧ (if (0 : Int32) ≤ (μ.1 13 (x1 : Int32).toNatClampNeg : Int32) then
      (vp_in x1 4 ∧ (if (μ.1 13 (x1 : Int32).toNatClampNeg : Int32) = (x2 : Int32) then
        (if (x3 : Int32) < (0 : Int32) then
          (Q (some (mz_I ((-1000013)))) μ)
        else
          (vp_in x1 4 ∧ (if (x4 : Int32) ≤ ((μ.1 14 (x1 : Int32).toNatClampNeg) - x3 : Int32) then
            (Q (some (mz_I 0)) μ)
          else
            (Q (some (mz_I ((-1000013)))) μ))))
      else
        (Q (some (mz_I ((-1000012)))) μ)))
    else
      (Q (some (mz_I ((-1000011)))) μ))) :
  v_Mo_why C Q (0, [(0, mz_R 16 p0), (1, mz_I x1), (2, mz_I x2), (3, mz_I x3), (4, mz_I x4)], [], μ) := mz_Ev.run [] 400 h
/-! EtaSeriesModel.item(IIIJ)I, number 162 -/
abbrev v_Mo_item (C : mz_Cl) (Q : Option mz_V → mz_M → Prop) : mz_S → Prop := mz_Ev es_SH tb_Mo_item C Q
set_option maxRecDepth 20000 in
set_option maxHeartbeats 4000000 in
theorem w_Mo_item_0 {C : mz_Cl} {Q : Option mz_V → mz_M → Prop} (p0 : Nat) (x1 : Int32) (x2 : Int32) (x3 : Int32) (y4 : Int64) (μ : mz_M) (h :
    ∃ (r2 : Int32) (μ1 : mz_M), C n_Mo_isSheet [mz_I x1] μ (some (mz_I r2)) μ1 ∧
      (if (r2 : Int32) = (0 : Int32) then
        (Q (some (mz_I ((-1000001)))) μ1)
      else
        (∃ (r4 : Int32) (μ3 : mz_M), C n_Mo_in [mz_L ((x2 : Int32).toInt64), mz_L 0, mz_L 3] μ1 (some (mz_I r4)) μ3 ∧
          (if (r4 : Int32) = (0 : Int32) then
            (Q (some (mz_I ((-1000001)))) μ3)
          else
            (∃ (r6 : Int32) (μ5 : mz_M), C n_Mo_why [mz_R 16 p0, mz_I x1, mz_I x2, mz_I x3, mz_I 1] μ3 (some (mz_I r6)) μ5 ∧
              (if (0 : Int32) ≤ (r6 : Int32) then
                (∃ (r8 : Int64) (μ7 : mz_M), C n_Mo_cut [mz_L y4, mz_I x2] μ5 (some (mz_L r8)) μ7 ∧
                  (vp_in ((40 * x1) + x3) 160 ∧ (Q (some (mz_I 1)) (mz_wL μ7 15 ((40 * x1) + x3 : Int32).toNatClampNeg r8))))
              else
                (Q (some (mz_I r6)) μ5))))))) :
  v_Mo_item C Q (0, [(0, mz_R 16 p0), (1, mz_I x1), (2, mz_I x2), (3, mz_I x3), (4, mz_L y4)], [], μ) := mz_Ev.run [] 400 h
/-! EtaSeriesModel.copy(IIIII)I, number 163 -/
abbrev v_Mo_copy (C : mz_Cl) (Q : Option mz_V → mz_M → Prop) : mz_S → Prop := mz_Ev es_SH tb_Mo_copy C Q
set_option maxRecDepth 20000 in
set_option maxHeartbeats 4000000 in
theorem w_Mo_copy_0 {C : mz_Cl} {Q : Option mz_V → mz_M → Prop} (p0 : Nat) (x1 : Int32) (x2 : Int32) (x3 : Int32) (x4 : Int32) (x5 : Int32) (μ : mz_M) (h :
    ∃ (r2 : Int32) (μ1 : mz_M), C n_Mo_isSheet [mz_I x1] μ (some (mz_I r2)) μ1 ∧
      (if (r2 : Int32) = (0 : Int32) then
        (Q (some (mz_I ((-1000001)))) μ1)
      else
        (∃ (r4 : Int32) (μ3 : mz_M), C n_Mo_isSheet [mz_I x3] μ1 (some (mz_I r4)) μ3 ∧
          (if (r4 : Int32) = (0 : Int32) then
            (Q (some (mz_I ((-1000001)))) μ3)
          else
            (vp_in x1 4 ∧ (if (μ3.1 13 (x1 : Int32).toNatClampNeg : Int32) < (0 : Int32) then
              (Q (some (mz_I ((-1000011)))) μ3)
            else
              (vp_in x3 4 ∧ (if (0 : Int32) ≤ (μ3.1 13 (x3 : Int32).toNatClampNeg : Int32) then
                (vp_in x1 4 ∧ (vp_in x3 4 ∧ (if (μ3.1 13 (x1 : Int32).toNatClampNeg : Int32) = (μ3.1 13 (x3 : Int32).toNatClampNeg : Int32) then
                  (if (x5 : Int32) < (0 : Int32) then
                    (Q (some (mz_I ((-1000013)))) μ3)
                  else
                    (if (x2 : Int32) < (0 : Int32) then
                      (Q (some (mz_I ((-1000013)))) μ3)
                    else
                      (if (x4 : Int32) < (0 : Int32) then
                        (Q (some (mz_I ((-1000013)))) μ3)
                      else
                        (vp_in x1 4 ∧ (if (0 : Int32) < (lg_cmp (((x2 : Int32).toInt64) + ((x5 : Int32).toInt64)) ((μ3.1 14 (x1 : Int32).toNatClampNeg : Int32).toInt64) : Int32) then
                          (Q (some (mz_I ((-1000013)))) μ3)
                        else
                          (vp_in x3 4 ∧ (if (lg_cmp (((x4 : Int32).toInt64) + ((x5 : Int32).toInt64)) ((μ3.1 14 (x3 : Int32).toNatClampNeg : Int32).toInt64) : Int32) ≤ (0 : Int32) then
                            (v_Mo_copy C Q (113, [(0, mz_R 16 p0), (1, mz_I x1), (2, mz_I x2), (3, mz_I x3), (4, mz_I x4), (5, mz_I x5), (6, mz_I 0)], [], μ3))
                          else
                            (Q (some (mz_I ((-1000013)))) μ3))))))))
                else
                  (Q (some (mz_I ((-1000012)))) μ3))))
              else
                (Q (some (mz_I ((-1000011)))) μ3))))))))) :
  v_Mo_copy C Q (0, [(0, mz_R 16 p0), (1, mz_I x1), (2, mz_I x2), (3, mz_I x3), (4, mz_I x4), (5, mz_I x5)], [], μ) := mz_Ev.run [113, 150] 400 h
set_option maxRecDepth 20000 in
set_option maxHeartbeats 4000000 in
theorem w_Mo_copy_113 {C : mz_Cl} {Q : Option mz_V → mz_M → Prop} (p0 : Nat) (x1 : Int32) (x2 : Int32) (x3 : Int32) (x4 : Int32) (x5 : Int32) (x6 : Int32) (μ : mz_M) (h :
    if (x5 : Int32) ≤ (x6 : Int32) then
      (v_Mo_copy C Q (150, [(0, mz_R 16 p0), (3, mz_I x3), (4, mz_I x4), (5, mz_I x5), (6, mz_I 0)], [], μ))
    else
      (vp_in (((40 * x1) + x2) + x6) 160 ∧ (vp_in x6 40 ∧ (v_Mo_copy C Q (113, [(0, mz_R 16 p0), (1, mz_I x1), (2, mz_I x2), (3, mz_I x3), (4, mz_I x4), (5, mz_I x5), (6, mz_I (x6 + 1))], [], mz_wL μ 16 (x6 : Int32).toNatClampNeg (μ.2 15 (((40 * x1) + x2) + x6 : Int32).toNatClampNeg)))))) :
  v_Mo_copy C Q (113, [(0, mz_R 16 p0), (1, mz_I x1), (2, mz_I x2), (3, mz_I x3), (4, mz_I x4), (5, mz_I x5), (6, mz_I x6)], [], μ) := mz_Ev.run [113, 150] 400 h
set_option maxRecDepth 20000 in
set_option maxHeartbeats 4000000 in
theorem w_Mo_copy_150 {C : mz_Cl} {Q : Option mz_V → mz_M → Prop} (p0 : Nat) (x3 : Int32) (x4 : Int32) (x5 : Int32) (x6 : Int32) (μ : mz_M) (h :
    if (x5 : Int32) ≤ (x6 : Int32) then
      (Q (some (mz_I x5)) μ)
    else
      (vp_in x6 40 ∧ (vp_in (((40 * x3) + x4) + x6) 160 ∧ (v_Mo_copy C Q (150, [(0, mz_R 16 p0), (3, mz_I x3), (4, mz_I x4), (5, mz_I x5), (6, mz_I (x6 + 1))], [], mz_wL μ 15 (((40 * x3) + x4) + x6 : Int32).toNatClampNeg (μ.2 16 (x6 : Int32).toNatClampNeg)))))) :
  v_Mo_copy C Q (150, [(0, mz_R 16 p0), (3, mz_I x3), (4, mz_I x4), (5, mz_I x5), (6, mz_I x6)], [], μ) := mz_Ev.run [113, 150] 400 h
/-! EtaSeriesModel.whyPairs(IIII)I, number 164 -/
abbrev v_Mo_whyPairs (C : mz_Cl) (Q : Option mz_V → mz_M → Prop) : mz_S → Prop := mz_Ev es_SH tb_Mo_whyPairs C Q
set_option maxRecDepth 20000 in
set_option maxHeartbeats 4000000 in
theorem w_Mo_whyPairs_0 {C : mz_Cl} {Q : Option mz_V → mz_M → Prop} (p0 : Nat) (x1 : Int32) (x2 : Int32) (x3 : Int32) (x4 : Int32) (μ : mz_M) (h :
    ∃ (r2 : Int32) (μ1 : mz_M), C n_Mo_why [mz_R 16 p0, mz_I x1, mz_I x2, mz_I x3, mz_I (2 * x4)] μ (some (mz_I r2)) μ1 ∧
      (v_Mo_whyPairs C Q (16, [(0, mz_R 16 p0), (1, mz_I x1), (3, mz_I x3), (4, mz_I x4), (5, mz_I r2), (6, mz_I 0)], [], μ1))) :
  v_Mo_whyPairs C Q (0, [(0, mz_R 16 p0), (1, mz_I x1), (2, mz_I x2), (3, mz_I x3), (4, mz_I x4)], [], μ) := mz_Ev.run [16] 400 h
set_option maxRecDepth 20000 in
set_option maxHeartbeats 4000000 in
theorem w_Mo_whyPairs_16 {C : mz_Cl} {Q : Option mz_V → mz_M → Prop} (p0 : Nat) (x1 : Int32) (x3 : Int32) (x4 : Int32) (x5 : Int32) (x6 : Int32) (μ : mz_M) (h :
    if (x4 : Int32) ≤ (x6 : Int32) then
      (Q (some (mz_I x5)) μ)
    else
      (if (x5 : Int32) = (0 : Int32) then
        (vp_in (((40 * x1) + x3) + (2 * x6)) 160 ∧ (∃ (r2 : Int32) (μ1 : mz_M), C n_Mo_in [mz_L (μ.2 15 (((40 * x1) + x3) + (2 * x6) : Int32).toNatClampNeg), mz_L 1, mz_L 12] μ (some (mz_I r2)) μ1 ∧
          (if (r2 : Int32) = (0 : Int32) then
            (v_Mo_whyPairs C Q (16, [(0, mz_R 16 p0), (1, mz_I x1), (3, mz_I x3), (4, mz_I x4), (5, mz_I ((-1000002))), (6, mz_I (x6 + 1))], [], μ1))
          else
            (vp_in ((((40 * x1) + x3) + (2 * x6)) + 1) 160 ∧ (∃ (r4 : Int32) (μ3 : mz_M), C n_Mo_in [mz_L (μ1.2 15 ((((40 * x1) + x3) + (2 * x6)) + 1 : Int32).toNatClampNeg), mz_L ((-9)), mz_L 9] μ1 (some (mz_I r4)) μ3 ∧
              (if (r4 : Int32) = (0 : Int32) then
                (v_Mo_whyPairs C Q (16, [(0, mz_R 16 p0), (1, mz_I x1), (3, mz_I x3), (4, mz_I x4), (5, mz_I ((-1000002))), (6, mz_I (x6 + 1))], [], μ3))
              else
                (v_Mo_whyPairs C Q (16, [(0, mz_R 16 p0), (1, mz_I x1), (3, mz_I x3), (4, mz_I x4), (5, mz_I 0), (6, mz_I (x6 + 1))], [], μ3))))))))
      else
        (Q (some (mz_I x5)) μ))) :
  v_Mo_whyPairs C Q (16, [(0, mz_R 16 p0), (1, mz_I x1), (3, mz_I x3), (4, mz_I x4), (5, mz_I x5), (6, mz_I x6)], [], μ) := mz_Ev.run [16] 400 h
/-! EtaSeriesModel.levelOf(II)I, number 165 -/
abbrev v_Mo_levelOf (C : mz_Cl) (Q : Option mz_V → mz_M → Prop) : mz_S → Prop := mz_Ev es_SH tb_Mo_levelOf C Q
set_option maxRecDepth 20000 in
set_option maxHeartbeats 4000000 in
theorem w_Mo_levelOf_0 {C : mz_Cl} {Q : Option mz_V → mz_M → Prop} (p0 : Nat) (x1 : Int32) (x2 : Int32) (μ : mz_M) (h :
    v_Mo_levelOf C Q (2, [(0, mz_R 16 p0), (1, mz_I x1), (2, mz_I x2), (3, mz_I 1)], [], μ)) :
  v_Mo_levelOf C Q (0, [(0, mz_R 16 p0), (1, mz_I x1), (2, mz_I x2)], [], μ) := mz_Ev.run [2, 21] 400 h
set_option maxRecDepth 20000 in
set_option maxHeartbeats 4000000 in
theorem w_Mo_levelOf_2 {C : mz_Cl} {Q : Option mz_V → mz_M → Prop} (p0 : Nat) (x1 : Int32) (x2 : Int32) (x3 : Int32) (μ : mz_M) (h :
    if (600 : Int32) < (x3 : Int32) then
      (Q (some (mz_I ((-1000004)))) μ)
    else
      (v_Mo_levelOf C Q (21, [(0, mz_R 16 p0), (1, mz_I x1), (2, mz_I x2), (3, mz_I x3), (4, mz_L 0), (6, mz_L 0), (8, mz_I 1), (9, mz_I 0)], [], μ))) :
  v_Mo_levelOf C Q (2, [(0, mz_R 16 p0), (1, mz_I x1), (2, mz_I x2), (3, mz_I x3)], [], μ) := mz_Ev.run [2, 21] 400 h
set_option maxRecDepth 20000 in
set_option maxHeartbeats 4000000 in
theorem w_Mo_levelOf_21 {C : mz_Cl} {Q : Option mz_V → mz_M → Prop} (p0 : Nat) (x1 : Int32) (x2 : Int32) (x3 : Int32) (y4 : Int64) (y6 : Int64) (x8 : Int32) (x9 : Int32) (μ : mz_M) (h :
    if (x2 : Int32) ≤ (x9 : Int32) then
      (if (x8 : Int32) = (0 : Int32) then
        (v_Mo_levelOf C Q (2, [(0, mz_R 16 p0), (1, mz_I x1), (2, mz_I x2), (3, mz_I (x3 + 1))], [], μ))
      else
        (¬ (24 : Int64) = 0 ∧ (if (lg_cmp (y4 - y4 / 24 * 24) 0 : Int32) = (0 : Int32) then
          (¬ (24 : Int64) = 0 ∧ (if (lg_cmp (y6 - y6 / 24 * 24) 0 : Int32) = (0 : Int32) then
            (Q (some (mz_I x3)) μ)
          else
            (v_Mo_levelOf C Q (2, [(0, mz_R 16 p0), (1, mz_I x1), (2, mz_I x2), (3, mz_I (x3 + 1))], [], μ))))
        else
          (v_Mo_levelOf C Q (2, [(0, mz_R 16 p0), (1, mz_I x1), (2, mz_I x2), (3, mz_I (x3 + 1))], [], μ)))))
    else
      (vp_in (x1 + (2 * x9)) 160 ∧ (vp_in ((x1 + (2 * x9)) + 1) 160 ∧ (if (x8 : Int32) = (0 : Int32) then
        (¬ (μ.2 15 (x1 + (2 * x9) : Int32).toNatClampNeg : Int64) = 0 ∧ (v_Mo_levelOf C Q (21, [(0, mz_R 16 p0), (1, mz_I x1), (2, mz_I x2), (3, mz_I x3), (4, mz_L (y4 + ((μ.2 15 (x1 + (2 * x9) : Int32).toNatClampNeg) * (μ.2 15 ((x1 + (2 * x9)) + 1 : Int32).toNatClampNeg)))), (6, mz_L (y6 + ((((x3 : Int32).toInt64) / (μ.2 15 (x1 + (2 * x9) : Int32).toNatClampNeg)) * (μ.2 15 ((x1 + (2 * x9)) + 1 : Int32).toNatClampNeg)))), (8, mz_I 0), (9, mz_I (x9 + 1))], [], μ)))
      else
        (if (lg_cmp (μ.2 15 ((x1 + (2 * x9)) + 1 : Int32).toNatClampNeg) 0 : Int32) = (0 : Int32) then
          (¬ (μ.2 15 (x1 + (2 * x9) : Int32).toNatClampNeg : Int64) = 0 ∧ (v_Mo_levelOf C Q (21, [(0, mz_R 16 p0), (1, mz_I x1), (2, mz_I x2), (3, mz_I x3), (4, mz_L (y4 + ((μ.2 15 (x1 + (2 * x9) : Int32).toNatClampNeg) * (μ.2 15 ((x1 + (2 * x9)) + 1 : Int32).toNatClampNeg)))), (6, mz_L (y6 + ((((x3 : Int32).toInt64) / (μ.2 15 (x1 + (2 * x9) : Int32).toNatClampNeg)) * (μ.2 15 ((x1 + (2 * x9)) + 1 : Int32).toNatClampNeg)))), (8, mz_I 1), (9, mz_I (x9 + 1))], [], μ)))
        else
          (¬ (μ.2 15 (x1 + (2 * x9) : Int32).toNatClampNeg : Int64) = 0 ∧ (if (lg_cmp (((x3 : Int32).toInt64) - ((x3 : Int32).toInt64) / (μ.2 15 (x1 + (2 * x9) : Int32).toNatClampNeg) * (μ.2 15 (x1 + (2 * x9) : Int32).toNatClampNeg)) 0 : Int32) = (0 : Int32) then
            (¬ (μ.2 15 (x1 + (2 * x9) : Int32).toNatClampNeg : Int64) = 0 ∧ (v_Mo_levelOf C Q (21, [(0, mz_R 16 p0), (1, mz_I x1), (2, mz_I x2), (3, mz_I x3), (4, mz_L (y4 + ((μ.2 15 (x1 + (2 * x9) : Int32).toNatClampNeg) * (μ.2 15 ((x1 + (2 * x9)) + 1 : Int32).toNatClampNeg)))), (6, mz_L (y6 + ((((x3 : Int32).toInt64) / (μ.2 15 (x1 + (2 * x9) : Int32).toNatClampNeg)) * (μ.2 15 ((x1 + (2 * x9)) + 1 : Int32).toNatClampNeg)))), (8, mz_I 1), (9, mz_I (x9 + 1))], [], μ)))
          else
            (¬ (μ.2 15 (x1 + (2 * x9) : Int32).toNatClampNeg : Int64) = 0 ∧ (v_Mo_levelOf C Q (21, [(0, mz_R 16 p0), (1, mz_I x1), (2, mz_I x2), (3, mz_I x3), (4, mz_L (y4 + ((μ.2 15 (x1 + (2 * x9) : Int32).toNatClampNeg) * (μ.2 15 ((x1 + (2 * x9)) + 1 : Int32).toNatClampNeg)))), (6, mz_L (y6 + ((((x3 : Int32).toInt64) / (μ.2 15 (x1 + (2 * x9) : Int32).toNatClampNeg)) * (μ.2 15 ((x1 + (2 * x9)) + 1 : Int32).toNatClampNeg)))), (8, mz_I 0), (9, mz_I (x9 + 1))], [], μ)))))))))) :
  v_Mo_levelOf C Q (21, [(0, mz_R 16 p0), (1, mz_I x1), (2, mz_I x2), (3, mz_I x3), (4, mz_L y4), (6, mz_L y6), (8, mz_I x8), (9, mz_I x9)], [], μ) := mz_Ev.run [2, 21] 400 h
/-! EtaSeriesModel.indexOf(I)I, number 166 -/
abbrev v_Mo_indexOf (C : mz_Cl) (Q : Option mz_V → mz_M → Prop) : mz_S → Prop := mz_Ev es_SH tb_Mo_indexOf C Q
set_option maxRecDepth 20000 in
set_option maxHeartbeats 4000000 in
theorem w_Mo_indexOf_0 {C : mz_Cl} {Q : Option mz_V → mz_M → Prop} (x0 : Int32) (μ : mz_M) (h :
    v_Mo_indexOf C Q (6, [(1, mz_I x0), (2, mz_I x0), (3, mz_I 2)], [], μ)) :
  v_Mo_indexOf C Q (0, [(0, mz_I x0)], [], μ) := mz_Ev.run [6, 25] 400 h
set_option maxRecDepth 20000 in
set_option maxHeartbeats 4000000 in
theorem w_Mo_indexOf_6 {C : mz_Cl} {Q : Option mz_V → mz_M → Prop} (x1 : Int32) (x2 : Int32) (x3 : Int32) (μ : mz_M) (h :
    if (x2 : Int32) < (x3 : Int32) then
      (Q (some (mz_I x1)) μ)
    else
      (¬ (x3 : Int32) = 0 ∧ (if (x2 - x2 / x3 * x3 : Int32) = (0 : Int32) then
        (¬ (x3 : Int32) = 0 ∧ (v_Mo_indexOf C Q (25, [(1, mz_I ((x1 / x3) * (x3 + 1))), (2, mz_I x2), (3, mz_I x3)], [], μ)))
      else
        (v_Mo_indexOf C Q (6, [(1, mz_I x1), (2, mz_I x2), (3, mz_I (x3 + 1))], [], μ))))) :
  v_Mo_indexOf C Q (6, [(1, mz_I x1), (2, mz_I x2), (3, mz_I x3)], [], μ) := mz_Ev.run [6, 25] 400 h
set_option maxRecDepth 20000 in
set_option maxHeartbeats 4000000 in
theorem w_Mo_indexOf_25 {C : mz_Cl} {Q : Option mz_V → mz_M → Prop} (x1 : Int32) (x2 : Int32) (x3 : Int32) (μ : mz_M) (h :
    ¬ (x3 : Int32) = 0 ∧ (if (x2 - x2 / x3 * x3 : Int32) = (0 : Int32) then
      (¬ (x3 : Int32) = 0 ∧ (v_Mo_indexOf C Q (25, [(1, mz_I x1), (2, mz_I (x2 / x3)), (3, mz_I x3)], [], μ)))
    else
      (v_Mo_indexOf C Q (6, [(1, mz_I x1), (2, mz_I x2), (3, mz_I (x3 + 1))], [], μ)))) :
  v_Mo_indexOf C Q (25, [(1, mz_I x1), (2, mz_I x2), (3, mz_I x3)], [], μ) := mz_Ev.run [6, 25] 400 h
/-! EtaSeriesModel.told(IIIII)I, number 167 -/
abbrev v_Mo_told (C : mz_Cl) (Q : Option mz_V → mz_M → Prop) : mz_S → Prop := mz_Ev es_SH tb_Mo_told C Q
set_option maxRecDepth 20000 in
set_option maxHeartbeats 4000000 in
theorem w_Mo_told_0 {C : mz_Cl} {Q : Option mz_V → mz_M → Prop} (p0 : Nat) (x1 : Int32) (x2 : Int32) (x3 : Int32) (x4 : Int32) (x5 : Int32) (μ : mz_M) (h :
    ∃ (r2 : Int32) (μ1 : mz_M), C n_Mo_isSheet [mz_I x1] μ (some (mz_I r2)) μ1 ∧
      (if (r2 : Int32) = (0 : Int32) then
        (Q (some (mz_I ((-1000001)))) μ1)
      else
        (∃ (r4 : Int32) (μ3 : mz_M), C n_Mo_in [mz_L ((x2 : Int32).toInt64), mz_L 0, mz_L 3] μ1 (some (mz_I r4)) μ3 ∧
          (if (r4 : Int32) = (0 : Int32) then
            (Q (some (mz_I ((-1000001)))) μ3)
          else
            (∃ (r6 : Int32) (μ5 : mz_M), C n_Mo_in [mz_L ((x4 : Int32).toInt64), mz_L 1, mz_L 6] μ3 (some (mz_I r6)) μ5 ∧
              (if (r6 : Int32) = (0 : Int32) then
                (Q (some (mz_I ((-1000001)))) μ5)
              else
                (∃ (r8 : Int32) (μ7 : mz_M), C n_Mo_in [mz_L ((x5 : Int32).toInt64), mz_L 0, mz_L 2] μ5 (some (mz_I r8)) μ7 ∧
                  (if (r8 : Int32) = (0 : Int32) then
                    (Q (some (mz_I ((-1000001)))) μ7)
                  else
                    (∃ (r10 : Int32) (μ9 : mz_M), C n_Mo_whyPairs [mz_R 16 p0, mz_I x1, mz_I x2, mz_I x3, mz_I x4] μ7 (some (mz_I r10)) μ9 ∧
                      (if (0 : Int32) ≤ (r10 : Int32) then
                        (v_Mo_told C Q (81, [(0, mz_R 16 p0), (4, mz_I x4), (5, mz_I x5), (7, mz_I ((40 * x1) + x3)), (8, mz_I 0), (9, mz_I 0)], [], μ9))
                      else
                        (Q (some (mz_I r10)) μ9))))))))))) :
  v_Mo_told C Q (0, [(0, mz_R 16 p0), (1, mz_I x1), (2, mz_I x2), (3, mz_I x3), (4, mz_I x4), (5, mz_I x5)], [], μ) := mz_Ev.run [81] 400 h
set_option maxRecDepth 20000 in
set_option maxHeartbeats 4000000 in
theorem w_Mo_told_81 {C : mz_Cl} {Q : Option mz_V → mz_M → Prop} (p0 : Nat) (x4 : Int32) (x5 : Int32) (x7 : Int32) (x8 : Int32) (x9 : Int32) (μ : mz_M) (h :
    if (x4 : Int32) ≤ (x9 : Int32) then
      (if (x5 : Int32) = (0 : Int32) then
        (Q (some (mz_I x8)) μ)
      else
        (∃ (r2 : Int32) (μ1 : mz_M), C n_Mo_levelOf [mz_R 16 p0, mz_I x7, mz_I x4] μ (some (mz_I r2)) μ1 ∧
          (if (x5 : Int32) = (1 : Int32) then
            (Q (some (mz_I r2)) μ1)
          else
            (if (r2 : Int32) = ((-1000004) : Int32) then
              (Q (some (mz_I r2)) μ1)
            else
              (if (0 : Int32) ≤ (x8 : Int32) then
                (∃ (r4 : Int32) (μ3 : mz_M), C n_Mo_indexOf [mz_I r2] μ1 (some (mz_I r4)) μ3 ∧
                  (¬ (24 : Int32) = 0 ∧ (Q (some (mz_I (((x8 * r4) / 24) + 1))) μ3)))
              else
                (Q (some (mz_I ((-1000004)))) μ1))))))
    else
      (vp_in ((x7 + (2 * x9)) + 1) 160 ∧ (v_Mo_told C Q (81, [(0, mz_R 16 p0), (4, mz_I x4), (5, mz_I x5), (7, mz_I x7), (8, mz_I (x8 + ((μ.2 15 ((x7 + (2 * x9)) + 1 : Int32).toNatClampNeg : Int64).toInt32))), (9, mz_I (x9 + 1))], [], μ)))) :
  v_Mo_told C Q (81, [(0, mz_R 16 p0), (4, mz_I x4), (5, mz_I x5), (7, mz_I x7), (8, mz_I x8), (9, mz_I x9)], [], μ) := mz_Ev.run [81] 400 h
/-! EtaSeriesModel.quotient(IIIII)I, number 168 -/
abbrev v_Mo_quotient (C : mz_Cl) (Q : Option mz_V → mz_M → Prop) : mz_S → Prop := mz_Ev es_SH tb_Mo_quotient C Q
set_option maxRecDepth 20000 in
set_option maxHeartbeats 4000000 in
theorem w_Mo_quotient_0 {C : mz_Cl} {Q : Option mz_V → mz_M → Prop} (p0 : Nat) (x1 : Int32) (x2 : Int32) (x3 : Int32) (x4 : Int32) (x5 : Int32) (μ : mz_M) (h :
    ∃ (r2 : Int32) (μ1 : mz_M), C n_Mo_isSeries [mz_I x1] μ (some (mz_I r2)) μ1 ∧
      (if (r2 : Int32) = (0 : Int32) then
        (Q (some (mz_I ((-1000001)))) μ1)
      else
        (∃ (r4 : Int32) (μ3 : mz_M), C n_Mo_isSheet [mz_I x2] μ1 (some (mz_I r4)) μ3 ∧
          (if (r4 : Int32) = (0 : Int32) then
            (Q (some (mz_I ((-1000001)))) μ3)
          else
            (∃ (r6 : Int32) (μ5 : mz_M), C n_Mo_in [mz_L ((x3 : Int32).toInt64), mz_L 0, mz_L 3] μ3 (some (mz_I r6)) μ5 ∧
              (if (r6 : Int32) = (0 : Int32) then
                (Q (some (mz_I ((-1000001)))) μ5)
              else
                (∃ (r8 : Int32) (μ7 : mz_M), C n_Mo_in [mz_L ((x5 : Int32).toInt64), mz_L 1, mz_L 6] μ5 (some (mz_I r8)) μ7 ∧
                  (if (r8 : Int32) = (0 : Int32) then
                    (Q (some (mz_I ((-1000001)))) μ7)
                  else
                    (∃ (r10 : Int32) (μ9 : mz_M), C n_Mo_whyPairs [mz_R 16 p0, mz_I x2, mz_I x3, mz_I x4, mz_I x5] μ7 (some (mz_I r10)) μ9 ∧
                      (if (0 : Int32) ≤ (r10 : Int32) then
                        (vp_in 0 166 ∧ (∃ μ11, C n_Mo_makes [mz_R 16 p0, mz_I 0, mz_I 0, mz_I (μ9.1 1 (0 : Int32).toNatClampNeg)] μ9 none μ11 ∧
                          (∃ μ12, C n_Mo_goesOn [mz_R 16 p0] μ11 none μ12 ∧
                            (v_Mo_quotient C Q (81, [(0, mz_R 16 p0), (1, mz_I x1), (2, mz_I x2), (4, mz_I x4), (5, mz_I x5), (7, mz_I 0)], [], μ12)))))
                      else
                        (Q (some (mz_I r10)) μ9))))))))))) :
  v_Mo_quotient C Q (0, [(0, mz_R 16 p0), (1, mz_I x1), (2, mz_I x2), (3, mz_I x3), (4, mz_I x4), (5, mz_I x5)], [], μ) := mz_Ev.run [81, 140, 209] 400 h
set_option maxRecDepth 20000 in
set_option maxHeartbeats 4000000 in
theorem w_Mo_quotient_81 {C : mz_Cl} {Q : Option mz_V → mz_M → Prop} (p0 : Nat) (x1 : Int32) (x2 : Int32) (x4 : Int32) (x5 : Int32) (x7 : Int32) (μ : mz_M) (h :
    if (x5 : Int32) ≤ (x7 : Int32) then
      (v_Mo_quotient C Q (209, [(0, mz_R 16 p0), (1, mz_I x1), (7, mz_I 0)], [], mz_wI μ p0 6 (μ.1 p0 2)))
    else
      (vp_in ((((40 * x2) + x4) + (2 * x7)) + 1) 160 ∧ (vp_in (((40 * x2) + x4) + (2 * x7)) 160 ∧ (vp_in 0 166 ∧ (∃ μ1, C n_Mo_makes [mz_R 16 p0, mz_I 3, mz_I ((μ.2 15 (((40 * x2) + x4) + (2 * x7) : Int32).toNatClampNeg : Int64).toInt32), mz_I (μ.1 1 (0 : Int32).toNatClampNeg)] μ none μ1 ∧
        (∃ μ2, C n_Mo_copiesToTwo [mz_R 16 p0] μ1 none μ2 ∧
          (v_Mo_quotient C Q (140, [(0, mz_R 16 p0), (1, mz_I x1), (2, mz_I x2), (4, mz_I x4), (5, mz_I x5), (7, mz_I x7), (9, mz_I ((μ.2 15 ((((40 * x2) + x4) + (2 * x7)) + 1 : Int32).toNatClampNeg : Int64).toInt32)), (10, mz_I 0)], [], μ2)))))))) :
  v_Mo_quotient C Q (81, [(0, mz_R 16 p0), (1, mz_I x1), (2, mz_I x2), (4, mz_I x4), (5, mz_I x5), (7, mz_I x7)], [], μ) := mz_Ev.run [81, 140, 209] 400 h
set_option maxRecDepth 20000 in
set_option maxHeartbeats 4000000 in
theorem w_Mo_quotient_140 {C : mz_Cl} {Q : Option mz_V → mz_M → Prop} (p0 : Nat) (x1 : Int32) (x2 : Int32) (x4 : Int32) (x5 : Int32) (x7 : Int32) (x9 : Int32) (x10 : Int32) (μ : mz_M) (h :
    if (0 : Int32) ≤ (x9 : Int32) then
      (if (x9 : Int32) ≤ (x10 : Int32) then
        (v_Mo_quotient C Q (81, [(0, mz_R 16 p0), (1, mz_I x1), (2, mz_I x2), (4, mz_I x4), (5, mz_I x5), (7, mz_I (x7 + 1))], [], μ))
      else
        (if (0 : Int32) ≤ (x9 : Int32) then
          (∃ (r2 : Int32) (μ1 : mz_M), C n_Mo_joins [mz_R 16 p0, mz_I 2] μ (some (mz_I r2)) μ1 ∧
            (if (0 : Int32) ≤ (r2 : Int32) then
              (∃ μ3, C n_Mo_goesOn [mz_R 16 p0] μ1 none μ3 ∧
                (v_Mo_quotient C Q (140, [(0, mz_R 16 p0), (1, mz_I x1), (2, mz_I x2), (4, mz_I x4), (5, mz_I x5), (7, mz_I x7), (9, mz_I x9), (10, mz_I (x10 + 1))], [], μ3)))
            else
              (Q (some (mz_I r2)) μ1)))
        else
          (∃ (r5 : Int32) (μ4 : mz_M), C n_Mo_joins [mz_R 16 p0, mz_I 3] μ (some (mz_I r5)) μ4 ∧
            (if (0 : Int32) ≤ (r5 : Int32) then
              (∃ μ6, C n_Mo_goesOn [mz_R 16 p0] μ4 none μ6 ∧
                (v_Mo_quotient C Q (140, [(0, mz_R 16 p0), (1, mz_I x1), (2, mz_I x2), (4, mz_I x4), (5, mz_I x5), (7, mz_I x7), (9, mz_I x9), (10, mz_I (x10 + 1))], [], μ6)))
            else
              (Q (some (mz_I r5)) μ4)))))
    else
      (if (-x9 : Int32) ≤ (x10 : Int32) then
        (v_Mo_quotient C Q (81, [(0, mz_R 16 p0), (1, mz_I x1), (2, mz_I x2), (4, mz_I x4), (5, mz_I x5), (7, mz_I (x7 + 1))], [], μ))
      else
        (if (0 : Int32) ≤ (x9 : Int32) then
          (∃ (r8 : Int32) (μ7 : mz_M), C n_Mo_joins [mz_R 16 p0, mz_I 2] μ (some (mz_I r8)) μ7 ∧
            (if (0 : Int32) ≤ (r8 : Int32) then
              (∃ μ9, C n_Mo_goesOn [mz_R 16 p0] μ7 none μ9 ∧
                (v_Mo_quotient C Q (140, [(0, mz_R 16 p0), (1, mz_I x1), (2, mz_I x2), (4, mz_I x4), (5, mz_I x5), (7, mz_I x7), (9, mz_I x9), (10, mz_I (x10 + 1))], [], μ9)))
            else
              (Q (some (mz_I r8)) μ7)))
        else
          (∃ (r11 : Int32) (μ10 : mz_M), C n_Mo_joins [mz_R 16 p0, mz_I 3] μ (some (mz_I r11)) μ10 ∧
            (if (0 : Int32) ≤ (r11 : Int32) then
              (∃ μ12, C n_Mo_goesOn [mz_R 16 p0] μ10 none μ12 ∧
                (v_Mo_quotient C Q (140, [(0, mz_R 16 p0), (1, mz_I x1), (2, mz_I x2), (4, mz_I x4), (5, mz_I x5), (7, mz_I x7), (9, mz_I x9), (10, mz_I (x10 + 1))], [], μ12)))
            else
              (Q (some (mz_I r11)) μ10)))))) :
  v_Mo_quotient C Q (140, [(0, mz_R 16 p0), (1, mz_I x1), (2, mz_I x2), (4, mz_I x4), (5, mz_I x5), (7, mz_I x7), (9, mz_I x9), (10, mz_I x10)], [], μ) := mz_Ev.run [81, 140, 209] 400 h
set_option maxRecDepth 20000 in
set_option maxHeartbeats 4000000 in
theorem w_Mo_quotient_209 {C : mz_Cl} {Q : Option mz_V → mz_M → Prop} (p0 : Nat) (x1 : Int32) (x7 : Int32) (μ : mz_M) (h :
    if (μ.1 p0 2 : Int32) ≤ (x7 : Int32) then
      (∃ (r2 : Int32) (μ1 : mz_M), C n_Mo_keeps [mz_R 16 p0, mz_I x1] μ (some (mz_I r2)) μ1 ∧
        (Q (some (mz_I r2)) μ1))
    else
      (vp_in x7 40 ∧ (vp_in x7 40 ∧ (v_Mo_quotient C Q (209, [(0, mz_R 16 p0), (1, mz_I x1), (7, mz_I (x7 + 1))], [], mz_wL μ 4 (x7 : Int32).toNatClampNeg (μ.2 2 (x7 : Int32).toNatClampNeg)))))) :
  v_Mo_quotient C Q (209, [(0, mz_R 16 p0), (1, mz_I x1), (7, mz_I x7)], [], μ) := mz_Ev.run [81, 140, 209] 400 h
/-! EtaSeriesModel.wrought(IIIIII)I, number 169 -/
abbrev v_Mo_wrought (C : mz_Cl) (Q : Option mz_V → mz_M → Prop) : mz_S → Prop := mz_Ev es_SH tb_Mo_wrought C Q
set_option maxRecDepth 20000 in
set_option maxHeartbeats 4000000 in
theorem w_Mo_wrought_0 {C : mz_Cl} {Q : Option mz_V → mz_M → Prop} (p0 : Nat) (x1 : Int32) (x2 : Int32) (x3 : Int32) (x4 : Int32) (x5 : Int32) (x6 : Int32) (μ : mz_M) (h :
    ∃ (r2 : Int32) (μ1 : mz_M), C n_Mo_isSeries [mz_I x1] μ (some (mz_I r2)) μ1 ∧
      (if (r2 : Int32) = (0 : Int32) then
        (Q (some (mz_I ((-1000001)))) μ1)
      else
        (∃ (r4 : Int32) (μ3 : mz_M), C n_Mo_isSeries [mz_I x2] μ1 (some (mz_I r4)) μ3 ∧
          (if (r4 : Int32) = (0 : Int32) then
            (Q (some (mz_I ((-1000001)))) μ3)
          else
            (∃ (r6 : Int32) (μ5 : mz_M), C n_Mo_isSheet [mz_I x3] μ3 (some (mz_I r6)) μ5 ∧
              (if (r6 : Int32) = (0 : Int32) then
                (Q (some (mz_I ((-1000001)))) μ5)
              else
                (∃ (r8 : Int32) (μ7 : mz_M), C n_Mo_in [mz_L ((x4 : Int32).toInt64), mz_L 0, mz_L 3] μ5 (some (mz_I r8)) μ7 ∧
                  (if (r8 : Int32) = (0 : Int32) then
                    (Q (some (mz_I ((-1000001)))) μ7)
                  else
                    (∃ (r10 : Int32) (μ9 : mz_M), C n_Mo_in [mz_L ((x6 : Int32).toInt64), mz_L 1, mz_L 12] μ7 (some (mz_I r10)) μ9 ∧
                      (if (r10 : Int32) = (0 : Int32) then
                        (Q (some (mz_I ((-1000001)))) μ9)
                      else
                        (∃ (r12 : Int32) (μ11 : mz_M), C n_Mo_why [mz_R 16 p0, mz_I x3, mz_I x4, mz_I x5, mz_I x6] μ9 (some (mz_I r12)) μ11 ∧
                          (if (0 : Int32) ≤ (r12 : Int32) then
                            (∃ (r14 : Int32) (μ13 : mz_M), C n_Mo_many [mz_R 16 p0, mz_I x1] μ11 (some (mz_I r14)) μ13 ∧
                              (if (r14 : Int32) = (0 : Int32) then
                                (Q (some (mz_I ((-1000002)))) μ13)
                              else
                                (∃ (r16 : Int32) (μ15 : mz_M), C n_Mo_many [mz_R 16 p0, mz_I x2] μ13 (some (mz_I r16)) μ15 ∧
                                  (if (r16 : Int32) = (0 : Int32) then
                                    (Q (some (mz_I ((-1000002)))) μ15)
                                  else
                                    (v_Mo_wrought C Q (96, [(0, mz_R 16 p0), (1, mz_I x1), (2, mz_I x2), (3, mz_I x3), (5, mz_I x5), (6, mz_I x6), (8, mz_I 0), (9, mz_I 0)], [], μ15))))))
                          else
                            (Q (some (mz_I r12)) μ11))))))))))))) :
  v_Mo_wrought C Q (0, [(0, mz_R 16 p0), (1, mz_I x1), (2, mz_I x2), (3, mz_I x3), (4, mz_I x4), (5, mz_I x5), (6, mz_I x6)], [], μ) := mz_Ev.run [96, 140] 400 h
set_option maxRecDepth 20000 in
set_option maxHeartbeats 4000000 in
theorem w_Mo_wrought_96 {C : mz_Cl} {Q : Option mz_V → mz_M → Prop} (p0 : Nat) (x1 : Int32) (x2 : Int32) (x3 : Int32) (x5 : Int32) (x6 : Int32) (x8 : Int32) (x9 : Int32) (μ : mz_M) (h :
    if (4 : Int32) ≤ (x9 : Int32) then
      (Q (some (mz_I x8)) μ)
    else
      (∃ μ1, C n_Mo_takesOne [mz_R 16 p0, mz_I x1] μ none μ1 ∧
        (∃ μ2, C n_Mo_takesTwo [mz_R 16 p0, mz_I x2] μ1 none μ2 ∧
          (∃ (r4 : Int32) (μ3 : mz_M), C n_Mo_joins [mz_R 16 p0, mz_I x9] μ2 (some (mz_I r4)) μ3 ∧
            (if (r4 : Int32) = (0 : Int32) then
              (if (μ3.1 p0 6 : Int32) < (x6 : Int32) then
                (v_Mo_wrought C Q (140, [(0, mz_R 16 p0), (1, mz_I x1), (2, mz_I x2), (3, mz_I x3), (5, mz_I x5), (6, mz_I x6), (8, mz_I x8), (9, mz_I x9), (10, mz_I 0), (11, mz_I 0)], [], μ3))
              else
                (v_Mo_wrought C Q (140, [(0, mz_R 16 p0), (1, mz_I x1), (2, mz_I x2), (3, mz_I x3), (5, mz_I x5), (6, mz_I x6), (8, mz_I x8), (9, mz_I x9), (10, mz_I 1), (11, mz_I 0)], [], μ3)))
            else
              (v_Mo_wrought C Q (140, [(0, mz_R 16 p0), (1, mz_I x1), (2, mz_I x2), (3, mz_I x3), (5, mz_I x5), (6, mz_I x6), (8, mz_I x8), (9, mz_I x9), (10, mz_I 0), (11, mz_I 0)], [], μ3))))))) :
  v_Mo_wrought C Q (96, [(0, mz_R 16 p0), (1, mz_I x1), (2, mz_I x2), (3, mz_I x3), (5, mz_I x5), (6, mz_I x6), (8, mz_I x8), (9, mz_I x9)], [], μ) := mz_Ev.run [96, 140] 400 h
set_option maxRecDepth 20000 in
set_option maxHeartbeats 4000000 in
theorem w_Mo_wrought_140 {C : mz_Cl} {Q : Option mz_V → mz_M → Prop} (p0 : Nat) (x1 : Int32) (x2 : Int32) (x3 : Int32) (x5 : Int32) (x6 : Int32) (x8 : Int32) (x9 : Int32) (x10 : Int32) (x11 : Int32) (μ : mz_M) (h :
    if (x6 : Int32) ≤ (x11 : Int32) then
      (if (x10 : Int32) = (0 : Int32) then
        (v_Mo_wrought C Q (96, [(0, mz_R 16 p0), (1, mz_I x1), (2, mz_I x2), (3, mz_I x3), (5, mz_I x5), (6, mz_I x6), (8, mz_I (x8 ||| 0)), (9, mz_I (x9 + 1))], [], μ))
      else
        (v_Mo_wrought C Q (96, [(0, mz_R 16 p0), (1, mz_I x1), (2, mz_I x2), (3, mz_I x3), (5, mz_I x5), (6, mz_I x6), (8, mz_I (x8 ||| (1 <<< (x9 &&& 31)))), (9, mz_I (x9 + 1))], [], μ)))
    else
      (if (x10 : Int32) = (0 : Int32) then
        (if (x10 : Int32) = (0 : Int32) then
          (v_Mo_wrought C Q (96, [(0, mz_R 16 p0), (1, mz_I x1), (2, mz_I x2), (3, mz_I x3), (5, mz_I x5), (6, mz_I x6), (8, mz_I (x8 ||| 0)), (9, mz_I (x9 + 1))], [], μ))
        else
          (v_Mo_wrought C Q (96, [(0, mz_R 16 p0), (1, mz_I x1), (2, mz_I x2), (3, mz_I x3), (5, mz_I x5), (6, mz_I x6), (8, mz_I (x8 ||| (1 <<< (x9 &&& 31)))), (9, mz_I (x9 + 1))], [], μ)))
      else
        (vp_in x11 40 ∧ (vp_in (((40 * x3) + x5) + x11) 160 ∧ (if (lg_cmp (μ.2 4 (x11 : Int32).toNatClampNeg) (μ.2 15 (((40 * x3) + x5) + x11 : Int32).toNatClampNeg) : Int32) = (0 : Int32) then
          (v_Mo_wrought C Q (140, [(0, mz_R 16 p0), (1, mz_I x1), (2, mz_I x2), (3, mz_I x3), (5, mz_I x5), (6, mz_I x6), (8, mz_I x8), (9, mz_I x9), (10, mz_I 1), (11, mz_I (x11 + 1))], [], μ))
        else
          (v_Mo_wrought C Q (140, [(0, mz_R 16 p0), (1, mz_I x1), (2, mz_I x2), (3, mz_I x3), (5, mz_I x5), (6, mz_I x6), (8, mz_I x8), (9, mz_I x9), (10, mz_I 0), (11, mz_I (x11 + 1))], [], μ))))))) :
  v_Mo_wrought C Q (140, [(0, mz_R 16 p0), (1, mz_I x1), (2, mz_I x2), (3, mz_I x3), (5, mz_I x5), (6, mz_I x6), (8, mz_I x8), (9, mz_I x9), (10, mz_I x10), (11, mz_I x11)], [], μ) := mz_Ev.run [96, 140] 400 h
/-! EtaSeriesModel.film(IIII)I, number 170 -/
abbrev v_Mo_film (C : mz_Cl) (Q : Option mz_V → mz_M → Prop) : mz_S → Prop := mz_Ev es_SH tb_Mo_film C Q
set_option maxRecDepth 20000 in
set_option maxHeartbeats 4000000 in
theorem w_Mo_film_0 {C : mz_Cl} {Q : Option mz_V → mz_M → Prop} (p0 : Nat) (x1 : Int32) (x2 : Int32) (x3 : Int32) (x4 : Int32) (μ : mz_M) (h :
    ∃ (r2 : Int32) (μ1 : mz_M), C n_Mo_isSeries [mz_I x1] μ (some (mz_I r2)) μ1 ∧
      (if (r2 : Int32) = (0 : Int32) then
        (Q (some (mz_I ((-1000001)))) μ1)
      else
        (∃ (r4 : Int32) (μ3 : mz_M), C n_Mo_isSheet [mz_I x2] μ1 (some (mz_I r4)) μ3 ∧
          (if (r4 : Int32) = (0 : Int32) then
            (Q (some (mz_I ((-1000001)))) μ3)
          else
            (∃ (r6 : Int32) (μ5 : mz_M), C n_Mo_in [mz_L ((x3 : Int32).toInt64), mz_L 0, mz_L 3] μ3 (some (mz_I r6)) μ5 ∧
              (if (r6 : Int32) = (0 : Int32) then
                (Q (some (mz_I ((-1000001)))) μ5)
              else
                (∃ (r8 : Int32) (μ7 : mz_M), C n_Mo_many [mz_R 16 p0, mz_I x1] μ5 (some (mz_I r8)) μ7 ∧
                  (if (r8 : Int32) = (0 : Int32) then
                    (Q (some (mz_I ((-1000002)))) μ7)
                  else
                    (∃ (r10 : Int32) (μ9 : mz_M), C n_Mo_why [mz_R 16 p0, mz_I x2, mz_I x3, mz_I x4, mz_I r8] μ7 (some (mz_I r10)) μ9 ∧
                      (if (0 : Int32) ≤ (r10 : Int32) then
                        (v_Mo_film C Q (67, [(0, mz_R 16 p0), (1, mz_I x1), (2, mz_I x2), (3, mz_I x3), (4, mz_I x4), (5, mz_I r8), (7, mz_I 0)], [], μ9))
                      else
                        (Q (some (mz_I r10)) μ9))))))))))) :
  v_Mo_film C Q (0, [(0, mz_R 16 p0), (1, mz_I x1), (2, mz_I x2), (3, mz_I x3), (4, mz_I x4)], [], μ) := mz_Ev.run [67] 400 h
set_option maxRecDepth 20000 in
set_option maxHeartbeats 4000000 in
theorem w_Mo_film_67 {C : mz_Cl} {Q : Option mz_V → mz_M → Prop} (p0 : Nat) (x1 : Int32) (x2 : Int32) (x3 : Int32) (x4 : Int32) (x5 : Int32) (x7 : Int32) (μ : mz_M) (h :
    if (x5 : Int32) ≤ (x7 : Int32) then
      (Q (some (mz_I x5)) μ)
    else
      (∃ (r2 : Int32) (μ1 : mz_M), C n_Mo_termOf [mz_R 16 p0, mz_I x1, mz_I x7] μ (some (mz_I r2)) μ1 ∧
        (∃ (r4 : Int64) (μ3 : mz_M), C n_Mo_cut [mz_L ((r2 : Int32).toInt64), mz_I x3] μ1 (some (mz_L r4)) μ3 ∧
          (vp_in (((40 * x2) + x4) + x7) 160 ∧ (v_Mo_film C Q (67, [(0, mz_R 16 p0), (1, mz_I x1), (2, mz_I x2), (3, mz_I x3), (4, mz_I x4), (5, mz_I x5), (7, mz_I (x7 + 1))], [], mz_wL μ3 15 (((40 * x2) + x4) + x7 : Int32).toNatClampNeg r4)))))) :
  v_Mo_film C Q (67, [(0, mz_R 16 p0), (1, mz_I x1), (2, mz_I x2), (3, mz_I x3), (4, mz_I x4), (5, mz_I x5), (7, mz_I x7)], [], μ) := mz_Ev.run [67] 400 h
end
section
/-! A run that ends with Q ends with one answer and one state that have Q. -/
abbrev mz_O : Type := Option mz_V × mz_M
section MX
variable {A : mz_O → Prop}
theorem mz_p1_x {st : List mz_V} {f : Int32 → List mz_V → Prop} {g : mz_O → Int32 → List mz_V → Prop} (h : ∀ x r, f x r → ∃ w, A w ∧ g w x r) (hp : mz_p1 st f) : ∃ w, A w ∧ mz_p1 st (g w) := by
  obtain ⟨x, r, rfl, hf⟩ := mz_p1_i hp
  exact h x r hf
theorem mz_p2_x {st : List mz_V} {f : Int32 → Int32 → List mz_V → Prop} {g : mz_O → Int32 → Int32 → List mz_V → Prop} (h : ∀ x y r, f x y r → ∃ w, A w ∧ g w x y r) (hp : mz_p2 st f) : ∃ w, A w ∧ mz_p2 st (g w) := by
  obtain ⟨x, y, r, rfl, hf⟩ := mz_p2_i hp
  exact h x y r hf
theorem mz_g1_x {st : List mz_V} {f : Int64 → List mz_V → Prop} {g : mz_O → Int64 → List mz_V → Prop} (h : ∀ x r, f x r → ∃ w, A w ∧ g w x r) (hp : mz_g1 st f) : ∃ w, A w ∧ mz_g1 st (g w) := by
  obtain ⟨x, r, rfl, hf⟩ := mz_g1_i hp
  exact h x r hf
theorem mz_g2_x {st : List mz_V} {f : Int64 → Int64 → List mz_V → Prop} {g : mz_O → Int64 → Int64 → List mz_V → Prop} (h : ∀ x y r, f x y r → ∃ w, A w ∧ g w x y r) (hp : mz_g2 st f) : ∃ w, A w ∧ mz_g2 st (g w) := by
  obtain ⟨x, y, r, rfl, hf⟩ := mz_g2_i hp
  exact h x y r hf
theorem mz_h1_x {st : List mz_V} {f : Nat → Nat → List mz_V → Prop} {g : mz_O → Nat → Nat → List mz_V → Prop} (h : ∀ t p r, f t p r → ∃ w, A w ∧ g w t p r) (hp : mz_h1 st f) : ∃ w, A w ∧ mz_h1 st (g w) := by
  obtain ⟨t, p, r, rfl, hf⟩ := mz_h1_i hp
  exact h t p r hf
theorem mz_li_x {L : mz_Lo} {i : Nat} {f : Int32 → Prop} {g : mz_O → Int32 → Prop} (h : ∀ x, f x → ∃ w, A w ∧ g w x) (hp : mz_li L i f) : ∃ w, A w ∧ mz_li L i (g w) := by
  obtain ⟨x, hk, hf⟩ := mz_li_i hp
  obtain ⟨w, h1, h2⟩ := h x hf
  exact ⟨w, h1, by unfold mz_li; rw [hk]; exact h2⟩
theorem mz_ll_x {L : mz_Lo} {i : Nat} {f : Int64 → Prop} {g : mz_O → Int64 → Prop} (h : ∀ x, f x → ∃ w, A w ∧ g w x) (hp : mz_ll L i f) : ∃ w, A w ∧ mz_ll L i (g w) := by
  obtain ⟨x, hk, hf⟩ := mz_ll_i hp
  obtain ⟨w, h1, h2⟩ := h x hf
  exact ⟨w, h1, by unfold mz_ll; rw [hk]; exact h2⟩
theorem mz_lr_x {L : mz_Lo} {i : Nat} {f : Nat → Nat → Prop} {g : mz_O → Nat → Nat → Prop} (h : ∀ x y, f x y → ∃ w, A w ∧ g w x y) (hp : mz_lr L i f) : ∃ w, A w ∧ mz_lr L i (g w) := by
  obtain ⟨t, p, hk, hf⟩ := mz_lr_i hp
  obtain ⟨w, h1, h2⟩ := h t p hf
  exact ⟨w, h1, by unfold mz_lr; rw [hk]; exact h2⟩
theorem mz_ite_x {c : Prop} [Decidable c] {F G : Prop} {f g : mz_O → Prop} (hf : F → ∃ w, A w ∧ f w) (hg : G → ∃ w, A w ∧ g w) (h : if c then F else G) : ∃ w, A w ∧ (if c then f w else g w) := by
  by_cases hc : c
  · rw [if_pos hc] at h
    obtain ⟨w, h1, h2⟩ := hf h
    exact ⟨w, h1, by rw [if_pos hc]; exact h2⟩
  · rw [if_neg hc] at h
    obtain ⟨w, h1, h2⟩ := hg h
    exact ⟨w, h1, by rw [if_neg hc]; exact h2⟩
theorem mz_ic_x {op : ClassFile.Cond} {x y : Int32} {F G : Prop} {f g : mz_O → Prop} (hf : F → ∃ w, A w ∧ f w) (hg : G → ∃ w, A w ∧ g w) : mz_ic op x y F G → ∃ w, A w ∧ mz_ic op x y (f w) (g w) := by
  cases op <;> first | exact mz_ite_x hf hg | exact mz_ite_x hg hf
theorem mz_if_x {op : ClassFile.Cond} {x : Int32} {F G : Prop} {f g : mz_O → Prop} (hf : F → ∃ w, A w ∧ f w) (hg : G → ∃ w, A w ∧ g w) : mz_if op x F G → ∃ w, A w ∧ mz_if op x (f w) (g w) := by
  cases op <;> first | exact mz_ite_x hf hg | exact mz_ite_x hg hf
theorem mz_sw_x {x : Int32} {K : Nat → Prop} {g : mz_O → Nat → Prop} {d : Nat} (h : ∀ t, K t → ∃ w, A w ∧ g w t) : ∀ {ps : List (Nat × Nat)}, mz_sw x K d ps → ∃ w, A w ∧ mz_sw x (g w) d ps
  | [], hk => h d hk
  | q :: r, hk => by
    unfold mz_sw at hk ⊢
    exact mz_ite_x (h q.2) (mz_sw_x h) hk
theorem mz_bool_x {b : Nat} {x : Int32} {F : Prop} {f : mz_O → Prop} (h : F → ∃ w, A w ∧ f w) (hb : mz_bool b x F) : ∃ w, A w ∧ mz_bool b x (f w) := by
  match b, hb with
  | 0, hb => exact h hb
  | _ + 1, hb =>
    obtain ⟨w, h1, h2⟩ := h hb.2
    exact ⟨w, h1, hb.1, h2⟩
theorem mz_bif_x {b : Bool} {F : Prop} {f : mz_O → Prop} (h : F → ∃ w, A w ∧ f w) (hb : bif b then F else False) : ∃ w, A w ∧ (bif b then f w else False) := by
  cases b
  · exact hb.elim
  · exact h hb
theorem mz_an_x {k t : Nat} {R : Option mz_V → mz_M → Prop} {f : List mz_V → mz_M → Prop} {g : mz_O → List mz_V → mz_M → Prop} (h : ∀ v μ, f v μ → ∃ w, A w ∧ g w v μ) (hk : mz_an k t R f) : ∃ w, A w ∧ mz_an k t R (g w) := by
  match k, hk with
  | 0, ⟨μ, a, b⟩ =>
    obtain ⟨w, h1, h2⟩ := h _ _ b
    exact ⟨w, h1, μ, a, h2⟩
  | 1, ⟨x, μ, a, b⟩ =>
    obtain ⟨w, h1, h2⟩ := h _ _ b
    exact ⟨w, h1, x, μ, a, h2⟩
  | 2, ⟨x, μ, a, b⟩ =>
    obtain ⟨w, h1, h2⟩ := h _ _ b
    exact ⟨w, h1, x, μ, a, h2⟩
  | _ + 3, ⟨x, μ, a, b⟩ =>
    obtain ⟨w, h1, h2⟩ := h _ _ b
    exact ⟨w, h1, x, μ, a, h2⟩
theorem mz_cl_x {C : mz_Cl} {ga : List mz_V → Bool} {a : List Nat} {st : List mz_V} {μ : mz_M} {f : List mz_V → mz_M → Prop} {g : mz_O → List mz_V → mz_M → Prop} (h : ∀ v μ, f v μ → ∃ w, A w ∧ g w v μ) (hc : mz_cl C ga a st μ f) : ∃ w, A w ∧ mz_cl C ga a st μ (g w) := by
  match a, hc with
  | y :: n :: k :: t :: ml :: _, hc =>
    unfold mz_cl at hc ⊢
    dsimp only at hc ⊢
    cases hk : mz_tk n [] st with
    | none => rw [hk] at hc; exact hc.elim
    | some q =>
      rw [hk] at hc
      exact mz_bif_x (mz_an_x (fun v μ => h _ _)) hc
theorem mz_and_x {P F : Prop} {f : mz_O → Prop} (h : F → ∃ w, A w ∧ f w) (hb : P ∧ F) : ∃ w, A w ∧ (P ∧ f w) := by
  obtain ⟨w, h1, h2⟩ := h hb.2
  exact ⟨w, h1, hb.1, h2⟩
theorem mz_ac_x {SH : List mz_Sh} {st : List mz_V} {fI fL : Nat → Nat → Int32 → Int32 → Int32 → List mz_V → Prop} {gI gL : mz_O → Nat → Nat → Int32 → Int32 → Int32 → List mz_V → Prop} (h1 : ∀ a b c d e f, fI a b c d e f → ∃ w, A w ∧ gI w a b c d e f) (h2 : ∀ a b c d e f, fL a b c d e f → ∃ w, A w ∧ gL w a b c d e f) (h : mz_ac SH st fI fL) : ∃ w, A w ∧ mz_ac SH st (gI w) (gL w) := by
  unfold mz_ac at h ⊢
  split at h
  · split at h
    · exact mz_and_x (mz_bif_x (h1 _ _ _ _ _ _)) h
    · exact mz_and_x (mz_bif_x (h2 _ _ _ _ _ _)) h
    · exact h.elim
  · exact h.elim
end MX
set_option maxHeartbeats 4000000 in
theorem mz_op_x {SH : List mz_Sh} {C : mz_Cl} {Q : Option mz_V → mz_M → Prop} {K : mz_S → Prop} {K' : mz_O → mz_S → Prop} (hK : ∀ s, K s → ∃ w : mz_O, Q w.1 w.2 ∧ K' w s) {e : mz_E} {pc : Nat} {L : mz_Lo} {st : List mz_V} {μ : mz_M} : mz_op SH C Q K e pc L st μ → ∃ w : mz_O, Q w.1 w.2 ∧ mz_op SH C (fun r2 μ2 => r2 = w.1 ∧ μ2 = w.2) (K' w) e pc L st μ := by
  obtain ⟨i, len, c, cl, a, ps, kt, kn⟩ := e
  cases i
  case dup =>
    match st with
    | [] => exact False.elim
    | .inl x :: r => exact hK _
    | .inr (.inl _) :: _ => exact False.elim
    | .inr (.inr (t, p)) :: r => exact hK _
  case pop =>
    match st with
    | [] => exact False.elim
    | .inl x :: r => exact hK _
    | .inr _ :: _ => exact False.elim
  case dup2 =>
    match st with
    | [] => exact False.elim
    | .inr _ :: _ => exact False.elim
    | [.inl _] => exact False.elim
    | .inl _ :: .inl _ :: _ => exact False.elim
    | .inl _ :: .inr (.inl _) :: _ => exact False.elim
    | .inl x :: .inr (.inr (t, p)) :: r => exact hK _
  case if_icmp op off => exact mz_p2_x (g := fun w x y r => mz_ic op x y (K' w (mz_a0 a, mz_kp kt L, r, μ)) (K' w (pc + len, mz_kp kn L, r, μ))) fun x y r => mz_ic_x (hK _) (hK _)
  case ifCond op off => exact mz_p1_x (g := fun w x r => mz_if op x (K' w (mz_a0 a, mz_kp kt L, r, μ)) (K' w (pc + len, mz_kp kn L, r, μ))) fun x r => mz_if_x (hK _) (hK _)
  case tableswitch => exact mz_p1_x (g := fun w x r => mz_sw x (fun t => K' w (t, L, r, μ)) (mz_a0 a) ps) fun x r => mz_sw_x (fun t => hK _)
  case lookupswitch => exact mz_p1_x (g := fun w x r => mz_sw x (fun t => K' w (t, L, r, μ)) (mz_a0 a) ps) fun x r => mz_sw_x (fun t => hK _)
  case invokevirtual =>
    cases a with
    | nil => exact False.elim
    | cons cj a' => exact mz_cl_x (g := fun w v μ' => K' w (pc + len, mz_kp kn L, v, μ')) (fun v μ => hK _)
  case getfield =>
    intro h
    obtain ⟨t, p, r, rfl, k1⟩ := mz_h1_i h
    split at k1
    · next ci fs cj k rest hsh =>
      obtain ⟨hb, k2⟩ := mz_bif_i k1
      split at k2
      · next hf =>
        obtain ⟨w, h1, h2⟩ := hK _ k2
        exact ⟨w, h1, by dsimp only [mz_op, mz_h1]; rw [hsh]; dsimp only; rw [hb, hf]; exact h2⟩
      · next b off t' hf =>
        obtain ⟨w, h1, h2⟩ := hK _ k2
        exact ⟨w, h1, by dsimp only [mz_op, mz_h1]; rw [hsh]; dsimp only; rw [hb, hf]; exact h2⟩
      · exact k2.elim
    · exact k1.elim
  case putfield =>
    intro h
    obtain ⟨x, r0, rfl, k0⟩ := mz_p1_i h
    obtain ⟨t, p, r, rfl, k1⟩ := mz_h1_i k0
    split at k1
    · next ci fs cj k b rest hsh =>
      obtain ⟨hb, k2⟩ := mz_bif_i k1
      split at k2
      · next hf =>
        obtain ⟨w, h1, h2⟩ := mz_bool_x (hK _) k2
        exact ⟨w, h1, by dsimp only [mz_op, mz_h1, mz_p1]; rw [hsh]; dsimp only; rw [hb, hf]; exact h2⟩
      · exact k2.elim
    · exact k1.elim
  case iaload =>
    intro h
    obtain ⟨x, r0, rfl, k0⟩ := mz_p1_i h
    obtain ⟨t, p, r, rfl, k1⟩ := mz_h1_i k0
    split at k1
    · next ti n q hsh =>
      obtain ⟨w, h1, h2⟩ := mz_and_x (hK _) k1
      exact ⟨w, h1, by dsimp only [mz_op, mz_h1, mz_p1]; rw [hsh]; exact h2⟩
    · exact k1.elim
  case laload =>
    intro h
    obtain ⟨x, r0, rfl, k0⟩ := mz_p1_i h
    obtain ⟨t, p, r, rfl, k1⟩ := mz_h1_i k0
    split at k1
    · next ti n q hsh =>
      obtain ⟨w, h1, h2⟩ := mz_and_x (hK _) k1
      exact ⟨w, h1, by dsimp only [mz_op, mz_h1, mz_p1]; rw [hsh]; exact h2⟩
    · exact k1.elim
  case aaload =>
    intro h
    obtain ⟨x, r0, rfl, k0⟩ := mz_p1_i h
    obtain ⟨t, p, r, rfl, k1⟩ := mz_h1_i k0
    split at k1
    · next ti n t' b off w' hsh =>
      obtain ⟨w, h1, h2⟩ := mz_and_x (hK _) k1
      exact ⟨w, h1, by dsimp only [mz_op, mz_h1, mz_p1]; rw [hsh]; exact h2⟩
    · exact k1.elim
  case iastore =>
    intro h
    obtain ⟨v, r1, rfl, k00⟩ := mz_p1_i h
    obtain ⟨x, r0, rfl, k0⟩ := mz_p1_i k00
    obtain ⟨t, p, r, rfl, k1⟩ := mz_h1_i k0
    split at k1
    · next ti n q hsh =>
      obtain ⟨w, h1, h2⟩ := mz_and_x (hK _) k1
      exact ⟨w, h1, by dsimp only [mz_op, mz_h1, mz_p1]; rw [hsh]; exact h2⟩
    · exact k1.elim
  case lastore =>
    intro h
    obtain ⟨v, r1, rfl, k00⟩ := mz_g1_i h
    obtain ⟨x, r0, rfl, k0⟩ := mz_p1_i k00
    obtain ⟨t, p, r, rfl, k1⟩ := mz_h1_i k0
    split at k1
    · next ti n q hsh =>
      obtain ⟨w, h1, h2⟩ := mz_and_x (hK _) k1
      exact ⟨w, h1, by dsimp only [mz_op, mz_h1, mz_p1, mz_g1]; rw [hsh]; exact h2⟩
    · exact k1.elim
  case arraylength =>
    intro h
    obtain ⟨t, p, r, rfl, k1⟩ := mz_h1_i h
    split at k1
    · next ti n q hsh =>
      obtain ⟨w, h1, h2⟩ := hK _ k1
      exact ⟨w, h1, by dsimp only [mz_op, mz_h1]; rw [hsh]; exact h2⟩
    · exact k1.elim
  case invokestatic =>
    cases a with
    | nil => exact False.elim
    | cons z a' =>
      cases z with
      | zero => exact mz_ac_x (gI := fun w p0 p1 s d n r => K' w (pc + len, mz_kp kn L, r, mz_cI μ p0 p1 s.toNatClampNeg d.toNatClampNeg n.toNatClampNeg)) (gL := fun w p0 p1 s d n r => K' w (pc + len, mz_kp kn L, r, mz_cL μ p0 p1 s.toNatClampNeg d.toNatClampNeg n.toNatClampNeg)) (fun _ _ _ _ _ _ => hK _) (fun _ _ _ _ _ _ => hK _)
      | succ z => exact mz_cl_x (g := fun w v μ' => K' w (pc + len, mz_kp kn L, v, μ')) (fun v μ => hK _)
  case ireturn =>
    match st with
    | [.inl x] => exact mz_bool_x (f := fun w => some (mz_I x) = w.1 ∧ μ = w.2) (fun h => ⟨(some (mz_I x), μ), h, rfl, rfl⟩)
    | [] => exact False.elim
    | [.inr _] => exact False.elim
    | .inl _ :: _ :: _ => exact False.elim
    | .inr (.inl _) :: _ :: _ => exact False.elim
    | .inr (.inr _) :: _ :: _ => exact False.elim
  case lreturn =>
    match st with
    | [.inr (.inl x)] => exact fun h => ⟨(some (mz_L x), μ), h, rfl, rfl⟩
    | [] => exact False.elim
    | [.inl _] => exact False.elim
    | [.inr (.inr _)] => exact False.elim
    | .inl _ :: _ :: _ => exact False.elim
    | .inr (.inl _) :: _ :: _ => exact False.elim
    | .inr (.inr _) :: _ :: _ => exact False.elim
  case areturn =>
    match st with
    | [.inr (.inr (t, p))] => exact fun h => ⟨(some (mz_R t p), μ), h, rfl, rfl⟩
    | [] => exact False.elim
    | [.inl _] => exact False.elim
    | [.inr (.inl _)] => exact False.elim
    | .inl _ :: _ :: _ => exact False.elim
    | .inr (.inl _) :: _ :: _ => exact False.elim
    | .inr (.inr _) :: _ :: _ => exact False.elim
  case return_ =>
    match st with
    | [] => exact fun h => ⟨(none, μ), h, rfl, rfl⟩
    | _ :: _ => exact False.elim
  all_goals first
    | exact hK _
    | exact False.elim
    | exact mz_p1_x fun x r => hK _
    | exact mz_p2_x fun x y r => hK _
    | exact mz_p2_x fun x y r => mz_and_x (hK _)
    | exact mz_g1_x fun x r => hK _
    | exact mz_g2_x fun x y r => hK _
    | exact mz_g2_x fun x y r => mz_and_x (hK _)
    | exact mz_h1_x fun x y r => hK _
    | exact mz_li_x fun x => hK _
    | exact mz_ll_x fun x => hK _
    | exact mz_lr_x fun x y => hK _
theorem mz_Ev.ex {SH : List mz_Sh} {tab : mz_T} {C : mz_Cl} {Q : Option mz_V → mz_M → Prop} {s : mz_S} (h : mz_Ev SH tab C Q s) : ∃ w : mz_O, Q w.1 w.2 ∧ mz_Ev SH tab C (fun r2 μ2 => r2 = w.1 ∧ μ2 = w.2) s := by
  refine h (fun s => ∃ w : mz_O, Q w.1 w.2 ∧ mz_Ev SH tab C (fun r2 μ2 => r2 = w.1 ∧ μ2 = w.2) s) (fun s hs => ?_)
  unfold mz_step at hs
  cases hk : mz_nth tab s.1 with
  | none => rw [hk] at hs; exact hs.elim
  | some o =>
    cases o with
    | none => rw [hk] at hs; exact hs.elim
    | some e =>
      rw [hk] at hs
      obtain ⟨w, h1, h2⟩ := mz_op_x (K' := fun w s => mz_Ev SH tab C (fun r2 μ2 => r2 = w.1 ∧ μ2 = w.2) s) (fun s h => h) hs
      exact ⟨w, h1, mz_Ev.step (by unfold mz_step; rw [hk]; exact h2)⟩
/-- the class's and the reference's methods, d calls deep -/
abbrev es_R (d : Nat) : mz_Cl := mz_Rel es_SH es_TB d
theorem es_ex {d y : Nat} {a : List mz_V} {μ : mz_M} {Q : Option mz_V → mz_M → Prop} (h : mz_Ev es_SH (es_TB y) (es_R d) Q (0, mz_ent 0 a, [], μ)) : ∃ r μ', es_R (d + 1) y a μ r μ' ∧ Q r μ' := by
  obtain ⟨⟨r, μ'⟩, h1, h2⟩ := h.ex
  exact ⟨r, μ', h2, h1⟩
end
section
/-! plain facts on numbers and arrays, to paste: each family by itself; over the kit's rows on nI and upd -/
/-! ===== order of ints, in all its forms, and through longs ===== -/
theorem fa_lt (a b : Int32) : a < b ↔ a.toInt < b.toInt := Int32.lt_iff_toInt_lt
theorem fa_le (a b : Int32) : a ≤ b ↔ a.toInt ≤ b.toInt := Int32.le_iff_toInt_le
theorem fa_eq (a b : Int32) : a = b ↔ a.toInt = b.toInt := Int32.toInt_inj.symm
theorem fa_lt64 (a b : Int64) : a < b ↔ a.toInt < b.toInt := Int64.lt_iff_toInt_lt
theorem fa_le64 (a b : Int64) : a ≤ b ↔ a.toInt ≤ b.toInt := Int64.le_iff_toInt_le
theorem fa_eq64 (a b : Int64) : a = b ↔ a.toInt = b.toInt := Int64.toInt_inj.symm
/-- a comparison of two ints taken as longs -/
theorem fa_wide_lt (a b : Int32) : a.toInt64 < b.toInt64 ↔ a < b := by rw [fa_lt64, fa_lt, Int32.toInt_toInt64, Int32.toInt_toInt64]
theorem fa_wide_le (a b : Int32) : a.toInt64 ≤ b.toInt64 ↔ a ≤ b := by rw [fa_le64, fa_le, Int32.toInt_toInt64, Int32.toInt_toInt64]
theorem fa_wide_eq (a b : Int32) : a.toInt64 = b.toInt64 ↔ a = b := by rw [fa_eq64, fa_eq, Int32.toInt_toInt64, Int32.toInt_toInt64]
/-- one strict comparison gives all the others -/
theorem fa_of_lt {a b : Int32} (h : a < b) : a ≤ b ∧ ¬ b ≤ a ∧ ¬ b < a ∧ a ≠ b ∧ b ≠ a := by
  rw [fa_lt] at h
  refine ⟨?_, ?_, ?_, ?_, ?_⟩
  · rw [fa_le]; omega
  · rw [fa_le]; omega
  · rw [fa_lt]; omega
  · intro e; rw [fa_eq] at e; omega
  · intro e; rw [fa_eq] at e; omega
theorem fa_of_nlt {a b : Int32} (h : ¬ a < b) : b ≤ a := by
  rw [fa_lt] at h
  rw [fa_le]
  omega
theorem fa_of_nle {a b : Int32} (h : ¬ a ≤ b) : b < a := by
  rw [fa_le] at h
  rw [fa_lt]
  omega
theorem fa_le_ne {a b : Int32} (h : a ≤ b) (h2 : a ≠ b) : a < b := by
  rw [fa_le] at h
  rw [fa_lt]
  have h3 : a.toInt ≠ b.toInt := fun e => h2 ((fa_eq a b).mpr e)
  omega
theorem fa_three (a b : Int32) : a < b ∨ a = b ∨ b < a := by
  rw [fa_lt, fa_lt, fa_eq]
  omega
theorem fa_trans {a b c : Int32} (h : a < b) (h2 : b ≤ c) : a < c := by
  rw [fa_lt] at *
  rw [fa_le] at h2
  omega
/-! ===== small literals as numbers ===== -/
theorem fa_lit (n : Nat) : (OfNat.ofNat n : Int32) = nI n := rfl
theorem fa_litL (n : Nat) : (OfNat.ofNat n : Int64) = lN n := rfl
/-! ===== bits of a number: 'or', masks, one bit ===== -/
theorem fa_and (a b : Nat) : nI a &&& nI b = nI (a &&& b) := by
  apply Int32.toBitVec_inj.1
  show BitVec.ofNat 32 a &&& BitVec.ofNat 32 b = BitVec.ofNat 32 (a &&& b)
  apply BitVec.eq_of_getLsbD_eq
  intro i hi
  simp [hi]
theorem fa_or (a b : Nat) : nI a ||| nI b = nI (a ||| b) := by
  apply Int32.toBitVec_inj.1
  show BitVec.ofNat 32 a ||| BitVec.ofNat 32 b = BitVec.ofNat 32 (a ||| b)
  apply BitVec.eq_of_getLsbD_eq
  intro i hi
  simp [hi]
/-- a remainder by a power of two, as a mask -/
theorem fa_mask (n k : Nat) : nI n &&& nI (2 ^ k - 1) = nI (n % 2 ^ k) := by rw [fa_and, Nat.and_two_pow_sub_one_eq_mod]
/-- 'or' of a high part and a low one that don't meet is their sum -/
theorem fa_or_sum {a k : Nat} (b : Nat) (h : a < 2 ^ k) : nI (2 ^ k * b) ||| nI a = nI (2 ^ k * b + a) := by rw [fa_or, Nat.two_pow_add_eq_or_of_lt h]
/-- one bit, by 'and' with a power of two -/
theorem fa_bit {n j : Nat} (hj : j < 31) : nI n &&& nI (2 ^ j) = 0 ↔ n.testBit j = false := by
  have h2 : (2 : Nat) ^ j < 2 ^ 31 := Nat.pow_lt_pow_right (by decide) hj
  have hle : n &&& 2 ^ j ≤ 2 ^ j := Nat.and_le_right
  have e : n &&& 2 ^ j = 0 ↔ n.testBit j = false := by
    constructor
    · intro h
      have h1 : (n &&& 2 ^ j).testBit j = false := by rw [h]; simp
      rw [Nat.testBit_and] at h1
      first | simpa using h1 | simpa [Nat.testBit_two_pow_self] using h1 | simpa [Nat.testBit_two_pow] using h1
    · intro h
      apply Nat.eq_of_testBit_eq
      intro i
      rw [Nat.testBit_and]
      by_cases hi : j = i
      · subst hi; simp [h]
      · first | (simp [Nat.testBit_two_pow, hi]; done) | (simp [Nat.testBit_two_pow_of_ne hi]; done)
  rw [fa_and]
  constructor
  · intro h
    apply e.mp
    rcases Nat.eq_zero_or_pos (n &&& 2 ^ j) with z | z
    · exact z
    · exact absurd h (nI_ne0 z (Nat.lt_of_le_of_lt hle h2))
  · intro h
    rw [e.mpr h]; exact nI_0
/-- a remainder by a power of two of a number that isn't negative, as Java divides -/
theorem fa_rem {a k : Nat} (ha : a < 2 ^ 31) (hk : k < 31) : nI a - nI a / nI (2 ^ k) * nI (2 ^ k) = nI (a % 2 ^ k) := pk_rem ha (Nat.two_pow_pos k) (Nat.pow_lt_pow_right (by decide) hk)
/-! ===== cuts to a byte, a short ===== -/
theorem fa_byte_xor (x y : Int32) : (x ^^^ y).toInt8 = x.toInt8 ^^^ y.toInt8 := by
  apply Int8.toBitVec_inj.1
  apply BitVec.eq_of_getLsbD_eq
  intro i hi
  first | (simp [hi]; done) | (simp [hi, BitVec.getLsbD_setWidth, BitVec.getLsbD_signExtend]; done)
theorem fa_short_xor (x y : Int32) : (x ^^^ y).toInt16 = x.toInt16 ^^^ y.toInt16 := by
  apply Int16.toBitVec_inj.1
  apply BitVec.eq_of_getLsbD_eq
  intro i hi
  first | (simp [hi]; done) | (simp [hi, BitVec.getLsbD_setWidth, BitVec.getLsbD_signExtend]; done)
/-- the cut to a byte sees the low byte alone -/
theorem fa_byte_low (x : Int32) : (x &&& 255).toInt8 = x.toInt8 := by
  apply Int8.toBitVec_inj.1
  apply BitVec.eq_of_getLsbD_eq
  intro i hi
  have h2 : (255 : Int32).toBitVec.getLsbD i = true := by
    have : ∀ j : Fin 8, (255 : Int32).toBitVec.getLsbD j.val = true := by decide +kernel
    exact this ⟨i, hi⟩
  have h4 : (x &&& 255).toBitVec.getLsbD i = x.toBitVec.getLsbD i := by
    show (x.toBitVec &&& (255 : Int32).toBitVec).getLsbD i = _
    rw [BitVec.getLsbD_and, h2, Bool.and_true]
  have h3 : i < 32 := by omega
  first
    | (show (((x &&& 255).toBitVec).signExtend 8).getLsbD i = (x.toBitVec.signExtend 8).getLsbD i; rw [BitVec.getLsbD_signExtend, BitVec.getLsbD_signExtend, if_pos h3, if_pos h3, h4])
    | (show (((x &&& 255).toBitVec).setWidth 8).getLsbD i = (x.toBitVec.setWidth 8).getLsbD i; rw [BitVec.getLsbD_setWidth, BitVec.getLsbD_setWidth, h4])
    | (simp [hi, h3, h4]; done)
theorem fa_short_low (x : Int32) : (x &&& 65535).toInt16 = x.toInt16 := by
  apply Int16.toBitVec_inj.1
  apply BitVec.eq_of_getLsbD_eq
  intro i hi
  have h2 : (65535 : Int32).toBitVec.getLsbD i = true := by
    have : ∀ j : Fin 16, (65535 : Int32).toBitVec.getLsbD j.val = true := by decide +kernel
    exact this ⟨i, hi⟩
  have h4 : (x &&& 65535).toBitVec.getLsbD i = x.toBitVec.getLsbD i := by
    show (x.toBitVec &&& (65535 : Int32).toBitVec).getLsbD i = _
    rw [BitVec.getLsbD_and, h2, Bool.and_true]
  have h3 : i < 32 := by omega
  first
    | (show (((x &&& 65535).toBitVec).signExtend 16).getLsbD i = (x.toBitVec.signExtend 16).getLsbD i; rw [BitVec.getLsbD_signExtend, BitVec.getLsbD_signExtend, if_pos h3, if_pos h3, h4])
    | (show (((x &&& 65535).toBitVec).setWidth 16).getLsbD i = (x.toBitVec.setWidth 16).getLsbD i; rw [BitVec.getLsbD_setWidth, BitVec.getLsbD_setWidth, h4])
    | (simp [hi, h3, h4]; done)
/-- a small number is its own byte, its own short -/
theorem fa_byte_small {n : Nat} (h : n < 128) : (nI n).toInt8.toInt32 = nI n := by
  have : ∀ j : Fin 128, (nI j.val).toInt8.toInt32 = nI j.val := by decide +kernel
  exact this ⟨n, h⟩
/-! ===== absolute difference ===== -/
theorem fa_absdiff {a b : Nat} (ha : a < 2 ^ 31) (hb : b < 2 ^ 31) : (if nI a < nI b then nI b - nI a else nI a - nI b) = nI (if a < b then b - a else a - b) := by
  by_cases h : a < b
  · rw [if_pos (nI_lt h hb), if_pos h]
    exact pk_sub (Nat.le_of_lt h)
  · rw [if_neg (nI_nlt (Nat.le_of_not_lt h) ha), if_neg h]
    exact pk_sub (Nat.le_of_not_lt h)
/-! ===== an array behind i stores, a conditional store, a row copied ===== -/
/-- f where k < i, what stood there else -/
def fa_fill {α : Type} (f g : Nat → α) (i : Nat) : Nat → α := fun k => if k < i then f k else g k
theorem fa_fill_0 {α : Type} (f g : Nat → α) : fa_fill f g 0 = g := funext fun k => if_neg (Nat.not_lt_zero k)
theorem fa_fill_in {α : Type} {f g : Nat → α} {i k : Nat} (h : k < i) : fa_fill f g i k = f k := if_pos h
theorem fa_fill_out {α : Type} {f g : Nat → α} {i k : Nat} (h : i ≤ k) : fa_fill f g i k = g k := if_neg (Nat.not_lt.mpr h)
theorem fa_fill_succ (f g : Nat → Int32) (i : Nat) : upd (fa_fill f g i) i (f i) = fa_fill f g (i + 1) := by
  funext k
  by_cases e : k = i
  · subst e
    rw [pk_us]
    exact (if_pos (Nat.lt_succ_self k)).symm
  · rw [pk_un e]
    by_cases h : k < i
    · rw [fa_fill_in h, fa_fill_in (Nat.lt_succ_of_lt h)]
    · rw [fa_fill_out (Nat.le_of_not_lt h), fa_fill_out (by omega)]
/-- a store that changes nothing -/
theorem fa_upd_same {f : Nat → Int32} {i : Nat} {x : Int32} (h : f i = x) : upd f i x = f := by
  funext k
  by_cases e : k = i
  · subst e
    rw [pk_us, h]
  · rw [pk_un e]
/-- a store under a condition, told as one -/
theorem fa_upd_if (c : Prop) [Decidable c] (f : Nat → Int32) (i : Nat) (x : Int32) : (if c then upd f i x else f) = upd f i (if c then x else f i) := by
  by_cases h : c
  · rw [if_pos h, if_pos h]
  · rw [if_neg h, if_neg h, fa_upd_same rfl]
/-- two stores at one place, at two -/
theorem fa_upd_twice (f : Nat → Int32) (i : Nat) (x y : Int32) : upd (upd f i x) i y = upd f i y := by
  funext k
  by_cases e : k = i
  · subst e
    rw [pk_us, pk_us]
  · rw [pk_un e, pk_un e, pk_un e]
theorem fa_upd_swap (f : Nat → Int32) {i j : Nat} (h : i ≠ j) (x y : Int32) : upd (upd f i x) j y = upd (upd f j y) i x := by
  funext k
  by_cases e : k = i
  · subst e
    rw [pk_un h, pk_us, pk_us]
  · by_cases e2 : k = j
    · subst e2
      rw [pk_us, pk_un e, pk_us]
    · rw [pk_un e2, pk_un e, pk_un e, pk_un e2]
/-! ===== the first index with a property; a count ===== -/
/-- the first k < n with p k, n if there is none -/
def fa_first (p : Nat → Bool) : Nat → Nat
  | 0 => 0
  | n + 1 => if fa_first p n < n then fa_first p n else if p n then n else n + 1
theorem fa_first_le (p : Nat → Bool) : ∀ n, fa_first p n ≤ n
  | 0 => Nat.le_refl 0
  | n + 1 => by
    have ih := fa_first_le p n
    unfold fa_first
    split
    · omega
    · split
      · omega
      · omega
theorem fa_first_no (p : Nat → Bool) : ∀ n k, k < fa_first p n → p k = false
  | 0, k, h => absurd h (Nat.not_lt_zero k)
  | n + 1, k, h => by
    have ih := fa_first_no p n
    have hl := fa_first_le p n
    unfold fa_first at h
    split at h
    · exact ih k h
    · rename_i h1
      split at h
      · exact ih k (by omega)
      · rename_i h2
        by_cases e : k = n
        · subst e
          exact Bool.eq_false_iff.mpr h2
        · exact ih k (by omega)
theorem fa_first_yes (p : Nat → Bool) : ∀ n, fa_first p n < n → p (fa_first p n) = true
  | 0, h => absurd h (Nat.not_lt_zero _)
  | n + 1, h => by
    have ih := fa_first_yes p n
    have hl := fa_first_le p n
    unfold fa_first at h ⊢
    split at h
    · rename_i h1
      rw [if_pos h1]
      exact ih h1
    · rename_i h1
      rw [if_neg h1]
      split at h
      · rename_i h2
        rw [if_pos h2]
        exact h2
      · omega
/-- how many k < n have p k -/
def fa_cnt (p : Nat → Bool) : Nat → Nat
  | 0 => 0
  | n + 1 => fa_cnt p n + if p n then 1 else 0
theorem fa_cnt_le (p : Nat → Bool) : ∀ n, fa_cnt p n ≤ n
  | 0 => Nat.le_refl 0
  | n + 1 => by
    have ih := fa_cnt_le p n
    unfold fa_cnt
    split
    · omega
    · omega
theorem fa_cnt_yes {p : Nat → Bool} {n : Nat} (h : p n = true) : fa_cnt p (n + 1) = fa_cnt p n + 1 := by rw [fa_cnt, if_pos h]
theorem fa_cnt_no {p : Nat → Bool} {n : Nat} (h : p n = false) : fa_cnt p (n + 1) = fa_cnt p n := by rw [fa_cnt, if_neg (by rw [h]; decide)]; rfl
theorem fa_cnt_cong {p q : Nat → Bool} : ∀ {n : Nat}, (∀ k, k < n → p k = q k) → fa_cnt p n = fa_cnt q n
  | 0, _ => rfl
  | n + 1, h => by rw [fa_cnt, fa_cnt, fa_cnt_cong (fun k hk => h k (Nat.lt_succ_of_lt hk)), h n (Nat.lt_succ_self n)]
/-! ===== an answer carried into a post; a branch on a boolean answer ===== -/
theorem fa_post {α : Type} {P : α → Prop} {x y : α} (h : x = y) (hp : P y) : P x := h ▸ hp
theorem fa_post2 {α β : Type} {P : α → β → Prop} {x y : α} {u v : β} (h : x = y) (h2 : u = v) (hp : P y v) : P x u := h ▸ h2 ▸ hp
theorem fa_bool {r : Int32} {b : Bool} (h : r = if b then 1 else 0) : (r = 0 ↔ b = false) ∧ (¬ r = 0 ↔ b = true) := by
  subst h
  cases b
  · exact ⟨⟨fun _ => rfl, fun _ => rfl⟩, ⟨fun h => absurd rfl h, fun h => absurd h (by decide)⟩⟩
  · exact ⟨⟨fun h => absurd h (by decide), fun h => absurd h (by decide)⟩, ⟨fun _ => rfl, fun _ => by decide⟩⟩
/-- a boolean's narrowing changes nothing -/
theorem fa_bool_and {r : Int32} (h : r = 0 ∨ r = 1) : r &&& 1 = r := by
  rcases h with rfl | rfl
  · decide
  · decide
theorem fa_bool_prop {c : Prop} [Decidable c] {r : Int32} (h : r = if c then 1 else 0) : (r = 0 ↔ ¬ c) ∧ (¬ r = 0 ↔ c) := by
  subst h
  by_cases hc : c
  · rw [if_pos hc]
    exact ⟨⟨fun h => absurd h (by decide), fun h => absurd hc h⟩, ⟨fun _ => hc, fun _ => by decide⟩⟩
  · rw [if_neg hc]
    exact ⟨⟨fun _ => hc, fun _ => rfl⟩, ⟨fun h => absurd rfl h, fun h => absurd h hc⟩⟩
end
section
/-! plain facts to paste, each family by itself; over the kit's nI, lN and upd -/
/-! ===== drawers: more things than places ===== -/
theorem fb_holes : ∀ (m n : Nat) (f : Nat → Nat), (∀ i, i < n → f i < m) → (∀ i j, i < j → j < n → f i ≠ f j) → n ≤ m := by
  intro m
  induction m with
  | zero =>
    intro n f h1 _
    rcases Nat.eq_zero_or_pos n with h | h
    · omega
    · exact absurd (h1 0 h) (Nat.not_lt_zero _)
  | succ m ih =>
    intro n f h1 h2
    by_cases hx : ∃ i, i < n ∧ f i = m
    · obtain ⟨a, ha, hfa⟩ := hx
      have hg := ih (n - 1) (fun i => if i < a then f i else f (i + 1)) (by
        intro i hi
        by_cases q : i < a
        · simp only [if_pos q]
          have b1 := h1 i (by omega)
          have b2 := h2 i a q ha
          omega
        · simp only [if_neg q]
          have b1 := h1 (i + 1) (by omega)
          have b2 := h2 a (i + 1) (by omega) (by omega)
          omega) (by
        intro i j hij hj
        by_cases q : i < a
        · by_cases r : j < a
          · simp only [if_pos q, if_pos r]
            exact h2 i j hij (by omega)
          · simp only [if_pos q, if_neg r]
            exact h2 i (j + 1) (by omega) (by omega)
        · have r : ¬ j < a := by omega
          simp only [if_neg q, if_neg r]
          exact h2 (i + 1) (j + 1) (by omega) (by omega))
      omega
    · have hg := ih n f (fun i hi => by
        have b1 := h1 i hi
        have b2 : f i ≠ m := fun e => hx ⟨i, hi, e⟩
        omega) h2
      omega
/-- two of them in one place -/
theorem fb_twice {m n : Nat} {f : Nat → Nat} (h : ∀ i, i < n → f i < m) (hm : m < n) : ∃ i j, i < j ∧ j < n ∧ f i = f j := by
  refine Classical.byContradiction fun hx => ?_
  have := fb_holes m n f h (fun i j hij hj e => hx ⟨i, j, hij, hj, e⟩)
  omega
/-- as many as places, none twice: each place is taken -/
theorem fb_onto {n : Nat} {f : Nat → Nat} (h : ∀ i, i < n → f i < n) (h2 : ∀ i j, i < j → j < n → f i ≠ f j) {y : Nat} (hy : y < n) : ∃ i, i < n ∧ f i = y := by
  refine Classical.byContradiction fun hx => ?_
  have hne : ∀ i, i < n → f i ≠ y := fun i hi e => hx ⟨i, hi, e⟩
  have := fb_holes (n - 1) n (fun i => if f i < y then f i else f i - 1) (by
    intro i hi
    have b1 := h i hi
    have b2 := hne i hi
    by_cases q : f i < y
    · simp only [if_pos q]; omega
    · simp only [if_neg q]; omega) (by
    intro i j hij hj
    have b1 := hne i (by omega)
    have b2 := hne j hj
    have b3 := h2 i j hij hj
    by_cases q : f i < y
    · by_cases r : f j < y
      · simp only [if_pos q, if_pos r]; exact b3
      · simp only [if_pos q, if_neg r]; omega
    · by_cases r : f j < y
      · simp only [if_neg q, if_pos r]; omega
      · simp only [if_neg q, if_neg r]; omega)
  omega
/-! ===== how many places have a property ===== -/
def fb_ct (p : Nat → Bool) : Nat → Nat
  | 0 => 0
  | n + 1 => fb_ct p n + (if p n then 1 else 0)
theorem fb_ct_succ (p : Nat → Bool) (n : Nat) : fb_ct p (n + 1) = fb_ct p n + (if p n then 1 else 0) := rfl
theorem fb_ct_le (p : Nat → Bool) : ∀ n, fb_ct p n ≤ n
  | 0 => Nat.le_refl _
  | n + 1 => by
    have h := fb_ct_le p n
    rw [fb_ct_succ]
    split <;> omega
theorem fb_ct_step (p : Nat → Bool) (m : Nat) : ∀ n, fb_ct p m ≤ fb_ct p (m + n)
  | 0 => Nat.le_refl _
  | n + 1 => by
    have h := fb_ct_step p m n
    show fb_ct p m ≤ fb_ct p (m + n + 1)
    rw [fb_ct_succ]
    omega
theorem fb_ct_mono (p : Nat → Bool) {m n : Nat} (h : m ≤ n) : fb_ct p m ≤ fb_ct p n := by
  have := fb_ct_step p m (n - m)
  rwa [Nat.add_sub_cancel' h] at this
theorem fb_ct_cong {p q : Nat → Bool} : ∀ {n : Nat}, (∀ k, k < n → p k = q k) → fb_ct p n = fb_ct q n
  | 0, _ => rfl
  | n + 1, h => by
    rw [fb_ct_succ, fb_ct_succ, fb_ct_cong (fun k hk => h k (by omega)), h n (by omega)]
/-- one place changed -/
theorem fb_ct_out (p : Nat → Bool) (b : Bool) {i n : Nat} (h : n ≤ i) : fb_ct (fun k => if k = i then b else p k) n = fb_ct p n :=
  fb_ct_cong fun k hk => if_neg (by omega)
theorem fb_ct_upd (p : Nat → Bool) (b : Bool) {i : Nat} : ∀ {n : Nat}, i < n → fb_ct (fun k => if k = i then b else p k) n + (if p i then 1 else 0) = fb_ct p n + (if b then 1 else 0)
  | 0, h => absurd h (Nat.not_lt_zero i)
  | n + 1, h => by
    rw [fb_ct_succ, fb_ct_succ]
    rcases Nat.lt_or_ge i n with q | q
    · have := fb_ct_upd p b q
      have e : (if n = i then b else p n) = p n := if_neg (by omega)
      rw [e]
      omega
    · have e : i = n := by omega
      subst e
      rw [fb_ct_out p b (Nat.le_refl _)]
      simp only [if_true]
      omega
theorem fb_ct_sub {p q : Nat → Bool} : ∀ {n : Nat}, (∀ k, k < n → p k = true → q k = true) → fb_ct p n ≤ fb_ct q n
  | 0, _ => Nat.le_refl _
  | n + 1, h => by
    have h1 := fb_ct_sub (n := n) (p := p) (q := q) (fun k hk => h k (by omega))
    have h2 := h n (by omega)
    rw [fb_ct_succ, fb_ct_succ]
    cases hp : p n <;> cases hq : q n <;> simp_all <;> omega
theorem fb_ct_or {p q : Nat → Bool} : ∀ {n : Nat}, (∀ k, k < n → ¬ (p k = true ∧ q k = true)) → fb_ct (fun k => p k || q k) n = fb_ct p n + fb_ct q n
  | 0, _ => rfl
  | n + 1, h => by
    have h1 := fb_ct_or (n := n) (p := p) (q := q) (fun k hk => h k (by omega))
    have h2 := h n (by omega)
    rw [fb_ct_succ, fb_ct_succ, fb_ct_succ, h1]
    cases hp : p n <;> cases hq : q n <;> simp_all <;> omega
theorem fb_ct_not (p : Nat → Bool) : ∀ n, fb_ct p n + fb_ct (fun k => !p k) n = n
  | 0 => rfl
  | n + 1 => by
    have h := fb_ct_not p n
    rw [fb_ct_succ, fb_ct_succ]
    cases p n <;> simp <;> omega
theorem fb_ct_split (p : Nat → Bool) (m : Nat) : ∀ n, fb_ct p (m + n) = fb_ct p m + fb_ct (fun k => p (m + k)) n
  | 0 => rfl
  | n + 1 => by
    have h := fb_ct_split p m n
    show fb_ct p (m + n + 1) = _
    rw [fb_ct_succ, fb_ct_succ, h, Nat.add_assoc]
theorem fb_ct_zero {p : Nat → Bool} : ∀ {n : Nat}, fb_ct p n = 0 ↔ ∀ k, k < n → p k = false
  | 0 => ⟨fun _ k hk => absurd hk (Nat.not_lt_zero k), fun _ => rfl⟩
  | n + 1 => by
    have h := fb_ct_zero (p := p) (n := n)
    rw [fb_ct_succ]
    constructor
    · intro e k hk
      have e1 : fb_ct p n = 0 := by omega
      rcases Nat.lt_or_ge k n with q | q
      · exact h.mp e1 k q
      · have ek : k = n := by omega
        subst ek
        cases hp : p k
        · rfl
        · simp [hp] at e
    · intro a
      rw [h.mpr (fun k hk => a k (by omega)), a n (by omega)]
      rfl
theorem fb_ct_pos {p : Nat → Bool} {n : Nat} : 0 < fb_ct p n ↔ ∃ k, k < n ∧ p k = true := by
  constructor
  · intro h
    refine Classical.byContradiction fun hx => ?_
    have := fb_ct_zero.mpr (fun k hk => by
      cases hp : p k
      · rfl
      · exact absurd ⟨k, hk, hp⟩ hx : ∀ k, k < n → p k = false)
    omega
  · rintro ⟨k, hk, hp⟩
    rcases Nat.eq_zero_or_pos (fb_ct p n) with e | e
    · have := fb_ct_zero.mp e k hk
      rw [this] at hp
      cases hp
    · exact e
theorem fb_ct_all {p : Nat → Bool} {n : Nat} : fb_ct p n = n ↔ ∀ k, k < n → p k = true := by
  have h := fb_ct_not p n
  constructor
  · intro e k hk
    have z : fb_ct (fun k => !p k) n = 0 := by omega
    have := fb_ct_zero.mp z k hk
    cases hp : p k
    · simp [hp] at this
    · rfl
  · intro a
    have z : fb_ct (fun k => !p k) n = 0 := fb_ct_zero.mpr (fun k hk => by simp [a k hk])
    omega
/-- the k-th place with the property -/
theorem fb_ct_kth {p : Nat → Bool} {k : Nat} : ∀ {n : Nat}, k < fb_ct p n → ∃ i, i < n ∧ p i = true ∧ fb_ct p i = k
  | 0, h => absurd h (Nat.not_lt_zero k)
  | n + 1, h => by
    rcases Nat.lt_or_ge k (fb_ct p n) with q | q
    · obtain ⟨i, h1, h2⟩ := fb_ct_kth q
      exact ⟨i, by omega, h2⟩
    · rw [fb_ct_succ] at h
      cases hp : p n
      · simp [hp] at h; omega
      · simp [hp] at h
        exact ⟨n, by omega, hp, by omega⟩
theorem fb_ct_kth_one {p : Nat → Bool} {i j : Nat} (hi : p i = true) (hj : p j = true) (e : fb_ct p i = fb_ct p j) : i = j := by
  have key : ∀ a b : Nat, a < b → p a = true → fb_ct p a < fb_ct p b := by
    intro a b hab ha
    have h := fb_ct_mono p (show a + 1 ≤ b from hab)
    rw [fb_ct_succ, ha] at h
    simp at h
    omega
  rcases Nat.lt_trichotomy i j with q | q | q
  · have := key i j q hi; omega
  · exact q
  · have := key j i q hj; omega
/-! ===== sums over a range: one place changed, parts, bounds ===== -/
def fb_sm (f : Nat → Nat) : Nat → Nat
  | 0 => 0
  | n + 1 => fb_sm f n + f n
theorem fb_sm_succ (f : Nat → Nat) (n : Nat) : fb_sm f (n + 1) = fb_sm f n + f n := rfl
theorem fb_sm_cong {f g : Nat → Nat} : ∀ {n : Nat}, (∀ k, k < n → f k = g k) → fb_sm f n = fb_sm g n
  | 0, _ => rfl
  | n + 1, h => by rw [fb_sm_succ, fb_sm_succ, fb_sm_cong (fun k hk => h k (by omega)), h n (by omega)]
theorem fb_sm_out (f : Nat → Nat) (v : Nat) {i n : Nat} (h : n ≤ i) : fb_sm (fun k => if k = i then v else f k) n = fb_sm f n :=
  fb_sm_cong fun k hk => if_neg (by omega)
theorem fb_sm_upd (f : Nat → Nat) (v : Nat) {i : Nat} : ∀ {n : Nat}, i < n → fb_sm (fun k => if k = i then v else f k) n + f i = fb_sm f n + v
  | 0, h => absurd h (Nat.not_lt_zero i)
  | n + 1, h => by
    rw [fb_sm_succ, fb_sm_succ]
    rcases Nat.lt_or_ge i n with q | q
    · have := fb_sm_upd f v q
      have e : (if n = i then v else f n) = f n := if_neg (by omega)
      rw [e]
      omega
    · have e : i = n := by omega
      subst e
      rw [fb_sm_out f v (Nat.le_refl _)]
      simp only [if_true]
      omega
theorem fb_sm_add (f g : Nat → Nat) : ∀ n, fb_sm (fun k => f k + g k) n = fb_sm f n + fb_sm g n
  | 0 => rfl
  | n + 1 => by
    have h := fb_sm_add f g n
    rw [fb_sm_succ, fb_sm_succ, fb_sm_succ, h]
    omega
theorem fb_sm_le {f g : Nat → Nat} : ∀ {n : Nat}, (∀ k, k < n → f k ≤ g k) → fb_sm f n ≤ fb_sm g n
  | 0, _ => Nat.le_refl _
  | n + 1, h => by
    have h1 := fb_sm_le (n := n) (f := f) (g := g) (fun k hk => h k (by omega))
    have h2 := h n (by omega)
    rw [fb_sm_succ, fb_sm_succ]
    omega
theorem fb_sm_const (c : Nat) : ∀ n, fb_sm (fun _ => c) n = n * c
  | 0 => by rw [Nat.zero_mul]; rfl
  | n + 1 => by rw [fb_sm_succ, fb_sm_const c n, Nat.succ_mul]
theorem fb_sm_bound {f : Nat → Nat} {c n : Nat} (h : ∀ k, k < n → f k ≤ c) : fb_sm f n ≤ n * c := by
  rw [← fb_sm_const c n]
  exact fb_sm_le h
theorem fb_sm_mono (f : Nat → Nat) (m : Nat) : ∀ n, fb_sm f m ≤ fb_sm f (m + n)
  | 0 => Nat.le_refl _
  | n + 1 => by
    have h := fb_sm_mono f m n
    show fb_sm f m ≤ fb_sm f (m + n + 1)
    rw [fb_sm_succ]
    omega
theorem fb_sm_part (f : Nat → Nat) {i n : Nat} (h : i < n) : fb_sm f i + f i ≤ fb_sm f n := by
  have := fb_sm_mono f (i + 1) (n - (i + 1))
  rw [fb_sm_succ, show i + 1 + (n - (i + 1)) = n by omega] at this
  exact this
theorem fb_sm_split (f : Nat → Nat) (m : Nat) : ∀ n, fb_sm f (m + n) = fb_sm f m + fb_sm (fun k => f (m + k)) n
  | 0 => rfl
  | n + 1 => by
    have h := fb_sm_split f m n
    show fb_sm f (m + n + 1) = _
    rw [fb_sm_succ, fb_sm_succ, h, Nat.add_assoc]
theorem fb_sm_zero {f : Nat → Nat} {n : Nat} (h : fb_sm f n = 0) : ∀ k, k < n → f k = 0 := fun k hk => by
  have := fb_sm_part f hk
  omega
/-- the same over whole numbers -/
def fb_si (f : Nat → Int) : Nat → Int
  | 0 => 0
  | n + 1 => fb_si f n + f n
theorem fb_si_succ (f : Nat → Int) (n : Nat) : fb_si f (n + 1) = fb_si f n + f n := rfl
theorem fb_si_cong {f g : Nat → Int} : ∀ {n : Nat}, (∀ k, k < n → f k = g k) → fb_si f n = fb_si g n
  | 0, _ => rfl
  | n + 1, h => by rw [fb_si_succ, fb_si_succ, fb_si_cong (fun k hk => h k (by omega)), h n (by omega)]
theorem fb_si_out (f : Nat → Int) (v : Int) {i n : Nat} (h : n ≤ i) : fb_si (fun k => if k = i then v else f k) n = fb_si f n :=
  fb_si_cong fun k hk => if_neg (by omega)
theorem fb_si_upd (f : Nat → Int) (v : Int) {i : Nat} : ∀ {n : Nat}, i < n → fb_si (fun k => if k = i then v else f k) n = fb_si f n - f i + v
  | 0, h => absurd h (Nat.not_lt_zero i)
  | n + 1, h => by
    rw [fb_si_succ, fb_si_succ]
    rcases Nat.lt_or_ge i n with q | q
    · have := fb_si_upd f v q
      have e : (if n = i then v else f n) = f n := if_neg (by omega)
      rw [e]
      omega
    · have e : i = n := by omega
      subst e
      rw [fb_si_out f v (Nat.le_refl _)]
      simp only [if_true]
      omega
theorem fb_si_add (f g : Nat → Int) : ∀ n, fb_si (fun k => f k + g k) n = fb_si f n + fb_si g n
  | 0 => rfl
  | n + 1 => by
    have h := fb_si_add f g n
    rw [fb_si_succ, fb_si_succ, fb_si_succ, h]
    omega
theorem fb_si_sub (f g : Nat → Int) : ∀ n, fb_si (fun k => f k - g k) n = fb_si f n - fb_si g n
  | 0 => rfl
  | n + 1 => by
    have h := fb_si_sub f g n
    rw [fb_si_succ, fb_si_succ, fb_si_succ, h]
    omega
theorem fb_si_mul (c : Int) (f : Nat → Int) : ∀ n, fb_si (fun k => c * f k) n = c * fb_si f n
  | 0 => (Int.mul_zero c).symm
  | n + 1 => by
    have h := fb_si_mul c f n
    rw [fb_si_succ, fb_si_succ, h, Int.mul_add]
theorem fb_si_split (f : Nat → Int) (m : Nat) : ∀ n, fb_si f (m + n) = fb_si f m + fb_si (fun k => f (m + k)) n
  | 0 => (Int.add_zero _).symm
  | n + 1 => by
    have h := fb_si_split f m n
    show fb_si f (m + n + 1) = _
    rw [fb_si_succ, fb_si_succ, h, Int.add_assoc]
theorem fb_si_nat (f : Nat → Nat) : ∀ n, fb_si (fun k => (f k : Int)) n = (fb_sm f n : Int)
  | 0 => rfl
  | n + 1 => by
    have h := fb_si_nat f n
    rw [fb_si_succ, fb_sm_succ, h]
    omega
theorem fb_si_bound {f : Nat → Int} {c : Int} (hc : 0 ≤ c) : ∀ {n : Nat}, (∀ k, k < n → -c ≤ f k ∧ f k ≤ c) → -(n * c) ≤ fb_si f n ∧ fb_si f n ≤ n * c
  | 0, _ => by simp [fb_si]
  | n + 1, h => by
    have h1 := fb_si_bound (n := n) (f := f) hc (fun k hk => h k (by omega))
    have h2 := h n (by omega)
    have e : ((n + 1 : Nat) : Int) * c = n * c + c := by rw [Int.natCast_add, Int.add_mul]; simp
    rw [fb_si_succ, e]
    omega
/-! ===== bits of a long that isn't negative ===== -/
theorem fb_andL (a b : Nat) : lN a &&& lN b = lN (a &&& b) := by
  apply Int64.toBitVec_inj.1
  show BitVec.ofNat 64 a &&& BitVec.ofNat 64 b = BitVec.ofNat 64 (a &&& b)
  apply BitVec.eq_of_getLsbD_eq
  intro i hi
  simp [hi]
theorem fb_orL (a b : Nat) : lN a ||| lN b = lN (a ||| b) := by
  apply Int64.toBitVec_inj.1
  show BitVec.ofNat 64 a ||| BitVec.ofNat 64 b = BitVec.ofNat 64 (a ||| b)
  apply BitVec.eq_of_getLsbD_eq
  intro i hi
  simp [hi]
theorem fb_xorL (a b : Nat) : lN a ^^^ lN b = lN (a ^^^ b) := by
  apply Int64.toBitVec_inj.1
  show BitVec.ofNat 64 a ^^^ BitVec.ofNat 64 b = BitVec.ofNat 64 (a ^^^ b)
  apply BitVec.eq_of_getLsbD_eq
  intro i hi
  simp [hi]
theorem fb_xorI (a b : Nat) : nI a ^^^ nI b = nI (a ^^^ b) := by
  apply Int32.toBitVec_inj.1
  show BitVec.ofNat 32 a ^^^ BitVec.ofNat 32 b = BitVec.ofNat 32 (a ^^^ b)
  apply BitVec.eq_of_getLsbD_eq
  intro i hi
  simp [hi]
theorem fb_maskL (n k : Nat) : lN n &&& lN (2 ^ k - 1) = lN (n % 2 ^ k) := by rw [fb_andL, Nat.and_two_pow_sub_one_eq_mod]
theorem fb_or_sumL {a k : Nat} (b : Nat) (h : a < 2 ^ k) : lN (2 ^ k * b) ||| lN a = lN (2 ^ k * b + a) := by rw [fb_orL, Nat.two_pow_add_eq_or_of_lt h]
theorem fb_lN_inj {a b : Nat} (ha : a < 2 ^ 63) (hb : b < 2 ^ 63) : lN a = lN b ↔ a = b := by
  constructor
  · intro h
    have h1 : (BitVec.ofNat 64 a).toNat = (BitVec.ofNat 64 b).toNat := congrArg (fun x : Int64 => x.toBitVec.toNat) h
    rw [BitVec.toNat_ofNat, BitVec.toNat_ofNat, Nat.mod_eq_of_lt (by omega), Nat.mod_eq_of_lt (by omega)] at h1
    exact h1
  · rintro rfl; rfl
theorem fb_bit_nat (n j : Nat) : n &&& 2 ^ j = 0 ↔ n.testBit j = false := by
  constructor
  · intro h
    have h1 : (n &&& 2 ^ j).testBit j = false := by rw [h]; simp
    rw [Nat.testBit_and] at h1
    simpa using h1
  · intro h
    apply Nat.eq_of_testBit_eq
    intro i
    rw [Nat.testBit_and]
    by_cases hi : j = i
    · subst hi; simp [h]
    · first | (simp [Nat.testBit_two_pow, hi]; done) | (simp [Nat.testBit_two_pow_of_ne hi]; done)
/-- one bit of a long -/
theorem fb_bitL {n j : Nat} (hj : j < 63) : lN n &&& lN (2 ^ j) = 0 ↔ n.testBit j = false := by
  have h2 : (2 : Nat) ^ j < 2 ^ 63 := Nat.pow_lt_pow_right (by decide) hj
  have hle : n &&& 2 ^ j ≤ 2 ^ j := Nat.and_le_right
  rw [fb_andL, ← fb_bit_nat, show (0 : Int64) = lN 0 from rfl]
  exact fb_lN_inj (by omega) (by decide)
/-- a bit set, a bit taken off -/
theorem fb_bit_set (n j i : Nat) : (n ||| 2 ^ j).testBit i = (n.testBit i || decide (i = j)) := by
  rw [Nat.testBit_or]
  by_cases h : j = i
  · subst h; simp
  · have h2 : ¬ i = j := fun e => h e.symm
    first | (simp [Nat.testBit_two_pow, h, h2]; done) | (simp [Nat.testBit_two_pow_of_ne h, h2]; done)
theorem fb_bit_flip (n j i : Nat) : (n ^^^ 2 ^ j).testBit i = (n.testBit i ^^ decide (i = j)) := by
  rw [Nat.testBit_xor]
  by_cases h : j = i
  · subst h; simp
  · have h2 : ¬ i = j := fun e => h e.symm
    first | (simp [Nat.testBit_two_pow, h, h2]; done) | (simp [Nat.testBit_two_pow_of_ne h, h2]; done)
/-! ===== a stretch of an array written over by a function ===== -/
def fb_put {α : Type} (f g : Nat → α) (a n : Nat) : Nat → α := fun k => if a ≤ k ∧ k < a + n then g (k - a) else f k
theorem fb_put_0 {α : Type} (f g : Nat → α) (a : Nat) : fb_put f g a 0 = f := funext fun k => if_neg (by omega)
theorem fb_put_in {α : Type} {f g : Nat → α} {a n k : Nat} (h1 : a ≤ k) (h2 : k < a + n) : fb_put f g a n k = g (k - a) := if_pos ⟨h1, h2⟩
theorem fb_put_out {α : Type} {f g : Nat → α} {a n k : Nat} (h : k < a ∨ a + n ≤ k) : fb_put f g a n k = f k := if_neg (by omega)
theorem fb_put_succ (f g : Nat → Int32) (a n : Nat) : upd (fb_put f g a n) (a + n) (g n) = fb_put f g a (n + 1) := by
  funext k
  by_cases h : k = a + n
  · subst h
    simp [upd, fb_put]
  · by_cases h1 : a ≤ k ∧ k < a + n
    · have h2 : a ≤ k ∧ k < a + (n + 1) := by omega
      simp only [upd, fb_put, if_neg h, if_pos h1, if_pos h2]
    · have h2 : ¬ (a ≤ k ∧ k < a + (n + 1)) := by omega
      simp only [upd, fb_put, if_neg h, if_neg h1, if_neg h2]
/-- .. from the far end down -/
theorem fb_put_down (f g : Nat → Int32) {a n m : Nat} (h : m < n) : upd (fb_put f (fun k => g (k + (m + 1))) (a + (m + 1)) (n - (m + 1))) (a + m) (g m) = fb_put f (fun k => g (k + m)) (a + m) (n - m) := by
  funext k
  by_cases h0 : k = a + m
  · subst h0
    simp only [upd, if_true]
    rw [fb_put_in (by omega) (by omega)]
    exact congrArg g (by omega)
  · simp only [upd, if_neg h0]
    by_cases h1 : a + (m + 1) ≤ k ∧ k < a + (m + 1) + (n - (m + 1))
    · rw [fb_put_in h1.1 h1.2, fb_put_in (by omega) (by omega)]
      exact congrArg g (by omega)
    · rw [fb_put_out (by omega), fb_put_out (by omega)]
theorem fb_put_cong {α : Type} {f f2 g g2 : Nat → α} {a n : Nat} (hf : ∀ k, (k < a ∨ a + n ≤ k) → f k = f2 k) (hg : ∀ k, k < n → g k = g2 k) : fb_put f g a n = fb_put f2 g2 a n := by
  funext k
  by_cases h : a ≤ k ∧ k < a + n
  · rw [fb_put_in h.1 h.2, fb_put_in h.1 h.2, hg _ (by omega)]
  · rw [fb_put_out (by omega), fb_put_out (by omega), hf _ (by omega)]
/-! ===== the least, the first, the best so far; that there is one alone ===== -/
theorem fb_first {p : Nat → Prop} [DecidablePred p] : ∀ {n : Nat}, (∃ i, i < n ∧ p i) → ∃ i, i < n ∧ p i ∧ ∀ j, j < i → ¬ p j
  | 0, h => by obtain ⟨i, hi, -⟩ := h; exact absurd hi (Nat.not_lt_zero i)
  | n + 1, h => by
    by_cases q : ∃ i, i < n ∧ p i
    · obtain ⟨i, h1, h2⟩ := fb_first q
      exact ⟨i, by omega, h2⟩
    · obtain ⟨i, h1, h2⟩ := h
      have e : i = n := by
        rcases Nat.lt_or_ge i n with r | r
        · exact absurd ⟨i, r, h2⟩ q
        · omega
      subst e
      exact ⟨i, by omega, h2, fun j hj hp => q ⟨j, hj, hp⟩⟩
theorem fb_first_one {p : Nat → Prop} {i j : Nat} (hi : p i) (hi2 : ∀ k, k < i → ¬ p k) (hj : p j) (hj2 : ∀ k, k < j → ¬ p k) : i = j := by
  rcases Nat.lt_trichotomy i j with q | q | q
  · exact absurd hi (hj2 i q)
  · exact q
  · exact absurd hj (hi2 j q)
theorem fb_last {p : Nat → Prop} [DecidablePred p] : ∀ {n : Nat}, (∃ i, i < n ∧ p i) → ∃ i, i < n ∧ p i ∧ ∀ j, i < j → j < n → ¬ p j
  | 0, h => by obtain ⟨i, hi, -⟩ := h; exact absurd hi (Nat.not_lt_zero i)
  | n + 1, h => by
    by_cases q : p n
    · exact ⟨n, by omega, q, fun j h1 h2 => by omega⟩
    · obtain ⟨i, h1, h2⟩ := h
      have hi : i < n := by
        rcases Nat.lt_or_ge i n with r | r
        · exact r
        · have e : i = n := by omega
          subst e
          exact absurd h2 q
      obtain ⟨i2, a1, a2, a3⟩ := fb_last (n := n) ⟨i, hi, h2⟩
      refine ⟨i2, by omega, a2, fun j b1 b2 => ?_⟩
      rcases Nat.lt_or_ge j n with r | r
      · exact a3 j b1 r
      · have e : j = n := by omega
        subst e
        exact q
/-- the first greatest -/
theorem fb_best (f : Nat → Int) : ∀ {n : Nat}, 0 < n → ∃ i, i < n ∧ (∀ j, j < n → f j ≤ f i) ∧ ∀ j, j < i → f j < f i
  | 0, h => absurd h (Nat.lt_irrefl 0)
  | 1, _ => ⟨0, by omega, fun j hj => by have e : j = 0 := by omega
                                         subst e; exact Int.le_refl _, fun j hj => absurd hj (Nat.not_lt_zero j)⟩
  | n + 2, _ => by
    obtain ⟨i, h1, h2, h3⟩ := fb_best f (n := n + 1) (by omega)
    by_cases q : f i < f (n + 1)
    · refine ⟨n + 1, by omega, fun j hj => ?_, fun j hj => ?_⟩
      · rcases Nat.lt_or_ge j (n + 1) with r | r
        · have := h2 j r; omega
        · have e : j = n + 1 := by omega
          subst e; exact Int.le_refl _
      · have := h2 j hj; omega
    · refine ⟨i, by omega, fun j hj => ?_, h3⟩
      rcases Nat.lt_or_ge j (n + 1) with r | r
      · exact h2 j r
      · have e : j = n + 1 := by omega
        subst e; omega
theorem fb_best_one {f : Nat → Int} {n i j : Nat} (hi : i < n) (hi2 : ∀ k, k < n → f k ≤ f i) (hi3 : ∀ k, k < i → f k < f i) (hj : j < n) (hj2 : ∀ k, k < n → f k ≤ f j) (hj3 : ∀ k, k < j → f k < f j) : i = j := by
  rcases Nat.lt_trichotomy i j with q | q | q
  · have a := hj3 i q
    have b := hi2 j hj
    omega
  · exact q
  · have a := hi3 j q
    have b := hj2 i hi
    omega
/-- the first least -/
theorem fb_low (f : Nat → Int) {n : Nat} (h : 0 < n) : ∃ i, i < n ∧ (∀ j, j < n → f i ≤ f j) ∧ ∀ j, j < i → f i < f j := by
  obtain ⟨i, h1, h2, h3⟩ := fb_best (fun k => -f k) h
  exact ⟨i, h1, fun j hj => by have := h2 j hj; omega, fun j hj => by have := h3 j hj; omega⟩
/-! ===== signed ints as whole numbers, within bounds ===== -/
theorem fb_rng (x : Int32) : -2147483648 ≤ x.toInt ∧ x.toInt < 2147483648 := by
  have h1 := Int32.le_toInt x
  have h2 := Int32.toInt_lt x
  omega
theorem fb_bmod {z : Int} (h1 : -2147483648 ≤ z) (h2 : z < 2147483648) : z.bmod (2 ^ 32) = z := by
  rw [Int.bmod_eq_of_le (by omega) (by omega)]
theorem fb_addI {x y : Int32} (h1 : -2147483648 ≤ x.toInt + y.toInt) (h2 : x.toInt + y.toInt < 2147483648) : (x + y).toInt = x.toInt + y.toInt := by
  rw [Int32.toInt_add, fb_bmod h1 h2]
theorem fb_subI {x y : Int32} (h1 : -2147483648 ≤ x.toInt - y.toInt) (h2 : x.toInt - y.toInt < 2147483648) : (x - y).toInt = x.toInt - y.toInt := by
  rw [Int32.toInt_sub, fb_bmod h1 h2]
theorem fb_mulI {x y : Int32} (h1 : -2147483648 ≤ x.toInt * y.toInt) (h2 : x.toInt * y.toInt < 2147483648) : (x * y).toInt = x.toInt * y.toInt := by
  rw [Int32.toInt_mul, fb_bmod h1 h2]
theorem fb_negI {x : Int32} (h : x.toInt ≠ -2147483648) : (-x).toInt = -x.toInt := by
  have := fb_rng x
  rw [Int32.toInt_neg, fb_bmod (by omega) (by omega)]
theorem fb_ofI {z : Int} (h1 : -2147483648 ≤ z) (h2 : z < 2147483648) : (Int32.ofInt z).toInt = z := by
  rw [Int32.toInt_ofInt, fb_bmod h1 h2]
theorem fb_asI (x : Int32) : Int32.ofInt x.toInt = x := Int32.ofInt_toInt x
theorem fb_rngL (x : Int64) : -9223372036854775808 ≤ x.toInt ∧ x.toInt < 9223372036854775808 := by
  have h1 := Int64.le_toInt x
  have h2 := Int64.toInt_lt x
  omega
theorem fb_bmodL {z : Int} (h1 : -9223372036854775808 ≤ z) (h2 : z < 9223372036854775808) : z.bmod (2 ^ 64) = z := by
  rw [Int.bmod_eq_of_le (by omega) (by omega)]
theorem fb_addL {x y : Int64} (h1 : -9223372036854775808 ≤ x.toInt + y.toInt) (h2 : x.toInt + y.toInt < 9223372036854775808) : (x + y).toInt = x.toInt + y.toInt := by
  rw [Int64.toInt_add, fb_bmodL h1 h2]
theorem fb_subL {x y : Int64} (h1 : -9223372036854775808 ≤ x.toInt - y.toInt) (h2 : x.toInt - y.toInt < 9223372036854775808) : (x - y).toInt = x.toInt - y.toInt := by
  rw [Int64.toInt_sub, fb_bmodL h1 h2]
theorem fb_mulL {x y : Int64} (h1 : -9223372036854775808 ≤ x.toInt * y.toInt) (h2 : x.toInt * y.toInt < 9223372036854775808) : (x * y).toInt = x.toInt * y.toInt := by
  rw [Int64.toInt_mul, fb_bmodL h1 h2]
/-! ===== cuts of what is narrow already ===== -/
theorem fb_byte {x : Int32} (h1 : -128 ≤ x.toInt) (h2 : x.toInt < 128) : x.toInt8.toInt32 = x := by
  apply Int32.toInt_inj.1
  rw [Int8.toInt_toInt32, Int32.toInt_toInt8, Int.bmod_eq_of_le (by omega) (by omega)]
theorem fb_short {x : Int32} (h1 : -32768 ≤ x.toInt) (h2 : x.toInt < 32768) : x.toInt16.toInt32 = x := by
  apply Int32.toInt_inj.1
  rw [Int16.toInt_toInt32, Int32.toInt_toInt16, Int.bmod_eq_of_le (by omega) (by omega)]
theorem fb_byte_rng (x : Int32) : -128 ≤ x.toInt8.toInt32.toInt ∧ x.toInt8.toInt32.toInt < 128 := by
  rw [Int8.toInt_toInt32]
  have h1 := Int8.le_toInt x.toInt8
  have h2 := Int8.toInt_lt x.toInt8
  omega
theorem fb_short_rng (x : Int32) : -32768 ≤ x.toInt16.toInt32.toInt ∧ x.toInt16.toInt32.toInt < 32768 := by
  rw [Int16.toInt_toInt32]
  have h1 := Int16.le_toInt x.toInt16
  have h2 := Int16.toInt_lt x.toInt16
  omega
theorem fb_byte_twice (x : Int32) : x.toInt8.toInt32.toInt8.toInt32 = x.toInt8.toInt32 := fb_byte (fb_byte_rng x).1 (fb_byte_rng x).2
theorem fb_short_twice (x : Int32) : x.toInt16.toInt32.toInt16.toInt32 = x.toInt16.toInt32 := fb_short (fb_short_rng x).1 (fb_short_rng x).2
theorem fb_char {n : Nat} (h : n < 65536) : (nI n).toUInt32.toUInt16.toUInt32.toInt32 = nI n := by
  apply Int32.toBitVec_inj.1
  apply BitVec.eq_of_toNat_eq
  have e1 : (nI n).toBitVec.toNat = n := by
    show (BitVec.ofNat 32 n).toNat = n
    rw [BitVec.toNat_ofNat, Nat.mod_eq_of_lt (by omega)]
  have e2 : ((nI n).toUInt32.toUInt16.toUInt32).toNat = n := by
    rw [UInt16.toNat_toUInt32, UInt32.toNat_toUInt16]
    show (nI n).toBitVec.toNat % 2 ^ 16 = n
    rw [e1, Nat.mod_eq_of_lt (by omega)]
  rw [e1]
  exact e2
end
section
/-! How the methods' answers are told: es_I an int, es_J a long, es_V none, es_P a place of a kind. -/
def es_I (d y : Nat) (a : List mz_V) (μ : mz_M) (P : Int32 → mz_M → Prop) : Prop := ∃ r μ', es_R d y a μ (some (mz_I r)) μ' ∧ P r μ'
def es_J (d y : Nat) (a : List mz_V) (μ : mz_M) (P : Int64 → mz_M → Prop) : Prop := ∃ r μ', es_R d y a μ (some (mz_L r)) μ' ∧ P r μ'
def es_V (d y : Nat) (a : List mz_V) (μ : mz_M) (P : mz_M → Prop) : Prop := ∃ μ', es_R d y a μ none μ' ∧ P μ'
def es_P (t d y : Nat) (a : List mz_V) (μ : mz_M) (P : Nat → mz_M → Prop) : Prop := ∃ r μ', es_R d y a μ (some (mz_R t r)) μ' ∧ P r μ'
def es_qI (P : Int32 → mz_M → Prop) (r : Option mz_V) (μ : mz_M) : Prop := ∃ x, r = some (mz_I x) ∧ P x μ
def es_qJ (P : Int64 → mz_M → Prop) (r : Option mz_V) (μ : mz_M) : Prop := ∃ x, r = some (mz_L x) ∧ P x μ
def es_qV (P : mz_M → Prop) (r : Option mz_V) (μ : mz_M) : Prop := r = none ∧ P μ
def es_qP (t : Nat) (P : Nat → mz_M → Prop) (r : Option mz_V) (μ : mz_M) : Prop := ∃ x, r = some (mz_R t x) ∧ P x μ
theorem es_I.mk {d y : Nat} {a : List mz_V} {μ : mz_M} {P : Int32 → mz_M → Prop} (h : mz_Ev es_SH (es_TB y) (es_R d) (es_qI P) (0, mz_ent 0 a, [], μ)) : es_I (d + 1) y a μ P := by
  obtain ⟨r, μ', h1, x, rfl, h2⟩ := es_ex h
  exact ⟨x, μ', h1, h2⟩
theorem es_J.mk {d y : Nat} {a : List mz_V} {μ : mz_M} {P : Int64 → mz_M → Prop} (h : mz_Ev es_SH (es_TB y) (es_R d) (es_qJ P) (0, mz_ent 0 a, [], μ)) : es_J (d + 1) y a μ P := by
  obtain ⟨r, μ', h1, x, rfl, h2⟩ := es_ex h
  exact ⟨x, μ', h1, h2⟩
theorem es_V.mk {d y : Nat} {a : List mz_V} {μ : mz_M} {P : mz_M → Prop} (h : mz_Ev es_SH (es_TB y) (es_R d) (es_qV P) (0, mz_ent 0 a, [], μ)) : es_V (d + 1) y a μ P := by
  obtain ⟨r, μ', h1, rfl, h2⟩ := es_ex h
  exact ⟨μ', h1, h2⟩
theorem es_P.mk {t d y : Nat} {a : List mz_V} {μ : mz_M} {P : Nat → mz_M → Prop} (h : mz_Ev es_SH (es_TB y) (es_R d) (es_qP t P) (0, mz_ent 0 a, [], μ)) : es_P t (d + 1) y a μ P := by
  obtain ⟨r, μ', h1, x, rfl, h2⟩ := es_ex h
  exact ⟨x, μ', h1, h2⟩
theorem es_I.mono {d y : Nat} {a : List mz_V} {μ : mz_M} {P P' : Int32 → mz_M → Prop} (h : es_I d y a μ P) (hp : ∀ r μ', P r μ' → P' r μ') : es_I d y a μ P' := by
  obtain ⟨r, μ', h1, h2⟩ := h
  exact ⟨r, μ', h1, hp r μ' h2⟩
theorem es_V.mono {d y : Nat} {a : List mz_V} {μ : mz_M} {P P' : mz_M → Prop} (h : es_V d y a μ P) (hp : ∀ μ', P μ' → P' μ') : es_V d y a μ P' := by
  obtain ⟨μ', h1, h2⟩ := h
  exact ⟨μ', h1, hp μ' h2⟩
/-- branches of a stretch -/
theorem es_br {c A B : Prop} [Decidable c] (ha : c → A) (hb : ¬ c → B) : if c then A else B := by
  by_cases h : c
  · rw [if_pos h]; exact ha h
  · rw [if_neg h]; exact hb h
theorem es_t {c A B : Prop} [Decidable c] (h : c) (ha : A) : if c then A else B := by rw [if_pos h]; exact ha
theorem es_f {c A B : Prop} [Decidable c] (h : ¬ c) (hb : B) : if c then A else B := by rw [if_neg h]; exact hb
theorem es_rI {P : Int32 → mz_M → Prop} {x : Int32} {μ : mz_M} (h : P x μ) : es_qI P (some (mz_I x)) μ := ⟨x, rfl, h⟩
theorem es_rJ {P : Int64 → mz_M → Prop} {x : Int64} {μ : mz_M} (h : P x μ) : es_qJ P (some (mz_L x)) μ := ⟨x, rfl, h⟩
theorem es_rV {P : mz_M → Prop} {μ : mz_M} (h : P μ) : es_qV P none μ := ⟨rfl, h⟩
theorem es_rP {t : Nat} {P : Nat → mz_M → Prop} {x : Nat} {μ : mz_M} (h : P x μ) : es_qP t P (some (mz_R t x)) μ := ⟨x, rfl, h⟩
/-- the state, read behind writes -/
theorem mz_wI_1 (μ : mz_M) (p k : Nat) (x : Int32) (q : Nat) : (mz_wI μ p k x).1 q = if q = p then upd (μ.1 p) k x else μ.1 q := rfl
theorem mz_wI_at (μ : mz_M) (p k : Nat) (x : Int32) (q j : Nat) : (mz_wI μ p k x).1 q j = if q = p ∧ j = k then x else μ.1 q j := by
  show (if q = p then upd (μ.1 p) k x else μ.1 q) j = _
  by_cases hq : q = p
  · subst hq
    by_cases hj : j = k
    · subst hj; simp [upd]
    · simp [upd, hj]
  · simp [hq]
theorem mz_wI_2 (μ : mz_M) (p k : Nat) (x : Int32) : (mz_wI μ p k x).2 = μ.2 := rfl
theorem mz_wL_1 (μ : mz_M) (p k : Nat) (x : Int64) : (mz_wL μ p k x).1 = μ.1 := rfl
theorem mz_wL_at (μ : mz_M) (p k : Nat) (x : Int64) (q j : Nat) : (mz_wL μ p k x).2 q j = if q = p ∧ j = k then x else μ.2 q j := by
  show (if q = p then vp_updL (μ.2 p) k x else μ.2 q) j = _
  by_cases hq : q = p
  · subst hq
    by_cases hj : j = k
    · subst hj; simp [vp_updL]
    · simp [vp_updL, hj]
  · simp [hq]
theorem mz_cI_at (μ : mz_M) (p0 p1 a b n q j : Nat) : (mz_cI μ p0 p1 a b n).1 q j = if q = p1 ∧ b ≤ j ∧ j < b + n then μ.1 p0 (a + (j - b)) else μ.1 q j := by
  show (if q = p1 then va_cpy (μ.1 p0) (μ.1 p1) a b n else μ.1 q) j = _
  by_cases hq : q = p1
  · subst hq
    simp [va_cpy]
  · simp [hq]
theorem mz_cI_2 (μ : mz_M) (p0 p1 a b n : Nat) : (mz_cI μ p0 p1 a b n).2 = μ.2 := rfl
theorem mz_cL_at (μ : mz_M) (p0 p1 a b n q j : Nat) : (mz_cL μ p0 p1 a b n).2 q j = if q = p1 ∧ b ≤ j ∧ j < b + n then μ.2 p0 (a + (j - b)) else μ.2 q j := by
  show (if q = p1 then va_cpy (μ.2 p0) (μ.2 p1) a b n else μ.2 q) j = _
  by_cases hq : q = p1
  · subst hq
    simp [va_cpy]
  · simp [hq]
theorem mz_cL_1 (μ : mz_M) (p0 p1 a b n : Nat) : (mz_cL μ p0 p1 a b n).1 = μ.1 := rfl
/-- only the places of S are changed -/
def es_fr (S : Nat → Prop) (μ μ' : mz_M) : Prop := ∀ q, ¬ S q → μ'.1 q = μ.1 q ∧ μ'.2 q = μ.2 q
theorem es_fr.rf {S : Nat → Prop} {μ : mz_M} : es_fr S μ μ := fun _ _ => ⟨rfl, rfl⟩
theorem es_fr.tr {S : Nat → Prop} {μ1 μ2 μ3 : mz_M} (h1 : es_fr S μ1 μ2) (h2 : es_fr S μ2 μ3) : es_fr S μ1 μ3 := fun q hq => ⟨(h2 q hq).1.trans (h1 q hq).1, (h2 q hq).2.trans (h1 q hq).2⟩
theorem es_fr.mono {S S' : Nat → Prop} {μ1 μ2 : mz_M} (h : es_fr S μ1 μ2) (hs : ∀ q, S q → S' q) : es_fr S' μ1 μ2 := fun q hq => h q (fun z => hq (hs q z))
theorem es_fr.wI {S : Nat → Prop} {μ μ' : mz_M} {p k : Nat} {x : Int32} (h : es_fr S μ μ') (hp : S p) : es_fr S μ (mz_wI μ' p k x) := fun q hq => ⟨by
  rw [mz_wI_1, if_neg (fun z : q = p => hq (z ▸ hp))]; exact (h q hq).1, (h q hq).2⟩
theorem es_fr.cI {S : Nat → Prop} {μ μ' : mz_M} {p0 p1 a b n : Nat} (h : es_fr S μ μ') (hp : S p1) : es_fr S μ (mz_cI μ' p0 p1 a b n) := fun q hq => ⟨by
  show (if q = p1 then va_cpy (μ'.1 p0) (μ'.1 p1) a b n else μ'.1 q) = _
  rw [if_neg (fun z : q = p1 => hq (z ▸ hp))]; exact (h q hq).1, (h q hq).2⟩
theorem es_fr.wL {S : Nat → Prop} {μ μ' : mz_M} {p k : Nat} {x : Int64} (h : es_fr S μ μ') (hp : S p) : es_fr S μ (mz_wL μ' p k x) := fun q hq => ⟨(h q hq).1, by
  show (if q = p then vp_updL (μ'.2 p) k x else μ'.2 q) = _
  rw [if_neg (fun z : q = p => hq (z ▸ hp))]; exact (h q hq).2⟩
theorem es_fr.cL {S : Nat → Prop} {μ μ' : mz_M} {p0 p1 a b n : Nat} (h : es_fr S μ μ') (hp : S p1) : es_fr S μ (mz_cL μ' p0 p1 a b n) := fun q hq => ⟨(h q hq).1, by
  show (if q = p1 then va_cpy (μ'.2 p0) (μ'.2 p1) a b n else μ'.2 q) = _
  rw [if_neg (fun z : q = p1 => hq (z ▸ hp))]; exact (h q hq).2⟩
/-- whole numbers and ints -/
theorem es_lit (n : Nat) (h : n < 2147483648) : (Int32.ofNat n).toInt = n := nI_toInt (by omega)
theorem es_tn (x : Int32) : (x.toNatClampNeg : Int) = max x.toInt 0 := by
  show ((x.toInt.toNat : Nat) : Int) = _
  omega
theorem es_nIof {x : Int32} (h : 0 ≤ x.toInt) : x = nI x.toInt.toNat := by
  have := fb_rng x
  apply Int32.toInt_inj.mp
  rw [nI_toInt (by omega)]
  omega
theorem es_in {x : Int32} {n : Nat} (h1 : 0 ≤ x.toInt) (h2 : x.toInt < n) : vp_in x n := vp_in_iff.mpr ⟨h1, h2⟩
theorem es_clamp {n : Nat} (h : n < 2147483648) : (nI n).toNatClampNeg = n := nI_clamp (by omega)
end
section
/-! Math, and the class's rows: reading, writing, beginning, taking. -/
theorem es_pure {d y : Nat} {a : List mz_V} {μ : mz_M} {e : Int32} (h : es_I d y a μ (fun r μ' => μ' = μ ∧ r = e)) : es_R d y a μ (some (mz_I e)) μ := by
  obtain ⟨r, μ', h1, h2, h3⟩ := h
  rw [h2, h3] at h1
  exact h1
theorem es_pur {d y : Nat} {a : List mz_V} {μ : mz_M} {P : Int32 → Prop} (h : es_I d y a μ (fun r μ' => μ' = μ ∧ P r)) : ∃ r, es_R d y a μ (some (mz_I r)) μ ∧ P r := by
  obtain ⟨r, μ', h1, h2, h3⟩ := h
  rw [h2] at h1
  exact ⟨r, h1, h3⟩
theorem es_purJ {d y : Nat} {a : List mz_V} {μ : mz_M} {P : Int64 → Prop} (h : es_J d y a μ (fun r μ' => μ' = μ ∧ P r)) : ∃ r, es_R d y a μ (some (mz_L r)) μ ∧ P r := by
  obtain ⟨r, μ', h1, h2, h3⟩ := h
  rw [h2] at h1
  exact ⟨r, h1, h3⟩
theorem es_hlt {a b : Int32} (h : a < b) : a.toInt < b.toInt := (fa_lt a b).mp h
theorem es_hle {a b : Int32} (h : a ≤ b) : a.toInt ≤ b.toInt := (fa_le a b).mp h
theorem es_nlt {a b : Int32} (h : ¬ a < b) : b.toInt ≤ a.toInt := Int.not_lt.mp (fun z => h ((fa_lt a b).mpr z))
theorem es_nle {a b : Int32} (h : ¬ a ≤ b) : b.toInt < a.toInt := Int.not_le.mp (fun z => h ((fa_le a b).mpr z))
theorem es_neq {a b : Int32} (h : ¬ a = b) : a.toInt ≠ b.toInt := fun z => h (Int32.toInt_inj.mp z)
theorem es_i0 : (0 : Int32).toInt = 0 := by decide +kernel
theorem es_i1 : (1 : Int32).toInt = 1 := by decide +kernel
theorem es_i4 : (4 : Int32).toInt = 4 := by decide +kernel
theorem s_min (d : Nat) (x y : Int32) (μ : mz_M) : es_I (d + 1) n_Math_min [mz_I x, mz_I y] μ (fun r μ' => μ' = μ ∧ r = if y < x then y else x) := by
  refine es_I.mk (w_Math_min_0 x y μ (es_br (fun h => es_rI ⟨rfl, ?_⟩) (fun h => es_rI ⟨rfl, ?_⟩)))
  · rw [if_pos h]
  · rw [if_neg h]
theorem s_max (d : Nat) (x y : Int32) (μ : mz_M) : es_I (d + 1) n_Math_max [mz_I x, mz_I y] μ (fun r μ' => μ' = μ ∧ r = if x < y then y else x) := by
  refine es_I.mk (w_Math_max_0 x y μ (es_br (fun h => es_rI ⟨rfl, ?_⟩) (fun h => es_rI ⟨rfl, ?_⟩)))
  · rw [if_pos h]
  · rw [if_neg h]
theorem s_abs (d : Nat) (x : Int32) (μ : mz_M) : es_I (d + 1) n_Math_abs [mz_I x] μ (fun r μ' => μ' = μ ∧ r = if 0 ≤ x then x else -x) := by
  refine es_I.mk (w_Math_abs_0 x μ (es_br (fun h => es_rI ⟨rfl, ?_⟩) (fun h => es_rI ⟨rfl, ?_⟩)))
  · rw [if_pos h]
  · rw [if_neg h]
theorem s_min_n (d : Nat) {a b : Nat} (ha : a < 2147483648) (hb : b < 2147483648) (μ : mz_M) : es_I (d + 1) n_Math_min [mz_I (nI a), mz_I (nI b)] μ (fun r μ' => μ' = μ ∧ r = nI (min a b)) := by
  refine (s_min d (nI a) (nI b) μ).mono (fun r μ' h => ⟨h.1, ?_⟩)
  rw [h.2]
  by_cases q : b < a
  · rw [if_pos (nI_lt q (by omega)), Nat.min_eq_right (by omega)]
  · rw [if_neg (nI_nlt (by omega) (by omega)), Nat.min_eq_left (by omega)]
theorem s_max_n (d : Nat) {a b : Nat} (ha : a < 2147483648) (hb : b < 2147483648) (μ : mz_M) : es_I (d + 1) n_Math_max [mz_I (nI a), mz_I (nI b)] μ (fun r μ' => μ' = μ ∧ r = nI (max a b)) := by
  refine (s_max d (nI a) (nI b) μ).mono (fun r μ' h => ⟨h.1, ?_⟩)
  rw [h.2]
  by_cases q : a < b
  · rw [if_pos (nI_lt q (by omega)), Nat.max_eq_right (by omega)]
  · rw [if_neg (nI_nlt (by omega) (by omega)), Nat.max_eq_left (by omega)]
def es_b (c : Bool) : Int32 := if c then 1 else 0
theorem es_b_0 {c : Bool} : es_b c = 0 ↔ c = false := by cases c <;> simp [es_b]
theorem s_isFour (d : Nat) (x : Int32) (μ : mz_M) : es_I (d + 1) n_ES_isOneOfFour [mz_I x] μ (fun r μ' => μ' = μ ∧ r = es_b (decide (0 ≤ x.toInt ∧ x.toInt < 4))) := by
  refine es_I.mk (w_ES_isOneOfFour_0 x μ (es_br (fun h => ⟨Or.inl rfl, es_rI ⟨rfl, ?_⟩⟩) (fun h => es_br (fun h2 => ⟨Or.inl rfl, es_rI ⟨rfl, ?_⟩⟩) (fun h2 => ⟨Or.inr rfl, es_rI ⟨rfl, ?_⟩⟩))))
  · have := es_hlt h
    rw [es_i0] at this
    rw [decide_eq_false (by omega)]; rfl
  · have := es_hle h2
    rw [es_i4] at this
    rw [decide_eq_false (by omega)]; rfl
  · have h := es_nlt h
    have h2 := es_nle h2
    rw [es_i0] at h
    rw [es_i4] at h2
    rw [decide_eq_true ⟨h, h2⟩]; rfl
theorem es_cmp_pos (x y : Int64) : (0 : Int32) < lg_cmp x y ↔ y.toInt < x.toInt := by
  unfold lg_cmp
  rw [← fa_lt64]
  by_cases h : y < x
  · simp only [h, if_true]
    constructor
    · intro _; trivial
    · intro _; decide +kernel
  · by_cases h2 : x = y
    · subst h2
      simp only [h, if_false, if_true]
      constructor
      · intro z; exact absurd z (by decide +kernel)
      · intro z; exact absurd z id
    · simp only [h, h2, if_false]
      constructor
      · intro z; exact absurd z (by decide +kernel)
      · intro z; exact absurd z id
theorem es_cmp_nn (x y : Int64) : (0 : Int32) ≤ lg_cmp x y ↔ y.toInt ≤ x.toInt := by
  unfold lg_cmp
  by_cases h : y < x
  · simp only [h, if_true]
    have := (fa_lt64 y x).mp h
    constructor
    · intro _; omega
    · intro _; decide +kernel
  · by_cases h2 : x = y
    · subst h2
      simp only [h, if_false, if_true]
      constructor
      · intro z; omega
      · intro z; decide +kernel
    · simp only [h, h2, if_false]
      have h3 : ¬ y.toInt ≤ x.toInt := by
        intro z
        have h4 : ¬ y.toInt < x.toInt := fun q => h ((fa_lt64 y x).mpr q)
        exact h2 ((fa_eq64 x y).mpr (by omega))
      constructor
      · intro z; exact absurd z (by decide +kernel)
      · intro z; exact absurd z h3
theorem s_isWide (d : Nat) (v : Int64) (μ : mz_M) : es_I (d + 1) n_ES_isWide [mz_L v] μ (fun r μ' => μ' = μ ∧ r = es_b (decide (v.toInt < -100000000 ∨ 100000000 < v.toInt))) := by
  have e1 : (100000000 : Int64).toInt = 100000000 := by decide +kernel
  have e2 : (-100000000 : Int64).toInt = -100000000 := by decide +kernel
  refine es_I.mk (w_ES_isWide_0 v μ (es_br (fun h => ⟨Or.inr rfl, es_rI ⟨rfl, ?_⟩⟩) (fun h => es_br (fun h2 => ⟨Or.inl rfl, es_rI ⟨rfl, ?_⟩⟩) (fun h2 => ⟨Or.inr rfl, es_rI ⟨rfl, ?_⟩⟩))))
  · rw [es_cmp_pos, e1] at h
    rw [decide_eq_true (Or.inr h)]; rfl
  · rw [es_cmp_pos, e1] at h
    rw [es_cmp_nn, e2] at h2
    rw [decide_eq_false (by omega)]; rfl
  · rw [es_cmp_nn, e2] at h2
    rw [decide_eq_true (Or.inl (by omega))]; rfl
/-- series: lists of whole numbers, at most 40, none too great -/
def es_ok (l : List Int) : Prop := l.length ≤ 40 ∧ ∀ k, k < l.length → -100000000 ≤ l.getD k 0 ∧ l.getD k 0 ≤ 100000000
def es_row (μ : mz_M) (p : Nat) (l : List Int) : Prop := es_ok l ∧ μ.1 p 1 = nI l.length ∧ ∀ k, k < l.length → (μ.1 (p + 1) k).toInt = l.getD k 0
def es_sep (p q : Nat) : Prop := p ≠ q ∧ p + 1 ≠ q ∧ p ≠ q + 1
def es_2 (p : Nat) : Nat → Prop := fun q => q = p ∨ q = p + 1
theorem es_row.kept {S : Nat → Prop} {μ μ' : mz_M} {p : Nat} {l : List Int} (h : es_row μ p l) (hf : es_fr S μ μ') (h1 : ¬ S p) (h2 : ¬ S (p + 1)) : es_row μ' p l := by
  obtain ⟨a, b, c⟩ := h
  exact ⟨a, by rw [(hf p h1).1]; exact b, fun k hk => by rw [(hf (p + 1) h2).1]; exact c k hk⟩
theorem es_sep.n1 {p q : Nat} (h : es_sep p q) : ¬ es_2 p q := by unfold es_2; have := h; unfold es_sep at this; omega
theorem es_sep.n2 {p q : Nat} (h : es_sep p q) : ¬ es_2 p (q + 1) := by unfold es_2; have := h; unfold es_sep at this; omega
theorem s_at (d : Nat) {p : Nat} {x : Int32} {μ : mz_M} {l : List Int} (h : es_row μ p l) : es_I (d + 1) n_Row_at [mz_R 3 p, mz_I x] μ (fun r μ' => μ' = μ ∧ r.toInt = if 0 ≤ x.toInt then l.getD x.toInt.toNat 0 else 0) := by
  obtain ⟨⟨h1, -⟩, h2, h3⟩ := h
  refine es_I.mk (w_Row_at_0 p x μ (es_br (fun q => es_rI ⟨rfl, ?_⟩) (fun q => es_br (fun q2 => es_rI ⟨rfl, ?_⟩) (fun q2 => ?_))))
  · have := es_hlt q
    rw [es_i0] at this
    rw [if_neg (by omega)]; rfl
  · have q := es_nlt q
    rw [es_i0] at q
    have q2 := es_hle q2
    rw [h2, nI_toInt (by omega)] at q2
    rw [if_pos q, List.getD_eq_getElem?_getD, List.getElem?_eq_none (by omega)]; rfl
  · have q := es_nlt q
    rw [es_i0] at q
    have q2 := es_nle q2
    rw [h2, nI_toInt (by omega)] at q2
    refine ⟨es_in q (by omega), es_rI ⟨rfl, ?_⟩⟩
    rw [if_pos q]
    exact h3 _ (show x.toInt.toNat < l.length by omega)
theorem s_at_n (d : Nat) {p k : Nat} {μ : mz_M} {l : List Int} (h : es_row μ p l) (hk : k < 2147483648) : es_I (d + 1) n_Row_at [mz_R 3 p, mz_I (nI k)] μ (fun r μ' => μ' = μ ∧ r.toInt = l.getD k 0) := by
  refine (s_at d h).mono (fun r μ' q => ⟨q.1, ?_⟩)
  rw [q.2, nI_toInt (by omega), if_pos (by omega)]
  rfl
/-- a row being filled: its size, what it holds -/
def es_raw (μ : mz_M) (p n : Nat) (f : Nat → Int) : Prop := n ≤ 40 ∧ μ.1 p 1 = nI n ∧ ∀ k, k < n → (μ.1 (p + 1) k).toInt = f k
theorem es_raw.row {μ : mz_M} {p n : Nat} {f : Nat → Int} (h : es_raw μ p n f) {l : List Int} (hl : l.length = n) (hf : ∀ k, k < n → f k = l.getD k 0) (hb : ∀ k, k < n → -100000000 ≤ f k ∧ f k ≤ 100000000) : es_row μ p l := by
  obtain ⟨h1, h2, h3⟩ := h
  subst hl
  exact ⟨⟨h1, fun k hk => by rw [← hf k hk]; exact hb k hk⟩, h2, fun k hk => (h3 k hk).trans (hf k hk)⟩
theorem es_row.raw {μ : mz_M} {p : Nat} {l : List Int} (h : es_row μ p l) : es_raw μ p l.length (fun k => l.getD k 0) := ⟨h.1.1, h.2.1, h.2.2⟩
theorem es_raw.cong {μ : mz_M} {p n : Nat} {f g : Nat → Int} (h : es_raw μ p n f) (hf : ∀ k, k < n → f k = g k) : es_raw μ p n g := ⟨h.1, h.2.1, fun k hk => (h.2.2 k hk).trans (hf k hk)⟩
theorem es_raw.kept {S : Nat → Prop} {μ μ' : mz_M} {p n : Nat} {f : Nat → Int} (h : es_raw μ p n f) (hf : es_fr S μ μ') (h1 : ¬ S p) (h2 : ¬ S (p + 1)) : es_raw μ' p n f := by
  obtain ⟨a, b, c⟩ := h
  exact ⟨a, by rw [(hf p h1).1]; exact b, fun k hk => by rw [(hf (p + 1) h2).1]; exact c k hk⟩
theorem es_l2i {v : Int64} (h1 : -2147483648 ≤ v.toInt) (h2 : v.toInt < 2147483648) : v.toInt32.toInt = v.toInt := by
  rw [Int64.toInt_toInt32, fb_bmod h1 h2]
theorem s_put (d : Nat) {p n : Nat} {x : Int32} {v : Int64} {μ : mz_M} {f : Nat → Int} (h : es_raw μ p n f) (hv : -2147483648 ≤ v.toInt ∧ v.toInt < 2147483648) : es_V (d + 1) n_Row_put [mz_R 3 p, mz_I x, mz_L v] μ (fun μ' => es_fr (es_2 p) μ μ' ∧ es_raw μ' p n (fun k => if (k : Int) = x.toInt then v.toInt else f k)) := by
  obtain ⟨h1, h2, h3⟩ := h
  refine es_V.mk (w_Row_put_0 p x v μ (es_br (fun q => es_rV ?_) (fun q => es_br (fun q2 => es_rV ?_) (fun q2 => ?_))))
  · have := es_hlt q
    rw [es_i0] at this
    exact ⟨es_fr.rf, h1, h2, fun k hk => by dsimp only; rw [if_neg (by omega)]; exact h3 k hk⟩
  · have q2 := es_hle q2
    rw [h2, nI_toInt (by omega)] at q2
    exact ⟨es_fr.rf, h1, h2, fun k hk => by dsimp only; rw [if_neg (by omega)]; exact h3 k hk⟩
  · have q := es_nlt q
    rw [es_i0] at q
    have q2 := es_nle q2
    rw [h2, nI_toInt (by omega)] at q2
    refine ⟨es_in q (by omega), es_rV ⟨es_fr.rf.wI (Or.inr rfl), h1, ?_, fun k hk => ?_⟩⟩
    · rw [mz_wI_at, if_neg (by omega)]; exact h2
    · rw [mz_wI_at]
      dsimp only
      by_cases e : (k : Int) = x.toInt
      · rw [if_pos e, if_pos ⟨rfl, show k = x.toInt.toNat by omega⟩]
        exact es_l2i hv.1 hv.2
      · rw [if_neg e, if_neg (fun z => e (by have := z.2; have h9 : k = x.toInt.toNat := this; omega))]
        exact h3 k hk
theorem s_put_n (d : Nat) {p n j : Nat} {v : Int64} {μ : mz_M} {f : Nat → Int} (h : es_raw μ p n f) (hj : j < 2147483648) (hv : -2147483648 ≤ v.toInt ∧ v.toInt < 2147483648) : es_V (d + 1) n_Row_put [mz_R 3 p, mz_I (nI j), mz_L v] μ (fun μ' => es_fr (es_2 p) μ μ' ∧ es_raw μ' p n (fun k => if k = j then v.toInt else f k)) := by
  refine (s_put d h hv).mono (fun μ' q => ⟨q.1, q.2.cong (fun k hk => ?_)⟩)
  rw [nI_toInt (by omega)]
  by_cases e : k = j
  · rw [if_pos e, if_pos (by omega)]
  · rw [if_neg e, if_neg (by omega)]
theorem s_begin (d : Nat) {p n : Nat} (hn : n ≤ 40) (μ : mz_M) : es_V (d + 2) n_Row_begin [mz_R 3 p, mz_I (nI n)] μ (fun μ' => es_fr (es_2 p) μ μ' ∧ es_raw μ' p n (fun _ => 0)) := by
  refine es_V.mk (w_Row_begin_0 p (nI n) μ ?_)
  refine ⟨_, _, es_pure (s_min_n d (a := n) (b := 40) (by omega) (by omega) μ), ?_⟩
  refine ⟨_, _, es_pure (s_max_n d (a := 0) (b := min n 40) (by omega) (by omega) μ), ?_⟩
  rw [show max 0 (min n 40) = n by omega]
  have key : ∀ (g i : Nat) (μ' : mz_M), n - i ≤ g → i ≤ n → es_fr (es_2 p) μ μ' → μ'.1 p 1 = nI n → (∀ k, k < i → (μ'.1 (p + 1) k).toInt = 0) → v_Row_begin (es_R (d + 1)) (es_qV (fun μ' => es_fr (es_2 p) μ μ' ∧ es_raw μ' p n (fun _ => 0))) (19, [(0, mz_R 3 p), (2, mz_I (nI i))], [], μ') := by
    intro g
    induction g with
    | zero =>
      intro i μ' hg hi hf hs hz
      refine w_Row_begin_19 p (nI i) μ' (es_t ?_ (es_rV ⟨hf, hn, hs, fun k hk => hz k (by omega)⟩))
      rw [hs]
      exact nI_le (by omega) (by omega)
    | succ g ih =>
      intro i μ' hg hi hf hs hz
      by_cases hin : i = n
      · refine w_Row_begin_19 p (nI i) μ' (es_t ?_ (es_rV ⟨hf, hn, hs, fun k hk => hz k (by omega)⟩))
        rw [hs]
        exact nI_le (by omega) (by omega)
      · refine w_Row_begin_19 p (nI i) μ' (es_f ?_ ⟨vp_in_nI (by omega) (by omega), ?_⟩)
        · rw [hs]
          exact nI_ge (by omega) (by omega)
        · rw [nI_1, es_clamp (by omega)]
          refine ih (i + 1) _ (by omega) (by omega) (hf.wI (Or.inr rfl)) (by rw [mz_wI_at, if_neg (by omega)]; exact hs) (fun k hk => ?_)
          rw [mz_wI_at]
          by_cases e : k = i
          · rw [if_pos ⟨rfl, e⟩]; rfl
          · rw [if_neg (fun z => e z.2)]; exact hz k (by omega)
  exact key n 0 _ (by omega) (by omega) (es_fr.rf.wI (Or.inl rfl)) (by rw [mz_wI_at, if_pos ⟨rfl, rfl⟩]) (fun k hk => by omega)
theorem s_take (d : Nat) {p q : Nat} {μ : mz_M} {l : List Int} (h : es_row μ q l) (hs : es_sep p q) : es_V (d + 1) n_Row_take [mz_R 3 p, mz_R 3 q] μ (fun μ' => es_fr (es_2 p) μ μ' ∧ es_row μ' p l) := by
  obtain ⟨h1, h2, h3⟩ := h
  have h40 := h1.1
  unfold es_sep at hs
  refine es_V.mk (w_Row_take_0 p q μ ⟨by decide +kernel, es_rV ⟨(es_fr.rf.wI (Or.inl rfl)).cI (Or.inr rfl), h1, ?_, fun k hk => ?_⟩⟩)
  · rw [mz_cI_at, if_neg (by omega), mz_wI_at, if_pos ⟨rfl, rfl⟩]
    exact h2
  · have hlt : k < Int32.toNatClampNeg 0 + (nI 40).toNatClampNeg := by
      rw [es_clamp (by omega)]
      show k < 0 + 40
      omega
    rw [mz_cI_at, if_pos ⟨rfl, Nat.zero_le _, hlt⟩, mz_wI_at, if_neg (by omega)]
    show (μ.1 (q + 1) (0 + (k - 0))).toInt = _
    rw [Nat.zero_add, Nat.sub_zero]
    exact h3 k hk
end
section
/-! Sums, products, quotients of rows. -/
theorem es_bm64 {z : Int} (h1 : -9223372036854775808 ≤ z) (h2 : z < 9223372036854775808) : z.bmod (2 ^ 64) = z := by
  rw [Int.bmod_eq_of_le] <;> omega
theorem es_add64 {x y : Int64} {a b : Int} (hx : x.toInt = a) (hy : y.toInt = b) (h1 : -9223372036854775808 ≤ a + b) (h2 : a + b < 9223372036854775808) : (x + y).toInt = a + b := by
  rw [Int64.toInt_add, hx, hy, es_bm64 h1 h2]
theorem es_sub64 {x y : Int64} {a b : Int} (hx : x.toInt = a) (hy : y.toInt = b) (h1 : -9223372036854775808 ≤ a - b) (h2 : a - b < 9223372036854775808) : (x - y).toInt = a - b := by
  rw [Int64.toInt_sub, hx, hy, es_bm64 h1 h2]
theorem es_mul64 {x y : Int64} {a b : Int} (hx : x.toInt = a) (hy : y.toInt = b) (h1 : -9223372036854775808 ≤ a * b) (h2 : a * b < 9223372036854775808) : (x * y).toInt = a * b := by
  rw [Int64.toInt_mul, hx, hy, es_bm64 h1 h2]
theorem es_i2l (x : Int32) : x.toInt64.toInt = x.toInt := Int32.toInt_toInt64 x
theorem es_mulb {a b A B : Int} (ha : -A ≤ a ∧ a ≤ A) (hb : -B ≤ b ∧ b ≤ B) : -(A * B) ≤ a * b ∧ a * b ≤ A * B := by
  have h1 : a.natAbs ≤ A.toNat := by omega
  have h2 : b.natAbs ≤ B.toNat := by omega
  have h3 : (a * b).natAbs ≤ A.toNat * B.toNat := by rw [Int.natAbs_mul]; exact Nat.mul_le_mul h1 h2
  have h4 : ((A.toNat * B.toNat : Nat) : Int) = A * B := by
    rw [Int.natCast_mul, Int.toNat_of_nonneg (by omega), Int.toNat_of_nonneg (by omega)]
  omega
def es_ls (n : Nat) (f : Nat → Int) : List Int := (List.range n).map f
theorem es_ls_len (n : Nat) (f : Nat → Int) : (es_ls n f).length = n := by unfold es_ls; rw [List.length_map, List.length_range]
theorem es_ls_at {n k : Nat} (f : Nat → Int) (h : k < n) : (es_ls n f).getD k 0 = f k := by
  unfold es_ls
  rw [List.getD_eq_getElem?_getD, List.getElem?_map, List.getElem?_range h]
  rfl
theorem es_ls_cong {n : Nat} {f g : Nat → Int} (h : ∀ k, k < n → f k = g k) : es_ls n f = es_ls n g := List.map_congr_left (fun k hk => h k (List.mem_range.mp hk))
theorem es_ls_eta (l : List Int) : es_ls l.length (fun k => l.getD k 0) = l := by
  apply List.ext_getElem?
  intro k
  unfold es_ls
  rw [List.getElem?_map]
  by_cases h : k < l.length
  · rw [List.getElem?_range h]
    show some (l.getD k 0) = _
    rw [List.getD_eq_getElem?_getD, List.getElem?_eq_getElem h]; rfl
  · rw [List.getElem?_eq_none (by rw [List.length_range]; omega), List.getElem?_eq_none (by omega)]; rfl
def es_big (v : Int) : Bool := decide (v < -100000000 ∨ 100000000 < v)
theorem es_big_f {v : Int} (h : es_big v = false) : -100000000 ≤ v ∧ v ≤ 100000000 := by
  have := of_decide_eq_false h
  omega
/-- whether some of the first n is too great -/
def es_wd (f : Nat → Int) : Nat → Bool
  | 0 => false
  | n + 1 => es_wd f n || es_big (f n)
theorem es_wd_f {f : Nat → Int} : ∀ {n k : Nat}, es_wd f n = false → k < n → es_big (f k) = false
  | 0, _, _, h => absurd h (Nat.not_lt_zero _)
  | n + 1, k, h, hk => by
    unfold es_wd at h
    rw [Bool.or_eq_false_iff] at h
    by_cases e : k = n
    · subst e; exact h.2
    · exact es_wd_f h.1 (by omega)
theorem es_wd_t {f : Nat → Int} : ∀ {n k : Nat}, k < n → es_big (f k) = true → es_wd f n = true
  | 0, _, h, _ => absurd h (Nat.not_lt_zero _)
  | n + 1, k, hk, h => by
    unfold es_wd
    by_cases e : k = n
    · subst e; rw [h, Bool.or_true]
    · rw [es_wd_t (by omega) h, Bool.true_or]
theorem es_wd_all {f : Nat → Int} : ∀ {n : Nat}, (∀ k, k < n → es_big (f k) = false) → es_wd f n = false
  | 0, _ => rfl
  | n + 1, h => by
    unfold es_wd
    rw [es_wd_all (fun k hk => h k (by omega)), h n (by omega)]; rfl
theorem es_wd_cong {f g : Nat → Int} : ∀ {n : Nat}, (∀ k, k < n → f k = g k) → es_wd f n = es_wd g n
  | 0, _ => rfl
  | n + 1, h => by
    unfold es_wd
    rw [es_wd_cong (fun k hk => h k (by omega)), h n (by omega)]
/-- n terms f became a row, or one of them was too great -/
def es_res (p n : Nat) (f : Nat → Int) (μ : mz_M) (r : Int32) (μ' : mz_M) : Prop := es_fr (es_2 p) μ μ' ∧ ((es_wd f n = true ∧ r = -1000005) ∨ (es_wd f n = false ∧ r = 0 ∧ es_row μ' p (es_ls n f)))
theorem es_res.done {p n : Nat} {f : Nat → Int} {μ μ' : mz_M} (hf : es_fr (es_2 p) μ μ') (h : es_raw μ' p n f) (hb : ∀ k, k < n → es_big (f k) = false) : es_res p n f μ 0 μ' :=
  ⟨hf, Or.inr ⟨es_wd_all hb, rfl, h.row (es_ls_len n f) (fun k hk => (es_ls_at f hk).symm) (fun k hk => es_big_f (hb k hk))⟩⟩
theorem es_res.wide {p n k : Nat} {f : Nat → Int} {μ μ' : mz_M} (hf : es_fr (es_2 p) μ μ') (hk : k < n) (hb : es_big (f k) = true) : es_res p n f μ (-1000005) μ' :=
  ⟨hf, Or.inl ⟨es_wd_t hk hb, rfl⟩⟩
theorem es_res.cong {p n : Nat} {f g : Nat → Int} {μ μ' : mz_M} {r : Int32} (h : es_res p n f μ r μ') (hfg : ∀ k, k < n → f k = g k) : es_res p n g μ r μ' := by
  obtain ⟨h1, h2⟩ := h
  rw [es_wd_cong hfg, es_ls_cong hfg] at h2
  exact ⟨h1, h2⟩
theorem es_row.bd {μ : mz_M} {p : Nat} {l : List Int} (h : es_row μ p l) (k : Nat) : -100000000 ≤ l.getD k 0 ∧ l.getD k 0 ≤ 100000000 := by
  by_cases hk : k < l.length
  · exact h.1.2 k hk
  · rw [List.getD_eq_getElem?_getD, List.getElem?_eq_none (by omega)]
    exact ⟨by decide, by decide⟩
theorem s_sum (d : Nat) {p p1 p2 : Nat} {sg : Int32} {μ : mz_M} {l1 l2 : List Int} (h1 : es_row μ p1 l1) (h2 : es_row μ p2 l2) (e1 : es_sep p p1) (e2 : es_sep p p2) (hs : sg.toInt = 1 ∨ sg.toInt = -1) :
    es_I (d + 3) n_Row_sum [mz_R 3 p, mz_R 3 p1, mz_R 3 p2, mz_I sg] μ (es_res p (min l1.length l2.length) (fun k => l1.getD k 0 + sg.toInt * l2.getD k 0) μ) := by
  have c1 := h1.1.1
  have c2 := h2.1.1
  refine es_I.mk (w_Row_sum_0 p p1 p2 sg μ ?_)
  rw [h1.2.1, h2.2.1]
  refine ⟨_, _, es_pure (s_min_n (d + 1) (by omega) (by omega) μ), ?_⟩
  obtain ⟨μ1, hC, hf, hr⟩ := s_begin d (p := p) (n := min l1.length l2.length) (by omega) μ
  refine ⟨_, hC, ?_⟩
  generalize hn : min l1.length l2.length = n at hr ⊢
  have key : ∀ (g k : Nat) (μ' : mz_M), n - k ≤ g → k ≤ n → es_fr (es_2 p) μ μ' → es_raw μ' p n (fun j => if j < k then l1.getD j 0 + sg.toInt * l2.getD j 0 else 0) → (∀ j, j < k → es_big (l1.getD j 0 + sg.toInt * l2.getD j 0) = false) → v_Row_sum (es_R (d + 2)) (es_qI (es_res p n (fun k => l1.getD k 0 + sg.toInt * l2.getD k 0) μ)) (18, [(0, mz_R 3 p), (1, mz_R 3 p1), (2, mz_R 3 p2), (3, mz_I sg), (4, mz_I (nI k))], [], μ') := by
    intro g
    induction g with
    | zero =>
      intro k μ' hg hk hf hr hb
      have hkn : k = n := by omega
      refine w_Row_sum_18 p p1 p2 sg (nI k) μ' (es_t ?_ (es_rI (es_res.done hf (hr.cong (fun j hj => if_pos (by omega))) (fun j hj => hb j (by omega)))))
      rw [hr.2.1]
      exact nI_le (by omega) (by omega)
    | succ g ih =>
      intro k μ' hg hk hf hr hb
      by_cases hkn : k = n
      · refine w_Row_sum_18 p p1 p2 sg (nI k) μ' (es_t ?_ (es_rI (es_res.done hf (hr.cong (fun j hj => if_pos (by omega))) (fun j hj => hb j (by omega)))))
        rw [hr.2.1]
        exact nI_le (by omega) (by omega)
      · refine w_Row_sum_18 p p1 p2 sg (nI k) μ' (es_f ?_ ?_)
        · rw [hr.2.1]
          exact nI_ge (by omega) (by omega)
        · obtain ⟨a, hA, ha⟩ := es_pur (s_at_n (d + 1) (k := k) (h1.kept hf e1.n1 e1.n2) (by omega))
          obtain ⟨b, hB, hb2⟩ := es_pur (s_at_n (d + 1) (k := k) (h2.kept hf e2.n1 e2.n2) (by omega))
          refine ⟨_, _, hA, _, _, hB, ?_⟩
          have b1 := h1.bd k
          have b2 := h2.bd k
          have b3 : -100000000 ≤ sg.toInt * l2.getD k 0 ∧ sg.toInt * l2.getD k 0 ≤ 100000000 := by
            rcases hs with e | e <;> rw [e] <;> omega
          have hv : (a.toInt64 + sg.toInt64 * b.toInt64).toInt = l1.getD k 0 + sg.toInt * l2.getD k 0 := es_add64 (by rw [es_i2l, ha]) (es_mul64 (es_i2l sg) (by rw [es_i2l, hb2]) (by omega) (by omega)) (by omega) (by omega)
          refine ⟨_, _, es_pure (s_isWide (d + 1) _ μ'), ?_⟩
          rw [hv]
          refine es_br (fun q => ?_) (fun q => es_rI (es_res.wide (k := k) hf (by omega) ?_))
          · rw [es_b_0] at q
            obtain ⟨μ2, hD, hf2, hr2⟩ := s_put_n (d + 1) (p := p) (n := n) (j := k) (v := a.toInt64 + sg.toInt64 * b.toInt64) hr (by omega) (by rw [hv]; omega)
            refine ⟨_, hD, ?_⟩
            rw [nI_1]
            refine ih (k + 1) μ2 (by omega) (by omega) (hf.tr hf2) (hr2.cong (fun j hj => ?_)) (fun j hj => ?_)
            · by_cases e : j = k
              · rw [if_pos e, if_pos (by omega), hv, e]
              · rw [if_neg e]
                by_cases e3 : j < k
                · rw [if_pos e3, if_pos (by omega)]
                · rw [if_neg e3, if_neg (by omega)]
            · by_cases e : j = k
              · rw [e]; exact q
              · exact hb j (by omega)
          · rw [es_b_0] at q
            exact Bool.of_not_eq_false q
  exact key n 0 μ1 (by omega) (by omega) hf (hr.cong (fun j hj => (if_neg (by omega)).symm)) (fun j hj => by omega)
/-- the terms of a product -/
def es_cv (a b : Nat → Int) (k : Nat) : Int := fb_si (fun i => a i * b (k - i)) (k + 1)
theorem es_cv_cong {a b a' b' : Nat → Int} {k : Nat} (h1 : ∀ i, i ≤ k → a i = a' i) (h2 : ∀ i, i ≤ k → b i = b' i) : es_cv a b k = es_cv a' b' k := fb_si_cong (fun i hi => by rw [h1 i (by omega), h2 (k - i) (by omega)])
set_option maxHeartbeats 1000000 in
theorem s_product (d : Nat) {p p1 p2 : Nat} {μ : mz_M} {l1 l2 : List Int} (h1 : es_row μ p1 l1) (h2 : es_row μ p2 l2) (e1 : es_sep p p1) (e2 : es_sep p p2) :
    es_I (d + 3) n_Row_product [mz_R 3 p, mz_R 3 p1, mz_R 3 p2] μ (es_res p (min l1.length l2.length) (es_cv (fun k => l1.getD k 0) (fun k => l2.getD k 0)) μ) := by
  have c1 := h1.1.1
  have c2 := h2.1.1
  refine es_I.mk (w_Row_product_0 p p1 p2 μ ?_)
  rw [h1.2.1, h2.2.1]
  refine ⟨_, _, es_pure (s_min_n (d + 1) (by omega) (by omega) μ), ?_⟩
  obtain ⟨μ1, hC, hf, hr⟩ := s_begin d (p := p) (n := min l1.length l2.length) (by omega) μ
  refine ⟨_, hC, ?_⟩
  generalize hn : min l1.length l2.length = n at hr ⊢
  have bnd : ∀ (k j : Nat), -(j * 10000000000000000 : Int) ≤ fb_si (fun i => l1.getD i 0 * l2.getD (k - i) 0) j ∧ fb_si (fun i => l1.getD i 0 * l2.getD (k - i) 0) j ≤ (j * 10000000000000000 : Int) := fun k j => fb_si_bound (by omega) (fun i _ => by
    have := es_mulb (h1.bd i) (h2.bd (k - i))
    omega)
  have key : ∀ (g k : Nat) (μ' : mz_M), n - k ≤ g → k ≤ n → es_fr (es_2 p) μ μ' → es_raw μ' p n (fun j => if j < k then es_cv (fun k => l1.getD k 0) (fun k => l2.getD k 0) j else 0) → (∀ j, j < k → es_big (es_cv (fun k => l1.getD k 0) (fun k => l2.getD k 0) j) = false) → v_Row_product (es_R (d + 2)) (es_qI (es_res p n (es_cv (fun k => l1.getD k 0) (fun k => l2.getD k 0)) μ)) (17, [(0, mz_R 3 p), (1, mz_R 3 p1), (2, mz_R 3 p2), (3, mz_I (nI k))], [], μ') := by
    intro g
    induction g with
    | zero =>
      intro k μ' hg hk hf hr hb
      have hkn : k = n := by omega
      refine w_Row_product_17 p p1 p2 (nI k) μ' (es_t ?_ (es_rI (es_res.done hf (hr.cong (fun j hj => if_pos (by omega))) (fun j hj => hb j (by omega)))))
      rw [hr.2.1]
      exact nI_le (by omega) (by omega)
    | succ g ih =>
      intro k μ' hg hk hf hr hb
      by_cases hkn : k = n
      · refine w_Row_product_17 p p1 p2 (nI k) μ' (es_t ?_ (es_rI (es_res.done hf (hr.cong (fun j hj => if_pos (by omega))) (fun j hj => hb j (by omega)))))
        rw [hr.2.1]
        exact nI_le (by omega) (by omega)
      · refine w_Row_product_17 p p1 p2 (nI k) μ' (es_f ?_ ?_)
        · rw [hr.2.1]
          exact nI_ge (by omega) (by omega)
        · have inner : ∀ (g2 j : Nat) (y : Int64), k + 1 - j ≤ g2 → j ≤ k + 1 → y.toInt = fb_si (fun i => l1.getD i 0 * l2.getD (k - i) 0) j → v_Row_product (es_R (d + 2)) (es_qI (es_res p n (es_cv (fun k => l1.getD k 0) (fun k => l2.getD k 0)) μ)) (31, [(0, mz_R 3 p), (1, mz_R 3 p1), (2, mz_R 3 p2), (3, mz_I (nI k)), (4, mz_L y), (6, mz_I (nI j))], [], μ') := by
            have stop : ∀ (j : Nat) (y : Int64), j = k + 1 → y.toInt = fb_si (fun i => l1.getD i 0 * l2.getD (k - i) 0) j → v_Row_product (es_R (d + 2)) (es_qI (es_res p n (es_cv (fun k => l1.getD k 0) (fun k => l2.getD k 0)) μ)) (31, [(0, mz_R 3 p), (1, mz_R 3 p1), (2, mz_R 3 p2), (3, mz_I (nI k)), (4, mz_L y), (6, mz_I (nI j))], [], μ') := by
              intro j y hj hy
              subst hj
              refine w_Row_product_31 p p1 p2 (nI k) y (nI (k + 1)) μ' (es_t (nI_lt (by omega) (by omega)) ?_)
              refine ⟨_, _, es_pure (s_isWide (d + 1) y μ'), ?_⟩
              rw [hy]
              refine es_br (fun q => ?_) (fun q => es_rI (es_res.wide (k := k) hf (by omega) ?_))
              · rw [es_b_0] at q
                have q3 := es_big_f q
                obtain ⟨μ2, hD, hf2, hr2⟩ := s_put_n (d + 1) (p := p) (n := n) (j := k) (v := y) hr (by omega) (by rw [hy]; omega)
                refine ⟨_, hD, ?_⟩
                rw [nI_1]
                refine ih (k + 1) μ2 (by omega) (by omega) (hf.tr hf2) (hr2.cong (fun j hj => ?_)) (fun j hj => ?_)
                · by_cases e : j = k
                  · rw [if_pos e, if_pos (by omega), hy, e]; rfl
                  · rw [if_neg e]
                    by_cases e3 : j < k
                    · rw [if_pos e3, if_pos (by omega)]
                    · rw [if_neg e3, if_neg (by omega)]
                · by_cases e : j = k
                  · rw [e]; exact q
                  · exact hb j (by omega)
              · rw [es_b_0] at q
                exact Bool.of_not_eq_false q
            intro g2
            induction g2 with
            | zero => exact fun j y hg hj hy => stop j y (by omega) hy
            | succ g2 ih2 =>
              intro j y hg hj hy
              by_cases e : j = k + 1
              · exact stop j y e hy
              · refine w_Row_product_31 p p1 p2 (nI k) y (nI j) μ' (es_f (nI_nlt (by omega) (by omega)) ⟨vp_in_nI (by omega) (by omega), ?_⟩)
                rw [pk_sub (by omega)]
                refine ⟨vp_in_nI (by omega) (by omega), ?_⟩
                rw [es_clamp (by omega), es_clamp (by omega), nI_1]
                have h1' := h1.kept hf e1.n1 e1.n2
                have h2' := h2.kept hf e2.n1 e2.n2
                refine ih2 (j + 1) _ (by omega) (by omega) ?_
                have t := es_mulb (h1.bd j) (h2.bd (k - j))
                have b := bnd k j
                rw [fb_si_succ]
                exact es_add64 hy (es_mul64 (by rw [es_i2l, h1'.2.2 j (by omega)]) (by rw [es_i2l, h2'.2.2 (k - j) (by omega)]) (by omega) (by omega)) (by omega) (by omega)
          exact inner (k + 1) 0 0 (by omega) (by omega) rfl
  exact key n 0 μ1 (by omega) (by omega) hf (hr.cong (fun j hj => (if_neg (by omega)).symm)) (fun j hj => by omega)
end
section
/-! Quotients, powers, kinds, changes of rows. -/
/-- the first k terms of a quotient -/
def es_ql (a b : Nat → Int) (s : Int) : Nat → List Int
  | 0 => []
  | k + 1 => es_ql a b s k ++ [(a k - fb_si (fun j => b (j + 1) * (es_ql a b s k).getD (k - (j + 1)) 0) k) * s]
def es_qf (a b : Nat → Int) (s : Int) (k : Nat) : Int := (es_ql a b s (k + 1)).getD k 0
theorem es_ql_len (a b : Nat → Int) (s : Int) : ∀ k, (es_ql a b s k).length = k
  | 0 => rfl
  | k + 1 => by unfold es_ql; rw [List.length_append, es_ql_len a b s k]; rfl
theorem es_ql_at (a b : Nat → Int) (s : Int) {j : Nat} : ∀ {n : Nat}, j < n → (es_ql a b s n).getD j 0 = es_qf a b s j
  | 0, h => absurd h (Nat.not_lt_zero _)
  | n + 1, h => by
    by_cases e : j = n
    · subst e; rfl
    · unfold es_ql
      rw [List.getD_eq_getElem?_getD, List.getElem?_append_left (by rw [es_ql_len]; omega), ← List.getD_eq_getElem?_getD]
      exact es_ql_at a b s (by omega)
theorem es_qf_eq (a b : Nat → Int) (s : Int) (k : Nat) : es_qf a b s k = (a k - fb_si (fun j => b (j + 1) * es_qf a b s (k - (j + 1))) k) * s := by
  unfold es_qf
  rw [show es_ql a b s (k + 1) = es_ql a b s k ++ [(a k - fb_si (fun j => b (j + 1) * (es_ql a b s k).getD (k - (j + 1)) 0) k) * s] from rfl]
  rw [List.getD_eq_getElem?_getD, List.getElem?_append_right (by rw [es_ql_len]; omega), es_ql_len, Nat.sub_self]
  show (a k - _) * s = _
  congr 2
  exact fb_si_cong (fun j hj => by rw [es_ql_at a b s (by omega)]; rfl)
theorem es_qf_cong {a b a' b' : Nat → Int} {s : Int} : ∀ {k : Nat}, (∀ i, i ≤ k → a i = a' i) → (∀ i, i ≤ k → b i = b' i) → es_qf a b s k = es_qf a' b' s k := by
  intro k
  induction k using Nat.strongRecOn with
  | _ k ih =>
    intro h1 h2
    rw [es_qf_eq a b, es_qf_eq a' b', h1 k (by omega)]
    congr 2
    exact fb_si_cong (fun j hj => by rw [h2 (j + 1) (by omega), ih (k - (j + 1)) (by omega) (fun i hi => h1 i (by omega)) (fun i hi => h2 i (by omega))])
/-- a quotient: refused, or as es_res -/
def es_rat (p : Nat) (l1 l2 : List Int) (μ : mz_M) (r : Int32) (μ' : mz_M) : Prop :=
  (¬ (l2.getD 0 0 = 1 ∨ l2.getD 0 0 = -1) ∧ r = -1000006 ∧ μ' = μ) ∨ ((l2.getD 0 0 = 1 ∨ l2.getD 0 0 = -1) ∧ es_res p (min l1.length l2.length) (es_qf (fun k => l1.getD k 0) (fun k => l2.getD k 0) (l2.getD 0 0)) μ r μ')
set_option maxHeartbeats 1000000 in
theorem s_ratio (d : Nat) {p p1 p2 : Nat} {μ : mz_M} {l1 l2 : List Int} (h1 : es_row μ p1 l1) (h2 : es_row μ p2 l2) (e1 : es_sep p p1) (e2 : es_sep p p2) :
    es_I (d + 3) n_Row_ratio [mz_R 3 p, mz_R 3 p1, mz_R 3 p2] μ (es_rat p l1 l2 μ) := by
  have c1 := h1.1.1
  have c2 := h2.1.1
  refine es_I.mk (w_Row_ratio_0 p p1 p2 μ ?_)
  obtain ⟨rt, hA, ha⟩ := es_pur (s_at_n (d + 1) (k := 0) h2 (by omega))
  refine ⟨_, _, hA, ?_⟩
  rw [h1.2.1, h2.2.1]
  generalize hs : l2.getD 0 0 = s0 at ha
  have main : s0 = 1 ∨ s0 = -1 → (∃ (r4 : Int32) (μ3 : mz_M), es_R (d + 2) n_Math_min [mz_I (nI l1.length), mz_I (nI l2.length)] μ (some (mz_I r4)) μ3 ∧
          (∃ μ5, es_R (d + 2) n_Row_begin [mz_R 3 p, mz_I r4] μ3 none μ5 ∧
            (v_Row_ratio (es_R (d + 2)) (es_qI (es_rat p l1 l2 μ)) (37, [(0, mz_R 3 p), (1, mz_R 3 p1), (2, mz_R 3 p2), (3, mz_I rt), (4, mz_I 0)], [], μ5)))) := by
    intro hs1
    refine ⟨_, _, es_pure (s_min_n (d + 1) (by omega) (by omega) μ), ?_⟩
    obtain ⟨μ1, hC, hf, hr⟩ := s_begin d (p := p) (n := min l1.length l2.length) (by omega) μ
    refine ⟨_, hC, ?_⟩
    have fin : ∀ r μ', es_res p (min l1.length l2.length) (es_qf (fun k => l1.getD k 0) (fun k => l2.getD k 0) s0) μ r μ' → es_rat p l1 l2 μ r μ' := by
      intro r μ' h
      unfold es_rat
      rw [hs]
      exact Or.inr ⟨hs1, h⟩
    generalize hn : min l1.length l2.length = n at hr fin ⊢
    generalize hF : es_qf (fun k => l1.getD k 0) (fun k => l2.getD k 0) s0 = F at fin
    have key : ∀ (g k : Nat) (μ' : mz_M), n - k ≤ g → k ≤ n → es_fr (es_2 p) μ μ' → es_raw μ' p n (fun j => if j < k then F j else 0) → (∀ j, j < k → es_big (F j) = false) → v_Row_ratio (es_R (d + 2)) (es_qI (es_rat p l1 l2 μ)) (37, [(0, mz_R 3 p), (1, mz_R 3 p1), (2, mz_R 3 p2), (3, mz_I rt), (4, mz_I (nI k))], [], μ') := by
      intro g
      induction g with
      | zero =>
        intro k μ' hg hk hf hr hb
        have hkn : k = n := by omega
        refine w_Row_ratio_37 p p1 p2 rt (nI k) μ' (es_t ?_ (es_rI (fin _ _ (es_res.done hf (hr.cong (fun j hj => if_pos (by omega))) (fun j hj => hb j (by omega))))))
        rw [hr.2.1]
        exact nI_le (by omega) (by omega)
      | succ g ih =>
        intro k μ' hg hk hf hr hb
        by_cases hkn : k = n
        · refine w_Row_ratio_37 p p1 p2 rt (nI k) μ' (es_t ?_ (es_rI (fin _ _ (es_res.done hf (hr.cong (fun j hj => if_pos (by omega))) (fun j hj => hb j (by omega))))))
          rw [hr.2.1]
          exact nI_le (by omega) (by omega)
        · refine w_Row_ratio_37 p p1 p2 rt (nI k) μ' (es_f ?_ ⟨vp_in_nI (by omega) (by omega), ?_⟩)
          · rw [hr.2.1]
            exact nI_ge (by omega) (by omega)
          · have h1' := h1.kept hf e1.n1 e1.n2
            have h2' := h2.kept hf e2.n1 e2.n2
            rw [es_clamp (by omega)]
            have bF : ∀ j, j < k → -100000000 ≤ F j ∧ F j ≤ 100000000 := fun j hj => es_big_f (hb j hj)
            have bnd : ∀ j, j ≤ k → -(j * 10000000000000000 : Int) ≤ fb_si (fun i => l2.getD (i + 1) 0 * F (k - (i + 1))) j ∧ fb_si (fun i => l2.getD (i + 1) 0 * F (k - (i + 1))) j ≤ (j * 10000000000000000 : Int) := fun j hj => fb_si_bound (by omega) (fun i hi => by
              have := es_mulb (h2.bd (i + 1)) (bF (k - (i + 1)) (by omega))
              omega)
            have b1 := h1.bd k
            have inner : ∀ (g2 j : Nat) (y : Int64), k - j ≤ g2 → j ≤ k → y.toInt = l1.getD k 0 - fb_si (fun i => l2.getD (i + 1) 0 * F (k - (i + 1))) j → v_Row_ratio (es_R (d + 2)) (es_qI (es_rat p l1 l2 μ)) (59, [(0, mz_R 3 p), (1, mz_R 3 p1), (2, mz_R 3 p2), (3, mz_I rt), (4, mz_I (nI k)), (5, mz_L y), (7, mz_I (nI (j + 1)))], [], μ') := by
              have stop : ∀ (j : Nat) (y : Int64), j = k → y.toInt = l1.getD k 0 - fb_si (fun i => l2.getD (i + 1) 0 * F (k - (i + 1))) j → v_Row_ratio (es_R (d + 2)) (es_qI (es_rat p l1 l2 μ)) (59, [(0, mz_R 3 p), (1, mz_R 3 p1), (2, mz_R 3 p2), (3, mz_I rt), (4, mz_I (nI k)), (5, mz_L y), (7, mz_I (nI (j + 1)))], [], μ') := by
                intro j y hj hy
                subst hj
                have b := bnd j (by omega)
                have hv : (y * rt.toInt64).toInt = F j := by
                  rw [← hF, es_qf_eq, hF]
                  refine es_mul64 hy (by rw [es_i2l, ha]) ?_ ?_
                  · rcases hs1 with e | e <;> rw [e] <;> omega
                  · rcases hs1 with e | e <;> rw [e] <;> omega
                refine w_Row_ratio_59 p p1 p2 rt (nI j) y (nI (j + 1)) μ' (es_t (nI_lt (by omega) (by omega)) ?_)
                refine ⟨_, _, es_pure (s_isWide (d + 1) _ μ'), ?_⟩
                rw [hv]
                refine es_br (fun q => ?_) (fun q => es_rI (fin _ _ (es_res.wide (k := j) hf (by omega) ?_)))
                · rw [es_b_0] at q
                  have q3 := es_big_f q
                  obtain ⟨μ2, hD, hf2, hr2⟩ := s_put_n (d + 1) (p := p) (n := n) (j := j) (v := y * rt.toInt64) hr (by omega) (by rw [hv]; omega)
                  refine ⟨_, hD, ?_⟩
                  rw [nI_1]
                  refine ih (j + 1) μ2 (by omega) (by omega) (hf.tr hf2) (hr2.cong (fun i hi => ?_)) (fun i hi => ?_)
                  · by_cases e : i = j
                    · rw [if_pos e, if_pos (by omega), hv, e]
                    · rw [if_neg e]
                      by_cases e3 : i < j
                      · rw [if_pos e3, if_pos (by omega)]
                      · rw [if_neg e3, if_neg (by omega)]
                  · by_cases e : i = j
                    · rw [e]; exact q
                    · exact hb i (by omega)
                · rw [es_b_0] at q
                  exact Bool.of_not_eq_false q
              intro g2
              induction g2 with
              | zero => exact fun j y hg hj hy => stop j y (by omega) hy
              | succ g2 ih2 =>
                intro j y hg hj hy
                by_cases e : j = k
                · exact stop j y e hy
                · refine w_Row_ratio_59 p p1 p2 rt (nI k) y (nI (j + 1)) μ' (es_f (nI_nlt (by omega) (by omega)) ⟨vp_in_nI (by omega) (by omega), ?_⟩)
                  rw [pk_sub (by omega)]
                  refine ⟨vp_in_nI (by omega) (by omega), ?_⟩
                  rw [es_clamp (by omega), es_clamp (by omega), nI_1]
                  refine ih2 (j + 1) _ (by omega) (by omega) ?_
                  have t := es_mulb (h2.bd (j + 1)) (bF (k - (j + 1)) (by omega))
                  have b := bnd j (by omega)
                  rw [fb_si_succ, show ∀ a b c : Int, a - (b + c) = a - b - c by intros; omega]
                  exact es_sub64 hy (es_mul64 (by rw [es_i2l, h2'.2.2 (j + 1) (by omega)]) (by rw [es_i2l, hr.2.2 (k - (j + 1)) (by omega)]; exact if_pos (by omega)) (by omega) (by omega)) (by omega) (by omega)
            refine inner k 0 _ (by omega) (by omega) ?_
            rw [es_i2l, h1'.2.2 k (by omega)]
            show _ = _ - (0 : Int)
            omega
    exact key n 0 μ1 (by omega) (by omega) hf (hr.cong (fun j hj => (if_neg (by omega)).symm)) (fun j hj => by omega)
  refine es_br (fun q => main (Or.inl ?_)) (fun q => es_br (fun q2 => main (Or.inr ?_)) (fun q2 => es_rI (Or.inl ⟨?_, rfl, rfl⟩)))
  · rw [← ha, q]; rfl
  · rw [← ha, q2]; decide +kernel
  · rw [hs, ← ha]
    intro z
    rcases z with z | z
    · exact q (Int32.toInt_inj.mp (z.trans es_i1.symm))
    · exact q2 (Int32.toInt_inj.mp (by rw [z]; decide +kernel))
/-- two rows joined: 0 plus, 1 less, 2 times, else over -/
def es_jn (p : Nat) (act : Int32) (l1 l2 : List Int) (μ : mz_M) (r : Int32) (μ' : mz_M) : Prop :=
  if act = 0 then es_res p (min l1.length l2.length) (fun k => l1.getD k 0 + l2.getD k 0) μ r μ'
  else if act = 1 then es_res p (min l1.length l2.length) (fun k => l1.getD k 0 - l2.getD k 0) μ r μ'
  else if act = 2 then es_res p (min l1.length l2.length) (es_cv (fun k => l1.getD k 0) (fun k => l2.getD k 0)) μ r μ'
  else es_rat p l1 l2 μ r μ'
theorem s_joined (d : Nat) {p p1 p2 : Nat} {act : Int32} {μ : mz_M} {l1 l2 : List Int} (h1 : es_row μ p1 l1) (h2 : es_row μ p2 l2) (e1 : es_sep p p1) (e2 : es_sep p p2) :
    es_I (d + 4) n_Row_becomeJoined [mz_R 3 p, mz_I act, mz_R 3 p1, mz_R 3 p2] μ (es_jn p act l1 l2 μ) := by
  refine es_I.mk (w_Row_becomeJoined_0 p act p1 p2 μ (es_br (fun q => ?_) (fun q => es_br (fun q2 => ?_) (fun q2 => es_br (fun q3 => ?_) (fun q3 => ?_)))))
  · obtain ⟨r, μ', hC, h⟩ := s_sum d (sg := 1) h1 h2 e1 e2 (Or.inl es_i1)
    exact ⟨_, _, hC, es_rI (es_t q (h.cong (fun k _ => by rw [es_i1]; omega)))⟩
  · obtain ⟨r, μ', hC, h⟩ := s_sum d (sg := -1) h1 h2 e1 e2 (Or.inr (by decide +kernel))
    exact ⟨_, _, hC, es_rI (es_f q (es_t q2 (h.cong (fun k _ => by rw [show (-1 : Int32).toInt = -1 by decide +kernel]; omega))))⟩
  · obtain ⟨r, μ', hC, h⟩ := s_product d h1 h2 e1 e2
    exact ⟨_, _, hC, es_rI (es_f q (es_f q2 (es_t q3 h)))⟩
  · obtain ⟨r, μ', hC, h⟩ := s_ratio d h1 h2 e1 e2
    exact ⟨_, _, hC, es_rI (es_f q (es_f q2 (es_f q3 h)))⟩
/-- powers -/
def es_pwf (b : Nat → Int) : Nat → Nat → Int
  | 0, k => if k = 0 then 1 else 0
  | t + 1, k => es_cv (es_pwf b t) b k
def es_pwd (n : Nat) (b : Nat → Int) : Nat → Bool
  | 0 => false
  | t + 1 => es_pwd n b t || es_wd (es_pwf b (t + 1)) n
def es_4 (p q : Nat) : Nat → Prop := fun z => es_2 p z ∨ es_2 q z
def es_pws (p p3 : Nat) (l : List Int) (v : Nat) (μ : mz_M) (r : Int32) (μ' : mz_M) : Prop := es_fr (es_4 p p3) μ μ' ∧ ((es_pwd l.length (fun k => l.getD k 0) v = true ∧ r = -1000005) ∨ (es_pwd l.length (fun k => l.getD k 0) v = false ∧ r = 0 ∧ es_row μ' p (es_ls l.length (es_pwf (fun k => l.getD k 0) v))))
theorem es_pwd_up {n : Nat} {b : Nat → Int} : ∀ {s t : Nat}, t ≤ s → es_pwd n b t = true → es_pwd n b s = true
  | 0, t, h, ht => by
    have : t = 0 := by omega
    subst this; exact ht
  | s + 1, t, h, ht => by
    by_cases e : t = s + 1
    · subst e; exact ht
    · unfold es_pwd
      rw [es_pwd_up (by omega) ht, Bool.true_or]
theorem s_power (d : Nat) {p p1 p3 v : Nat} {μ : mz_M} {l : List Int} (h1 : es_row μ p1 l) (e1 : es_sep p p1) (e2 : es_sep p3 p1) (e3 : es_sep p3 p) (hv : v < 2147483648) :
    es_I (d + 4) n_Row_becomePower [mz_R 3 p, mz_R 3 p1, mz_I (nI v), mz_R 3 p3] μ (es_pws p p3 l v μ) := by
  have c1 := h1.1.1
  refine es_I.mk (w_Row_becomePower_0 p p1 (nI v) p3 μ ?_)
  rw [h1.2.1]
  obtain ⟨μ1, hC, hf, hr⟩ := s_begin (d + 1) (p := p) (n := l.length) (by omega) μ
  refine ⟨_, hC, ?_⟩
  obtain ⟨μ2, hD, hf2, hr2⟩ := s_put_n (d + 2) (p := p) (j := 0) (v := 1) hr (by omega) (by decide +kernel)
  refine ⟨_, hD, ?_⟩
  generalize hb : (fun k => l.getD k 0) = b at *
  have hn4 : ∀ {q}, es_sep p q → es_sep p3 q → ¬ es_4 p p3 q := fun h h' z => z.elim (h.n1) (h'.n1)
  have hn5 : ∀ {q}, es_sep p q → es_sep p3 q → ¬ es_4 p p3 (q + 1) := fun h h' z => z.elim (h.n2) (h'.n2)
  have key : ∀ (g t : Nat) (μ' : mz_M), v - t ≤ g → t ≤ v → es_fr (es_4 p p3) μ μ' → es_pwd l.length b t = false → es_row μ' p (es_ls l.length (es_pwf b t)) → v_Row_becomePower (es_R (d + 3)) (es_qI (es_pws p p3 l v μ)) (17, [(0, mz_R 3 p), (1, mz_R 3 p1), (2, mz_I (nI v)), (3, mz_R 3 p3), (4, mz_I (nI t))], [], μ') := by
    have fin : ∀ (μ' : mz_M), es_fr (es_4 p p3) μ μ' → es_pwd l.length b v = false → es_row μ' p (es_ls l.length (es_pwf b v)) → es_pws p p3 l v μ 0 μ' := by
      intro μ' hf hd hr
      unfold es_pws
      rw [hb]
      exact ⟨hf, Or.inr ⟨hd, rfl, hr⟩⟩
    intro g
    induction g with
    | zero =>
      intro t μ' hg ht hf hd hr
      have htv : t = v := by omega
      subst htv
      exact w_Row_becomePower_17 p p1 _ p3 _ μ' (es_t (nI_le (by omega) (by omega)) (es_rI (fin μ' hf hd hr)))
    | succ g ih =>
      intro t μ' hg ht hf hd hr
      by_cases htv : t = v
      · subst htv
        exact w_Row_becomePower_17 p p1 _ p3 _ μ' (es_t (nI_le (by omega) (by omega)) (es_rI (fin μ' hf hd hr)))
      · refine w_Row_becomePower_17 p p1 _ p3 _ μ' (es_f (nI_ge (by omega) (by omega)) ?_)
        obtain ⟨r, μ3, hE, hf3, h3⟩ := s_product d hr (h1.kept hf (hn4 e1 e2) (hn5 e1 e2)) e3 e2
        refine ⟨_, _, hE, ?_⟩
        rw [es_ls_len, Nat.min_self] at h3
        have hcv : ∀ k, k < l.length → es_cv (fun k => (es_ls l.length (es_pwf b t)).getD k 0) (fun k => l.getD k 0) k = es_pwf b (t + 1) k := by
          intro k hk
          exact es_cv_cong (fun i hi => es_ls_at _ (by omega)) (fun i _ => congrFun hb i)
        rw [es_wd_cong hcv, es_ls_cong hcv] at h3
        have hf3' : es_fr (es_4 p p3) μ μ3 := hf.tr (hf3.mono (fun q z => Or.inr z))
        rcases h3 with ⟨h4, h5⟩ | ⟨h4, h5, h6⟩
        · refine es_f (by rw [h5]; decide +kernel) (es_rI ?_)
          unfold es_pws
          rw [hb]
          refine ⟨hf3', Or.inl ⟨es_pwd_up (t := t + 1) (by omega) ?_, h5⟩⟩
          unfold es_pwd
          rw [h4, Bool.or_true]
        · refine es_t h5 ?_
          obtain ⟨μ4, hG, hf4, hr4⟩ := s_take (d + 2) (p := p) h6 (by unfold es_sep at *; omega)
          refine ⟨_, hG, ?_⟩
          rw [nI_1]
          refine ih (t + 1) μ4 (by omega) (by omega) (hf3'.tr (hf4.mono (fun q z => Or.inl z))) ?_ hr4
          unfold es_pwd
          rw [hd, h4]; rfl
  refine key v 0 μ2 (by omega) (by omega) ((hf.tr hf2).mono (fun q z => Or.inl z)) rfl ?_
  refine hr2.row (es_ls_len _ _) (fun k hk => ?_) (fun k hk => ?_)
  · rw [es_ls_at _ hk]; rfl
  · by_cases e : k = 0
    · rw [if_pos e]; decide +kernel
    · rw [if_neg e]; decide
end
section
/-! Kinds, changes. -/
/-- what a row holds behind writes, the latest first -/
def es_pt : List (Nat × Int) → Nat → Int
  | [], _ => 0
  | q :: r, j => if j = q.1 then q.2 else es_pt r j
/-- the writes of a kind: 0 one, 1 theta, 2 psi, 3 euler, 4 q -/
def es_bp (kind d : Nat) : Nat → List (Nat × Int)
  | 0 => [(if kind = 4 then d else 0, 1)]
  | k + 1 => if kind = 1 then (d * (k + 1) * (k + 1), 2) :: es_bp kind d k
    else if kind = 2 then (d * (k + 1) * (k + 1 + 1) / 2, 1) :: es_bp kind d k
    else if kind = 3 then (d * ((k + 1) * (3 * (k + 1) + 1) / 2), if (k + 1) % 2 = 0 then 1 else -1) :: (d * ((k + 1) * (3 * (k + 1) - 1) / 2), if (k + 1) % 2 = 0 then 1 else -1) :: es_bp kind d k
    else es_bp kind d k
def es_kd (kind d n : Nat) : List Int := es_ls n (es_pt (es_bp kind d (n - 1)))
theorem es_pt_bd {ps : List (Nat × Int)} (h : ∀ q ∈ ps, -2 ≤ q.2 ∧ q.2 ≤ 2) : ∀ j, -2 ≤ es_pt ps j ∧ es_pt ps j ≤ 2 := by
  intro j
  induction ps with
  | nil => exact ⟨show (-2 : Int) ≤ 0 by decide, show (0 : Int) ≤ 2 by decide⟩
  | cons q r ih =>
    unfold es_pt
    by_cases e : j = q.1
    · rw [if_pos e]; exact h q List.mem_cons_self
    · rw [if_neg e]; exact ih (fun z hz => h z (List.mem_cons_of_mem _ hz))
theorem es_bp_bd (kind d : Nat) : ∀ k, ∀ q ∈ es_bp kind d k, -2 ≤ q.2 ∧ q.2 ≤ 2
  | 0, q, h => by
    rcases List.mem_cons.mp h with rfl | h
    · exact ⟨show (-2 : Int) ≤ 1 by decide, show (1 : Int) ≤ 2 by decide⟩
    · cases h
  | k + 1, q, h => by
    have ih := es_bp_bd kind d k
    unfold es_bp at h
    split at h
    · rcases List.mem_cons.mp h with rfl | h
      · exact ⟨show (-2 : Int) ≤ 2 by decide, show (2 : Int) ≤ 2 by decide⟩
      · exact ih q h
    · split at h
      · rcases List.mem_cons.mp h with rfl | h
        · exact ⟨show (-2 : Int) ≤ 1 by decide, show (1 : Int) ≤ 2 by decide⟩
        · exact ih q h
      · split at h
        · rcases List.mem_cons.mp h with rfl | h
          · dsimp only
            split <;> decide
          · rcases List.mem_cons.mp h with rfl | h
            · dsimp only
              split <;> decide
            · exact ih q h
        · exact ih q h
theorem s_putp (d : Nat) {p n j : Nat} {v : Int64} {w : Int} {μ : mz_M} {ps : List (Nat × Int)} (h : es_raw μ p n (es_pt ps)) (hj : j < 2147483648) (hw : v.toInt = w) (hb : -2 ≤ w ∧ w ≤ 2) : es_V (d + 1) n_Row_put [mz_R 3 p, mz_I (nI j), mz_L v] μ (fun μ' => es_fr (es_2 p) μ μ' ∧ es_raw μ' p n (es_pt ((j, w) :: ps))) := by
  refine (s_put_n d h hj (by omega)).mono (fun μ' q => ⟨q.1, q.2.cong (fun k hk => ?_)⟩)
  rw [hw]; rfl
theorem es_par (k : Nat) : (nI k &&& 1 = 0) ↔ k % 2 = 0 := by
  rw [show (1 : Int32) = nI (2 ^ 1 - 1) from rfl, fa_mask]
  constructor
  · intro h
    have := (nI_eq (a := k % 2 ^ 1) (b := 0) (by omega) (by omega)).mp h
    omega
  · intro h
    rw [show k % 2 ^ 1 = 0 by omega]; rfl
set_option maxHeartbeats 1000000 in
theorem s_become (d : Nat) {p kind dd n : Nat} (hk : kind ≤ 4) (hd : dd ≤ 39) (hn : n ≤ 40) (hn1 : 1 ≤ n) (μ : mz_M) : es_V (d + 3) n_Row_become [mz_R 3 p, mz_I (nI kind), mz_I (nI dd), mz_I (nI n)] μ (fun μ' => es_fr (es_2 p) μ μ' ∧ es_row μ' p (es_kd kind dd n)) := by
  refine es_V.mk (w_Row_become_0 p (nI kind) (nI dd) (nI n) μ ?_)
  obtain ⟨μ1, hC, hf, hr⟩ := s_begin d (p := p) hn μ
  refine ⟨_, hC, ?_⟩
  have b39 : ∀ a b c : Nat, a ≤ 39 → b ≤ 40 → c ≤ 121 → a * (b * c) ≤ 39 * (40 * 121) := fun a b c h1 h2 h3 => Nat.mul_le_mul h1 (Nat.mul_le_mul h2 h3)
  have key : ∀ (g k : Nat) (μ' : mz_M), n - k ≤ g → 1 ≤ k → k ≤ n → es_fr (es_2 p) μ μ' → es_raw μ' p n (es_pt (es_bp kind dd (k - 1))) → v_Row_become (es_R (d + 2)) (es_qV (fun μ' => es_fr (es_2 p) μ μ' ∧ es_row μ' p (es_kd kind dd n))) (23, [(0, mz_R 3 p), (1, mz_I (nI kind)), (2, mz_I (nI dd)), (4, mz_I (nI k))], [], μ') := by
    have fin : ∀ μ', es_fr (es_2 p) μ μ' → es_raw μ' p n (es_pt (es_bp kind dd (n - 1))) → es_fr (es_2 p) μ μ' ∧ es_row μ' p (es_kd kind dd n) := by
      intro μ' hf hr
      refine ⟨hf, hr.row (es_ls_len _ _) (fun k hk => (es_ls_at _ hk).symm) (fun k _ => ?_)⟩
      have := es_pt_bd (es_bp_bd kind dd (n - 1)) k
      omega
    intro g
    induction g with
    | zero =>
      intro k μ' hg h1 hk2 hf hr
      have hkn : k = n := by omega
      subst hkn
      exact w_Row_become_23 p _ _ _ μ' (es_t (by rw [hr.2.1]; exact nI_le (by omega) (by omega)) (es_rV (fin μ' hf hr)))
    | succ g ih =>
      intro k μ' hg h1 hk2 hf hr
      by_cases hkn : k = n
      · subst hkn
        exact w_Row_become_23 p _ _ _ μ' (es_t (by rw [hr.2.1]; exact nI_le (by omega) (by omega)) (es_rV (fin μ' hf hr)))
      · obtain ⟨j, rfl⟩ : ∃ j, k = j + 1 := ⟨k - 1, by omega⟩
        rw [Nat.add_sub_cancel] at hr
        refine w_Row_become_23 p _ _ _ μ' (es_f (by rw [hr.2.1]; exact nI_ge (by omega) (by omega)) ?_)
        have nx : ∀ (μ2 : mz_M), es_fr (es_2 p) μ' μ2 → es_raw μ2 p n (es_pt (es_bp kind dd (j + 1))) → v_Row_become (es_R (d + 2)) (es_qV (fun μ' => es_fr (es_2 p) μ μ' ∧ es_row μ' p (es_kd kind dd n))) (23, [(0, mz_R 3 p), (1, mz_I (nI kind)), (2, mz_I (nI dd)), (4, mz_I (nI (j + 1) + 1))], [], μ2) := by
          intro μ2 hf2 hr2
          rw [nI_1]
          exact ih (j + 1 + 1) μ2 (by omega) (by omega) (by omega) (hf.tr hf2) hr2
        have kq : ∀ c : Nat, c < 5 → (nI kind = nI c ↔ kind = c) := fun c hc => nI_eq (by omega) (by omega)
        refine es_br (fun q => ?_) (fun q => es_br (fun q2 => ⟨by decide +kernel, ?_⟩) (fun q2 => es_br (fun q3 => ?_) (fun q3 => ?_)))
        · have q := (kq 1 (by omega)).mp q
          have hb := b39 dd (j + 1) (j + 1) hd (by omega) (by omega)
          rw [pk_mul, pk_mul]
          obtain ⟨μ2, hD, hf2, hr2⟩ := s_putp (d + 1) (p := p) (j := dd * (j + 1) * (j + 1)) (v := 2) (w := 2) hr (by rw [Nat.mul_assoc]; omega) (by decide +kernel) (by omega)
          refine ⟨_, hD, nx μ2 hf2 ?_⟩
          unfold es_bp
          rw [if_pos q]
          exact hr2
        · have q2 := (kq 2 (by omega)).mp q2
          have hb := b39 dd (j + 1) (j + 1 + 1) hd (by omega) (by omega)
          have e : nI dd * nI (j + 1) * (nI (j + 1) + 1) / 2 = nI (dd * (j + 1) * (j + 1 + 1) / 2) := by
            rw [nI_1, pk_mul, pk_mul, show (2 : Int32) = nI 2 from rfl, pk_div (by rw [Nat.mul_assoc]; omega) (by omega) (by omega)]
          rw [e]
          have hlt : dd * (j + 1) * (j + 1 + 1) / 2 < 2147483648 := by
            have := Nat.div_le_self (dd * (j + 1) * (j + 1 + 1)) 2
            rw [Nat.mul_assoc] at this ⊢
            omega
          obtain ⟨μ2, hD, hf2, hr2⟩ := s_putp (d + 1) (p := p) (j := dd * (j + 1) * (j + 1 + 1) / 2) (v := 1) (w := 1) hr hlt (by decide +kernel) (by omega)
          refine ⟨_, hD, nx μ2 hf2 ?_⟩
          unfold es_bp
          rw [if_neg (by omega), if_pos q2]
          exact hr2
        · have q3 := (kq 3 (by omega)).mp q3
          have e1 : nI dd * (nI (j + 1) * (3 * nI (j + 1) - 1) / 2) = nI (dd * ((j + 1) * (3 * (j + 1) - 1) / 2)) := by
            have hb : (j + 1) * (3 * (j + 1) - 1) ≤ 40 * 121 := Nat.mul_le_mul (by omega) (by omega)
            rw [show (3 : Int32) = nI 3 from rfl, show (1 : Int32) = nI 1 from rfl, pk_mul, pk_sub (by omega), pk_mul, show (2 : Int32) = nI 2 from rfl, pk_div (by omega) (by omega) (by omega), pk_mul]
          have e2 : nI dd * (nI (j + 1) * (3 * nI (j + 1) + 1) / 2) = nI (dd * ((j + 1) * (3 * (j + 1) + 1) / 2)) := by
            have hb : (j + 1) * (3 * (j + 1) + 1) ≤ 40 * 121 := Nat.mul_le_mul (by omega) (by omega)
            rw [show (3 : Int32) = nI 3 from rfl, pk_mul, nI_1, pk_mul, show (2 : Int32) = nI 2 from rfl, pk_div (by omega) (by omega) (by omega), pk_mul]
          have l1 : dd * ((j + 1) * (3 * (j + 1) - 1) / 2) < 2147483648 := by
            have h1 : (j + 1) * (3 * (j + 1) - 1) ≤ 40 * 121 := Nat.mul_le_mul (by omega) (by omega)
            have h2 : dd * ((j + 1) * (3 * (j + 1) - 1) / 2) ≤ 39 * (40 * 121) := Nat.mul_le_mul hd (by omega)
            omega
          have l2 : dd * ((j + 1) * (3 * (j + 1) + 1) / 2) < 2147483648 := by
            have h1 : (j + 1) * (3 * (j + 1) + 1) ≤ 40 * 121 := Nat.mul_le_mul (by omega) (by omega)
            have h2 : dd * ((j + 1) * (3 * (j + 1) + 1) / 2) ≤ 39 * (40 * 121) := Nat.mul_le_mul hd (by omega)
            omega
          rw [e1, e2]
          refine es_br (fun q4 => ⟨by decide +kernel, ?_⟩) (fun q4 => ⟨by decide +kernel, ?_⟩)
          · rw [es_par] at q4
            obtain ⟨μ2, hD, hf2, hr2⟩ := s_putp (d + 1) (p := p) (v := (1 : Int32).toInt64) (w := 1) hr l1 (by decide +kernel) (by omega)
            refine ⟨_, hD, by decide +kernel, ?_⟩
            obtain ⟨μ3, hE, hf3, hr3⟩ := s_putp (d + 1) (p := p) (v := (1 : Int32).toInt64) (w := 1) hr2 l2 (by decide +kernel) (by omega)
            refine ⟨_, hE, nx μ3 (hf2.tr hf3) ?_⟩
            unfold es_bp
            rw [if_neg (by omega), if_neg (by omega), if_pos q3, if_pos q4]
            exact hr3
          · rw [es_par] at q4
            obtain ⟨μ2, hD, hf2, hr2⟩ := s_putp (d + 1) (p := p) (v := (-1 : Int32).toInt64) (w := -1) hr l1 (by decide +kernel) (by omega)
            refine ⟨_, hD, by decide +kernel, ?_⟩
            obtain ⟨μ3, hE, hf3, hr3⟩ := s_putp (d + 1) (p := p) (v := (-1 : Int32).toInt64) (w := -1) hr2 l2 (by decide +kernel) (by omega)
            refine ⟨_, hE, nx μ3 (hf2.tr hf3) ?_⟩
            unfold es_bp
            rw [if_neg (by omega), if_neg (by omega), if_pos q3, if_neg q4]
            exact hr3
        · refine nx μ' es_fr.rf ?_
          unfold es_bp
          rw [if_neg (fun z => q ((kq 1 (by omega)).mpr z)), if_neg (fun z => q2 ((kq 2 (by omega)).mpr z)), if_neg (fun z => q3 ((kq 3 (by omega)).mpr z))]
          exact hr
  have hr0 : es_raw μ1 p n (es_pt []) := hr
  refine es_br (fun q => ?_) (fun q => ?_)
  · have q : kind = 4 := (nI_eq (a := kind) (b := 4) (by omega) (by omega)).mp q
    obtain ⟨μ2, hD, hf2, hr2⟩ := s_putp (d + 1) (p := p) (j := dd) (v := 1) (w := 1) hr0 (by omega) (by decide +kernel) (by omega)
    refine ⟨_, hD, key n 1 μ2 (by omega) (by omega) (by omega) (hf.tr hf2) ?_⟩
    show es_raw μ2 p n (es_pt [(if kind = 4 then dd else 0, 1)])
    rw [if_pos q]
    exact hr2
  · have q : ¬ kind = 4 := fun z => q ((nI_eq (a := kind) (b := 4) (by omega) (by omega)).mpr z)
    obtain ⟨μ2, hD, hf2, hr2⟩ := s_putp (d + 1) (p := p) (j := 0) (v := 1) (w := 1) hr0 (by omega) (by decide +kernel) (by omega)
    refine ⟨_, hD, key n 1 μ2 (by omega) (by omega) (by omega) (hf.tr hf2) ?_⟩
    show es_raw μ2 p n (es_pt [(if kind = 4 then dd else 0, 1)])
    rw [if_neg q]
    exact hr2
end
section
/-! Changes of a row: up, stretched, turned, cut, fold; a part. -/
def es_cf (act : Nat) (v : Int) (l : List Int) (j : Nat) : Int :=
  if act = 0 then (if v.toNat ≤ j then l.getD (j - v.toNat) 0 else 0)
  else if act = 1 then (if j % v.toNat = 0 then l.getD (j / v.toNat) 0 else 0)
  else if act = 2 then (if j % 2 = 0 then l.getD j 0 else -l.getD j 0)
  else if act = 4 then l.getD j 0
  else l.getD j 0 * v
theorem es_cf_bd {act : Nat} {v : Int} {l : List Int} (hl : ∀ k, -100000000 ≤ l.getD k 0 ∧ l.getD k 0 ≤ 100000000) (ha : act = 0 ∨ act = 1 ∨ act = 2 ∨ act = 4) (j : Nat) : es_big (es_cf act v l j) = false := by
  have h1 := hl j
  have h2 := hl (j - v.toNat)
  have h3 := hl (j / v.toNat)
  unfold es_big
  apply decide_eq_false
  unfold es_cf
  rcases ha with rfl | rfl | rfl | rfl
  · rw [if_pos rfl]; split <;> omega
  · rw [if_neg (by decide), if_pos rfl]; split <;> omega
  · rw [if_neg (by decide), if_neg (by decide), if_pos rfl]; split <;> omega
  · rw [if_neg (by decide), if_neg (by decide), if_neg (by decide), if_pos rfl]; omega
set_option maxHeartbeats 1000000 in
theorem s_changed (d : Nat) {p p3 act : Nat} {v : Int32} {μ : mz_M} {l : List Int} (h : es_row μ p3 l) (e : es_sep p p3)
    (ha : (act = 0 ∧ 0 ≤ v.toInt ∧ v.toInt ≤ 9) ∨ (act = 1 ∧ 1 ≤ v.toInt ∧ v.toInt ≤ 8) ∨ act = 2 ∨ (act = 4 ∧ 0 ≤ v.toInt ∧ v.toInt ≤ l.length) ∨ (act = 6 ∧ -99 ≤ v.toInt ∧ v.toInt ≤ 99)) :
    es_I (d + 3) n_Row_becomeChanged [mz_R 3 p, mz_I (nI act), mz_I v, mz_R 3 p3] μ (es_res p (if act = 4 then v.toInt.toNat else l.length) (es_cf act v.toInt l) μ) := by
  have c1 := h.1.1
  have aq : ∀ c : Nat, c < 10 → (nI act = nI c ↔ act = c) := fun c hc => nI_eq (by omega) (by omega)
  have hact : act < 7 ∧ act ≠ 3 ∧ act ≠ 5 := by omega
  generalize hn : (if act = 4 then v.toInt.toNat else l.length) = n
  have hn40 : n ≤ 40 ∧ n ≤ l.length := by
    rw [← hn]
    split
    · omega
    · omega
  have loop : ∀ (F : Nat → Nat → Int), (∀ (k : Nat) (μ' : mz_M), k < l.length → es_fr (es_2 p) μ μ' → es_raw μ' p n (F k) → (∀ j, j < k → act = 6 → es_big (es_cf act v.toInt l j) = false) → (∀ μ2, es_fr (es_2 p) μ' μ2 → es_raw μ2 p n (F (k + 1)) → (act = 6 → es_big (es_cf act v.toInt l k) = false) → v_Row_becomeChanged (es_R (d + 2)) (es_qI (es_res p n (es_cf act v.toInt l) μ)) (39, [(0, mz_R 3 p), (1, mz_I (nI act)), (2, mz_I v), (3, mz_R 3 p3), (4, mz_I (nI k + 1))], [], μ2)) →
        ∃ (r2 : Int32) (μ1 : mz_M), es_R (d + 2) n_Row_at [mz_R 3 p3, mz_I (nI k)] μ' (some (mz_I r2)) μ1 ∧
        (if nI act = (0 : Int32) then
          (∃ μ3, es_R (d + 2) n_Row_put [mz_R 3 p, mz_I (nI k + v), mz_L r2.toInt64] μ1 none μ3 ∧
            (v_Row_becomeChanged (es_R (d + 2)) (es_qI (es_res p n (es_cf act v.toInt l) μ)) (39, [(0, mz_R 3 p), (1, mz_I (nI act)), (2, mz_I v), (3, mz_R 3 p3), (4, mz_I (nI k + 1))], [], μ3)))
        else
          (if nI act = (1 : Int32) then
            (∃ μ4, es_R (d + 2) n_Row_put [mz_R 3 p, mz_I (nI k * v), mz_L r2.toInt64] μ1 none μ4 ∧
              (v_Row_becomeChanged (es_R (d + 2)) (es_qI (es_res p n (es_cf act v.toInt l) μ)) (39, [(0, mz_R 3 p), (1, mz_I (nI act)), (2, mz_I v), (3, mz_R 3 p3), (4, mz_I (nI k + 1))], [], μ4)))
          else
            (if nI act = (2 : Int32) then
              (if nI k &&& 1 = (0 : Int32) then
                (∃ μ5, es_R (d + 2) n_Row_put [mz_R 3 p, mz_I (nI k), mz_L r2.toInt64] μ1 none μ5 ∧
                  (v_Row_becomeChanged (es_R (d + 2)) (es_qI (es_res p n (es_cf act v.toInt l) μ)) (39, [(0, mz_R 3 p), (1, mz_I (nI act)), (2, mz_I v), (3, mz_R 3 p3), (4, mz_I (nI k + 1))], [], μ5)))
              else
                (∃ μ6, es_R (d + 2) n_Row_put [mz_R 3 p, mz_I (nI k), mz_L (-r2.toInt64)] μ1 none μ6 ∧
                  (v_Row_becomeChanged (es_R (d + 2)) (es_qI (es_res p n (es_cf act v.toInt l) μ)) (39, [(0, mz_R 3 p), (1, mz_I (nI act)), (2, mz_I v), (3, mz_R 3 p3), (4, mz_I (nI k + 1))], [], μ6))))
            else
              (if nI act = (4 : Int32) then
                (∃ μ7, es_R (d + 2) n_Row_put [mz_R 3 p, mz_I (nI k), mz_L r2.toInt64] μ1 none μ7 ∧
                  (v_Row_becomeChanged (es_R (d + 2)) (es_qI (es_res p n (es_cf act v.toInt l) μ)) (39, [(0, mz_R 3 p), (1, mz_I (nI act)), (2, mz_I v), (3, mz_R 3 p3), (4, mz_I (nI k + 1))], [], μ7)))
              else
                (∃ (r9 : Int32) (μ8 : mz_M), es_R (d + 2) n_ES_isWide [mz_L (r2.toInt64 * v.toInt64)] μ1 (some (mz_I r9)) μ8 ∧
                  (if r9 = (0 : Int32) then
                    (∃ μ10, es_R (d + 2) n_Row_put [mz_R 3 p, mz_I (nI k), mz_L (r2.toInt64 * v.toInt64)] μ8 none μ10 ∧
                      (v_Row_becomeChanged (es_R (d + 2)) (es_qI (es_res p n (es_cf act v.toInt l) μ)) (39, [(0, mz_R 3 p), (1, mz_I (nI act)), (2, mz_I v), (3, mz_R 3 p3), (4, mz_I (nI k + 1))], [], μ10)))
                  else
                    (es_qI (es_res p n (es_cf act v.toInt l) μ) (some (mz_I (-1000005))) μ8)))))))) →
      (∀ j, j < n → F l.length j = es_cf act v.toInt l j) → (∀ j, j < n → F 0 j = 0) →
      ∀ μ1, es_fr (es_2 p) μ μ1 → es_raw μ1 p n (fun _ => 0) → v_Row_becomeChanged (es_R (d + 2)) (es_qI (es_res p n (es_cf act v.toInt l) μ)) (39, [(0, mz_R 3 p), (1, mz_I (nI act)), (2, mz_I v), (3, mz_R 3 p3), (4, mz_I 0)], [], μ1) := by
    intro F hst hF1 hF0 μ1 hf1 hr1
    have key : ∀ (g k : Nat) (μ' : mz_M), l.length - k ≤ g → k ≤ l.length → es_fr (es_2 p) μ μ' → es_raw μ' p n (F k) → (∀ j, j < k → act = 6 → es_big (es_cf act v.toInt l j) = false) → v_Row_becomeChanged (es_R (d + 2)) (es_qI (es_res p n (es_cf act v.toInt l) μ)) (39, [(0, mz_R 3 p), (1, mz_I (nI act)), (2, mz_I v), (3, mz_R 3 p3), (4, mz_I (nI k))], [], μ') := by
      have stop : ∀ (k : Nat) (μ' : mz_M), k = l.length → es_fr (es_2 p) μ μ' → es_raw μ' p n (F k) → (∀ j, j < k → act = 6 → es_big (es_cf act v.toInt l j) = false) → v_Row_becomeChanged (es_R (d + 2)) (es_qI (es_res p n (es_cf act v.toInt l) μ)) (39, [(0, mz_R 3 p), (1, mz_I (nI act)), (2, mz_I v), (3, mz_R 3 p3), (4, mz_I (nI k))], [], μ') := by
        intro k μ' hk hf hr hb
        subst hk
        refine w_Row_becomeChanged_39 p _ v p3 _ μ' (es_t ?_ (es_rI (es_res.done hf (hr.cong hF1) (fun j hj => ?_))))
        · rw [(h.kept hf e.n1 e.n2).2.1]
          exact nI_le (by omega) (by omega)
        · by_cases h6 : act = 6
          · exact hb j (by omega) h6
          · exact es_cf_bd h.bd (by omega) j
      intro g
      induction g with
      | zero => exact fun k μ' hg hk hf hr hb => stop k μ' (by omega) hf hr hb
      | succ g ih =>
        intro k μ' hg hk hf hr hb
        by_cases hkn : k = l.length
        · exact stop k μ' hkn hf hr hb
        · refine w_Row_becomeChanged_39 p _ v p3 _ μ' (es_f ?_ ?_)
          · rw [(h.kept hf e.n1 e.n2).2.1]
            exact nI_ge (by omega) (by omega)
          · refine hst k μ' (by omega) hf hr hb (fun μ2 hf2 hr2 hb2 => ?_)
            rw [nI_1]
            refine ih (k + 1) μ2 (by omega) (by omega) (hf.tr hf2) hr2 (fun j hj h6 => ?_)
            by_cases ej : j = k
            · rw [ej]; exact hb2 h6
            · exact hb j (by omega) h6
    exact key l.length 0 μ1 (by omega) (by omega) hf1 (hr1.cong (fun j hj => (hF0 j hj).symm)) (fun j hj => by omega)
  have hv32 : ∀ (r : Int32) (k : Nat), r.toInt = l.getD k 0 → -2147483648 ≤ r.toInt64.toInt ∧ r.toInt64.toInt < 2147483648 := by
    intro r k hr
    have := h.bd k
    rw [es_i2l, hr]
    omega
  have all : ∀ μ1, es_fr (es_2 p) μ μ1 → es_raw μ1 p n (fun _ => 0) → v_Row_becomeChanged (es_R (d + 2)) (es_qI (es_res p n (es_cf act v.toInt l) μ)) (39, [(0, mz_R 3 p), (1, mz_I (nI act)), (2, mz_I v), (3, mz_R 3 p3), (4, mz_I 0)], [], μ1) := by
    rcases ha with ⟨rfl, a1, a2⟩ | ⟨rfl, a1, a2⟩ | rfl | ⟨rfl, a1, a2⟩ | ⟨rfl, a1, a2⟩
    · obtain ⟨w, hw, rfl⟩ : ∃ w : Nat, w ≤ 9 ∧ v = nI w := ⟨v.toInt.toNat, by omega, es_nIof a1⟩
      have hwi : (nI w).toInt = w := nI_toInt (by omega)
      refine loop (fun k j => if w ≤ j ∧ j - w < k then l.getD (j - w) 0 else 0) (fun k μ' hk hf hr hb nx => ?_) (fun j hj => ?_) (fun j hj => if_neg (by omega))
      · obtain ⟨r, hA, hr2⟩ := es_pur (s_at_n (d + 1) (k := k) (h.kept hf e.n1 e.n2) (by omega))
        refine ⟨_, _, hA, es_t rfl ?_⟩
        rw [nI_add]
        obtain ⟨μ2, hD, hf2, hr3⟩ := s_put_n (d + 1) (j := k + w) hr (by omega) (hv32 r k hr2)
        refine ⟨_, hD, nx μ2 hf2 (hr3.cong (fun j hj => ?_)) (by omega)⟩
        rw [es_i2l, hr2]
        by_cases c : j = k + w
        · rw [if_pos c, if_pos (by omega), show j - w = k by omega]
        · rw [if_neg c]
          by_cases c2 : w ≤ j ∧ j - w < k
          · rw [if_pos c2, if_pos (by omega)]
          · rw [if_neg c2, if_neg (by omega)]
      · have ecf : es_cf 0 (nI w).toInt l j = if w ≤ j then l.getD (j - w) 0 else 0 := by rw [hwi]; rfl
        rw [ecf]
        show (if w ≤ j ∧ j - w < l.length then _ else _) = if w ≤ j then _ else _
        by_cases c : w ≤ j
        · rw [if_pos (show w ≤ j ∧ j - w < l.length by omega), if_pos c]
        · rw [if_neg (show ¬ (w ≤ j ∧ j - w < l.length) by omega), if_neg c]
    · obtain ⟨w, hw, rfl⟩ : ∃ w : Nat, (1 ≤ w ∧ w ≤ 8) ∧ v = nI w := ⟨v.toInt.toNat, by omega, es_nIof (by omega)⟩
      have hwi : (nI w).toInt = w := nI_toInt (by omega)
      refine loop (fun k j => if j % w = 0 ∧ j / w < k then l.getD (j / w) 0 else 0) (fun k μ' hk hf hr hb nx => ?_) (fun j hj => ?_) (fun j hj => if_neg (fun z => absurd z.2 (Nat.not_lt_zero _)))
      · obtain ⟨r, hA, hr2⟩ := es_pur (s_at_n (d + 1) (k := k) (h.kept hf e.n1 e.n2) (by omega))
        refine ⟨_, _, hA, es_f (by decide +kernel) (es_t rfl ?_)⟩
        rw [pk_mul]
        have hkw : k * w ≤ 40 * 8 := Nat.mul_le_mul (by omega) (by omega)
        obtain ⟨μ2, hD, hf2, hr3⟩ := s_put_n (d + 1) (j := k * w) hr (by omega) (hv32 r k hr2)
        refine ⟨_, hD, nx μ2 hf2 (hr3.cong (fun j hj => ?_)) (by omega)⟩
        rw [es_i2l, hr2]
        by_cases c : j = k * w
        · have q1 : j % w = 0 := by rw [c]; exact Nat.mul_mod_left k w
          have q2 : j / w = k := by rw [c]; exact Nat.mul_div_cancel k (by omega)
          rw [if_pos c, if_pos ⟨q1, by omega⟩, q2]
        · rw [if_neg c]
          have q3 : ¬ (j % w = 0 ∧ j / w = k) := by
            intro z
            have := Nat.div_add_mod j w
            rw [z.1, z.2, Nat.mul_comm] at this
            omega
          by_cases c2 : j % w = 0 ∧ j / w < k
          · rw [if_pos c2, if_pos ⟨c2.1, by omega⟩]
          · rw [if_neg c2, if_neg (fun z => c2 ⟨z.1, by
              have : ¬ j / w = k := fun q => q3 ⟨z.1, q⟩
              omega⟩)]
      · have ecf : es_cf 1 (nI w).toInt l j = if j % w = 0 then l.getD (j / w) 0 else 0 := by rw [hwi]; rfl
        rw [ecf]
        show (if j % w = 0 ∧ j / w < l.length then _ else _) = if j % w = 0 then _ else _
        have hlt : j / w < l.length := by
          have := Nat.div_le_self j w
          omega
        by_cases c : j % w = 0
        · rw [if_pos ⟨c, hlt⟩, if_pos c]
        · rw [if_neg (fun z => c z.1), if_neg c]
    · refine loop (fun k j => if j < k then (if j % 2 = 0 then l.getD j 0 else -l.getD j 0) else 0) (fun k μ' hk hf hr hb nx => ?_) (fun j hj => ?_) (fun j hj => if_neg (by omega))
      · obtain ⟨r, hA, hr2⟩ := es_pur (s_at_n (d + 1) (k := k) (h.kept hf e.n1 e.n2) (by omega))
        refine ⟨_, _, hA, es_f (by decide +kernel) (es_f (by decide +kernel) (es_t rfl (es_br (fun c => ?_) (fun c => ?_))))⟩
        · rw [es_par] at c
          obtain ⟨μ2, hD, hf2, hr3⟩ := s_put_n (d + 1) (j := k) hr (by omega) (hv32 r k hr2)
          refine ⟨_, hD, nx μ2 hf2 (hr3.cong (fun j hj => ?_)) (by omega)⟩
          rw [es_i2l, hr2]
          by_cases q : j = k
          · rw [if_pos q, if_pos (show j < k + 1 by omega), if_pos (show j % 2 = 0 by omega), q]
          · rw [if_neg q]
            by_cases q2 : j < k
            · rw [if_pos q2, if_pos (show j < k + 1 by omega)]
            · rw [if_neg q2, if_neg (show ¬ j < k + 1 by omega)]
        · rw [es_par] at c
          have bd := h.bd k
          have hneg : (-r.toInt64).toInt = -l.getD k 0 := by
            rw [Int64.toInt_neg, es_i2l, hr2, es_bm64 (by omega) (by omega)]
          obtain ⟨μ2, hD, hf2, hr3⟩ := s_put_n (d + 1) (j := k) (v := -r.toInt64) hr (by omega) (by rw [hneg]; omega)
          refine ⟨_, hD, nx μ2 hf2 (hr3.cong (fun j hj => ?_)) (by omega)⟩
          rw [hneg]
          by_cases q : j = k
          · rw [if_pos q, if_pos (show j < k + 1 by omega), if_neg (show ¬ j % 2 = 0 by omega), q]
          · rw [if_neg q]
            by_cases q2 : j < k
            · rw [if_pos q2, if_pos (show j < k + 1 by omega)]
            · rw [if_neg q2, if_neg (show ¬ j < k + 1 by omega)]
      · exact if_pos (show j < l.length by omega)
    · refine loop (fun k j => if j < k then l.getD j 0 else 0) (fun k μ' hk hf hr hb nx => ?_) (fun j hj => ?_) (fun j hj => if_neg (by omega))
      · obtain ⟨r, hA, hr2⟩ := es_pur (s_at_n (d + 1) (k := k) (h.kept hf e.n1 e.n2) (by omega))
        refine ⟨_, _, hA, es_f (by decide +kernel) (es_f (by decide +kernel) (es_f (by decide +kernel) (es_t rfl ?_)))⟩
        obtain ⟨μ2, hD, hf2, hr3⟩ := s_put_n (d + 1) (j := k) hr (by omega) (hv32 r k hr2)
        refine ⟨_, hD, nx μ2 hf2 (hr3.cong (fun j hj => ?_)) (by omega)⟩
        rw [es_i2l, hr2]
        by_cases q : j = k
        · rw [if_pos q, if_pos (by omega), q]
        · rw [if_neg q]
          by_cases q2 : j < k
          · rw [if_pos q2, if_pos (by omega)]
          · rw [if_neg q2, if_neg (by omega)]
      · exact if_pos (show j < l.length by omega)
    · have hn6 : n = l.length := by rw [← hn, if_neg (by decide)]
      refine loop (fun k j => if j < k then l.getD j 0 * v.toInt else 0) (fun k μ' hk hf hr hb nx => ?_) (fun j hj => ?_) (fun j hj => if_neg (by omega))
      · obtain ⟨r, hA, hr2⟩ := es_pur (s_at_n (d + 1) (k := k) (h.kept hf e.n1 e.n2) (by omega))
        refine ⟨_, _, hA, es_f (by decide +kernel) (es_f (by decide +kernel) (es_f (by decide +kernel) (es_f (by decide +kernel) ?_)))⟩
        have bm := es_mulb (h.bd k) (show -99 ≤ v.toInt ∧ v.toInt ≤ 99 from ⟨a1, a2⟩)
        have hv : (r.toInt64 * v.toInt64).toInt = l.getD k 0 * v.toInt := es_mul64 (by rw [es_i2l, hr2]) (es_i2l v) (by omega) (by omega)
        have hcf : es_cf 6 v.toInt l k = l.getD k 0 * v.toInt := rfl
        refine ⟨_, _, es_pure (s_isWide (d + 1) _ μ'), ?_⟩
        rw [hv]
        refine es_br (fun c => ?_) (fun c => es_rI (es_res.wide (k := k) hf (by omega) ?_))
        · rw [es_b_0] at c
          have c3 := es_big_f c
          obtain ⟨μ2, hD, hf2, hr3⟩ := s_put_n (d + 1) (j := k) (v := r.toInt64 * v.toInt64) hr (by omega) (by rw [hv]; omega)
          refine ⟨_, hD, nx μ2 hf2 (hr3.cong (fun j hj => ?_)) (fun _ => by rw [hcf]; exact c)⟩
          rw [hv]
          by_cases q : j = k
          · rw [if_pos q, if_pos (by omega), q]
          · rw [if_neg q]
            by_cases q2 : j < k
            · rw [if_pos q2, if_pos (by omega)]
            · rw [if_neg q2, if_neg (by omega)]
        · rw [es_b_0] at c
          rw [hcf]
          exact Bool.of_not_eq_false c
      · exact if_pos (show j < l.length by omega)
  refine es_I.mk (w_Row_becomeChanged_0 p (nI act) v p3 μ (es_f (fun z => absurd ((aq 3 (by omega)).mp z) hact.2.1) (es_br (fun q => ?_) (fun q => ?_))))
  · have q := (aq 4 (by omega)).mp q
    rw [if_pos q] at hn
    have ev : v = nI n := by rw [← hn]; exact es_nIof (by omega)
    obtain ⟨μ1, hC, hf, hr⟩ := s_begin d (p := p) (n := n) (by omega) μ
    rw [← ev] at hC
    exact ⟨_, hC, all μ1 hf hr⟩
  · have q := fun z => q ((aq 4 (by omega)).mpr z)
    rw [if_neg q] at hn
    rw [h.2.1, hn]
    obtain ⟨μ1, hC, hf, hr⟩ := s_begin d (p := p) (n := n) (by omega) μ
    exact ⟨_, hC, all μ1 hf hr⟩
/-- a part at equal steps -/
theorem s_pick (d : Nat) {p p3 m r : Nat} {μ : mz_M} {l : List Int} (h : es_row μ p3 l) (e : es_sep p p3) (hm : 1 ≤ m) (hm2 : m ≤ 100) (hr0 : r ≤ 100) :
    es_I (d + 3) n_Row_pick [mz_R 3 p, mz_I (nI m), mz_I (nI r), mz_R 3 p3] μ (fun x μ' => es_fr (es_2 p) μ μ' ∧ ((l.length ≤ r ∧ x = -1000002) ∨ (r < l.length ∧ x = 0 ∧ es_row μ' p (es_ls ((l.length - r + m - 1) / m) (fun k => l.getD (r + k * m) 0))))) := by
  have c1 := h.1.1
  refine es_I.mk (w_Row_pick_0 p (nI m) (nI r) p3 μ (es_f ?_ ?_))
  · show ¬ nI m < nI 1
    exact nI_nlt (by omega) (by omega)
  rw [h.2.1]
  refine es_br (fun q => ?_) (fun q => es_rI ⟨es_fr.rf, Or.inl ⟨?_, rfl⟩⟩)
  · have q := (nI_ltI (by omega) (by omega)).mp q
    refine ⟨nI_ne0 (by omega) (by omega), ?_⟩
    generalize hn : (l.length - r + m - 1) / m = n
    have hn1 : n ≤ l.length - r := by
      rw [← hn]
      apply Nat.le_of_lt_succ
      rw [Nat.div_lt_iff_lt_mul (by omega)]
      have : (l.length - r) * 1 ≤ (l.length - r) * m := Nat.mul_le_mul_left _ hm
      rw [Nat.succ_mul]
      have h2 : (l.length - r) + m - 1 < (l.length - r) + m := by omega
      omega
    have e1 : nI l.length - nI r + nI m - 1 = nI (l.length - r + m - 1) := by
      rw [pk_sub (by omega), nI_add, show (1 : Int32) = nI 1 from rfl, pk_sub (by omega)]
    rw [e1, pk_div (by omega) (by omega) (by omega), hn]
    obtain ⟨μ1, hC, hf, hr⟩ := s_begin d (p := p) (n := n) (by omega) μ
    refine ⟨_, hC, ?_⟩
    have key : ∀ (g k : Nat) (μ' : mz_M), n - k ≤ g → k ≤ n → es_fr (es_2 p) μ μ' → es_raw μ' p n (fun j => if j < k then l.getD (r + j * m) 0 else 0) → v_Row_pick (es_R (d + 2)) (es_qI (fun x μ' => es_fr (es_2 p) μ μ' ∧ ((l.length ≤ r ∧ x = -1000002) ∨ (r < l.length ∧ x = 0 ∧ es_row μ' p (es_ls n (fun k => l.getD (r + k * m) 0)))))) (35, [(0, mz_R 3 p), (1, mz_I (nI m)), (2, mz_I (nI r)), (3, mz_R 3 p3), (4, mz_I (nI k))], [], μ') := by
      have stop : ∀ (k : Nat) (μ' : mz_M), k = n → es_fr (es_2 p) μ μ' → es_raw μ' p n (fun j => if j < k then l.getD (r + j * m) 0 else 0) → v_Row_pick (es_R (d + 2)) (es_qI (fun x μ' => es_fr (es_2 p) μ μ' ∧ ((l.length ≤ r ∧ x = -1000002) ∨ (r < l.length ∧ x = 0 ∧ es_row μ' p (es_ls n (fun k => l.getD (r + k * m) 0)))))) (35, [(0, mz_R 3 p), (1, mz_I (nI m)), (2, mz_I (nI r)), (3, mz_R 3 p3), (4, mz_I (nI k))], [], μ') := by
        intro k μ' hk hf hr
        refine w_Row_pick_35 p _ _ p3 _ μ' (es_t (by rw [hr.2.1]; exact nI_le (by omega) (by omega)) (es_rI ⟨hf, Or.inr ⟨q, rfl, ?_⟩⟩))
        refine (hr.cong (fun j hj => if_pos (by omega))).row (es_ls_len _ _) (fun j hj => (es_ls_at (fun k => l.getD (r + k * m) 0) hj).symm) (fun j _ => h.bd _)
      intro g
      induction g with
      | zero => exact fun k μ' hg hk hf hr => stop k μ' (by omega) hf hr
      | succ g ih =>
        intro k μ' hg hk hf hr
        by_cases hkn : k = n
        · exact stop k μ' hkn hf hr
        · refine w_Row_pick_35 p _ _ p3 _ μ' (es_f (by rw [hr.2.1]; exact nI_ge (by omega) (by omega)) ?_)
          have hkm : k * m ≤ 40 * 100 := Nat.mul_le_mul (by omega) (by omega)
          rw [pk_mul, nI_add]
          obtain ⟨a, hA, ha⟩ := es_pur (s_at_n (d + 1) (k := r + k * m) (h.kept hf e.n1 e.n2) (by omega))
          refine ⟨_, _, hA, ?_⟩
          have bd := h.bd (r + k * m)
          obtain ⟨μ2, hD, hf2, hr2⟩ := s_put_n (d + 1) (j := k) (v := a.toInt64) hr (by omega) (by rw [es_i2l, ha]; omega)
          refine ⟨_, hD, ?_⟩
          rw [nI_1]
          refine ih (k + 1) μ2 (by omega) (by omega) (hf.tr hf2) (hr2.cong (fun j hj => ?_))
          rw [es_i2l, ha]
          by_cases c : j = k
          · rw [if_pos c, if_pos (by omega), c]
          · rw [if_neg c]
            by_cases c2 : j < k
            · rw [if_pos c2, if_pos (by omega)]
            · rw [if_neg c2, if_neg (by omega)]
    exact key n 0 μ1 (by omega) (by omega) hf (hr.cong (fun j hj => (if_neg (by omega)).symm))
  · have : ¬ r < l.length := fun z => q ((nI_ltI (by omega) (by omega)).mpr z)
    omega
end
section
/-! Shelves (four series, the length, the draw) and the past. -/
abbrev es_Sn : Type := (Nat → List Int) × Nat × Int32
def es_sr (S : es_Sn) (s : Nat) (l : List Int) : es_Sn := (fun k => if k = s then l else S.1 k, S.2)
def es_sh (μ : mz_M) (q : Nat) (S : es_Sn) : Prop := (∀ s, s < 4 → es_row μ (q + 1 + 1 + 2 * s) (S.1 s)) ∧ μ.1 q 1 = nI S.2.1 ∧ μ.1 q 2 = S.2.2 ∧ 4 ≤ S.2.1 ∧ S.2.1 ≤ 40 ∧ 0 ≤ S.2.2.toInt
def es_bk (q n : Nat) : Nat → Prop := fun z => q ≤ z ∧ z < q + n
theorem es_fw1 {μ : mz_M} {p k : Nat} {x : Int32} : es_fr (fun z => z = p) μ (mz_wI μ p k x) := es_fr.wI (S := fun z => z = p) es_fr.rf rfl
theorem es_fw2 {μ : mz_M} {p k k' : Nat} {x x' : Int32} : es_fr (fun z => z = p) μ (mz_wI (mz_wI μ p k x) p k' x') := es_fr.wI (S := fun z => z = p) es_fw1 rfl
theorem es_sh.kept {T : Nat → Prop} {μ μ' : mz_M} {q : Nat} {S : es_Sn} (h : es_sh μ q S) (hf : es_fr T μ μ') (ht : ∀ z, q ≤ z → z < q + 10 → ¬ T z) : es_sh μ' q S := by
  obtain ⟨h1, h2, h3, h4⟩ := h
  refine ⟨fun s hs => (h1 s hs).kept hf (ht _ (by omega) (by omega)) (ht _ (by omega) (by omega)), ?_, ?_, h4⟩
  · rw [(hf q (ht q (by omega) (by omega))).1]; exact h2
  · rw [(hf q (ht q (by omega) (by omega))).1]; exact h3
theorem s_floorMod (d : Nat) {a m : Nat} (ha : a < 2147483648) (hm : 0 < m) (hm2 : m < 2147483648) (μ : mz_M) : es_I (d + 1) n_Math_floorMod [mz_I (nI a), mz_I (nI m)] μ (fun r μ' => μ' = μ ∧ r = nI (a % m)) := by
  refine es_I.mk (w_Math_floorMod_0 (nI a) (nI m) μ ⟨nI_ne0 hm (by omega), es_t ?_ (es_rI ⟨rfl, pk_rem (by omega) hm (by omega)⟩)⟩)
  rw [fb_xorI]
  exact nI_pos' (Nat.xor_lt_two_pow (n := 31) (by omega) (by omega))
theorem s_floorMod_m (d : Nat) (μ : mz_M) : es_I (d + 1) n_Math_floorMod [mz_I (-1), mz_I (nI 6)] μ (fun r μ' => μ' = μ ∧ r = nI 5) := by
  refine es_I.mk (w_Math_floorMod_0 (-1) (nI 6) μ ⟨by decide +kernel, es_f (by decide +kernel) (es_f (by decide +kernel) (es_rI ⟨rfl, by decide +kernel⟩))⟩)
theorem s_shtake (d : Nat) {q q' : Nat} {μ : mz_M} {S : es_Sn} (h : es_sh μ q' S) (hq : q + 10 ≤ q' ∨ q' + 10 ≤ q) : es_V (d + 2) n_Shelf_take [mz_R 1 q, mz_R 1 q'] μ (fun μ' => es_fr (es_bk q 10) μ μ' ∧ es_sh μ' q S) := by
  refine es_V.mk (w_Shelf_take_0 q q' μ ?_)
  have key : ∀ (g k : Nat) (μ' : mz_M), 4 - k ≤ g → k ≤ 4 → es_fr (es_bk q 10) μ μ' → (∀ s, s < k → es_row μ' (q + 1 + 1 + 2 * s) (S.1 s)) → v_Shelf_take (es_R (d + 1)) (es_qV (fun μ' => es_fr (es_bk q 10) μ μ' ∧ es_sh μ' q S)) (2, [(0, mz_R 1 q), (1, mz_R 1 q'), (2, mz_I (nI k))], [], μ') := by
    have stop : ∀ (k : Nat) (μ' : mz_M), k = 4 → es_fr (es_bk q 10) μ μ' → (∀ s, s < k → es_row μ' (q + 1 + 1 + 2 * s) (S.1 s)) → v_Shelf_take (es_R (d + 1)) (es_qV (fun μ' => es_fr (es_bk q 10) μ μ' ∧ es_sh μ' q S)) (2, [(0, mz_R 1 q), (1, mz_R 1 q'), (2, mz_I (nI k))], [], μ') := by
      intro k μ' hk hf hr
      have h' := h.kept hf (fun z a b c => by unfold es_bk at c; omega)
      have hw : es_fr (es_bk q 10) μ' (mz_wI (mz_wI μ' q 1 (μ'.1 q' 1)) q 2 ((mz_wI μ' q 1 (μ'.1 q' 1)).1 q' 2)) := (es_fr.rf.wI ⟨by omega, by omega⟩).wI ⟨by omega, by omega⟩
      refine w_Shelf_take_2 q q' (nI k) μ' (es_t (nI_le (by omega) (by omega)) (es_rV ⟨hf.tr hw, ?_⟩))
      refine ⟨fun s hs => ?_, ?_, ?_, h'.2.2.2⟩
      · refine (hr s (by omega)).kept (S := fun z => z = q) es_fw2 (by omega) (by omega)
      · rw [mz_wI_at, if_neg (by omega), mz_wI_at, if_pos ⟨rfl, rfl⟩]; exact h'.2.1
      · rw [mz_wI_at, if_pos ⟨rfl, rfl⟩, mz_wI_at, if_neg (by omega)]; exact h'.2.2.1
    intro g
    induction g with
    | zero => exact fun k μ' hg hk hf hr => stop k μ' (by omega) hf hr
    | succ g ih =>
      intro k μ' hg hk hf hr
      by_cases hk4 : k = 4
      · exact stop k μ' hk4 hf hr
      · refine w_Shelf_take_2 q q' (nI k) μ' (es_f (nI_ge (by omega) (by omega)) ⟨vp_in_nI (by omega) (by omega), vp_in_nI (by omega) (by omega), ?_⟩)
        rw [es_clamp (by omega)]
        have h' := h.kept hf (fun z a b c => by unfold es_bk at c; omega)
        obtain ⟨μ1, hC, hf1, hr1⟩ := s_take d (p := q + 1 + 1 + 2 * k) (h'.1 k (by omega)) (by unfold es_sep; omega)
        refine ⟨_, hC, ?_⟩
        rw [nI_1]
        refine ih (k + 1) μ1 (by omega) (by omega) (hf.tr (hf1.mono (fun z hz => by unfold es_2 at hz; unfold es_bk; omega))) (fun s hs => ?_)
        by_cases e : s = k
        · rw [e]; exact hr1
        · exact (hr s (by omega)).kept hf1 (by unfold es_2; omega) (by unfold es_2; omega)
  exact key 4 0 μ (by omega) (by omega) es_fr.rf (fun s hs => by omega)
theorem s_missing (d : Nat) {q : Nat} {x : Int32} {μ : mz_M} {S : es_Sn} (h : es_sh μ q S) (h0 : 0 ≤ x.toInt) (h4 : x.toInt < 4) : es_I (d + 2) n_Shelf_isMissing [mz_R 1 q, mz_I x] μ (fun r μ' => μ' = μ ∧ r = es_b (decide (S.1 x.toInt.toNat = []))) := by
  refine es_I.mk (w_Shelf_isMissing_0 q x μ ?_)
  refine ⟨_, _, es_pure (s_isFour d x μ), ?_⟩
  rw [decide_eq_true ⟨h0, h4⟩]
  refine es_f (by decide +kernel) ⟨es_in h0 h4, ?_⟩
  have hr := h.1 x.toInt.toNat (by omega)
  have h40 := hr.1.1
  rw [show x.toNatClampNeg = x.toInt.toNat from rfl, hr.2.1]
  refine es_br (fun c => ⟨Or.inr rfl, es_rI ⟨rfl, ?_⟩⟩) (fun c => ⟨Or.inl rfl, es_rI ⟨rfl, ?_⟩⟩)
  · have := (nI_eq (a := (S.1 x.toInt.toNat).length) (b := 0) (by omega) (by omega)).mp c
    rw [decide_eq_true (List.eq_nil_of_length_eq_zero this)]; rfl
  · rw [decide_eq_false (fun z => c (by rw [z]; rfl))]; rfl
/-- which series there are, as bits -/
def es_pr (S : es_Sn) : Nat → Int32
  | 0 => 0
  | k + 1 => if S.1 k = [] then es_pr S k else es_pr S k ||| (1 <<< (nI k &&& 31))
theorem s_present (d : Nat) {q : Nat} {μ : mz_M} {S : es_Sn} (h : es_sh μ q S) : es_I (d + 1) n_Shelf_present [mz_R 1 q] μ (fun r μ' => μ' = μ ∧ r = es_pr S 4) := by
  refine es_I.mk (w_Shelf_present_0 q μ ?_)
  have key : ∀ (g k : Nat), 4 - k ≤ g → k ≤ 4 → v_Shelf_present (es_R d) (es_qI (fun r μ' => μ' = μ ∧ r = es_pr S 4)) (4, [(0, mz_R 1 q), (1, mz_I (es_pr S k)), (2, mz_I (nI k))], [], μ) := by
    intro g
    induction g with
    | zero =>
      intro k hg hk
      have : k = 4 := by omega
      subst this
      exact w_Shelf_present_4 q _ _ μ (es_t (nI_le (by omega) (by omega)) (es_rI ⟨rfl, rfl⟩))
    | succ g ih =>
      intro k hg hk
      by_cases hk4 : k = 4
      · subst hk4
        exact w_Shelf_present_4 q _ _ μ (es_t (nI_le (by omega) (by omega)) (es_rI ⟨rfl, rfl⟩))
      · refine w_Shelf_present_4 q _ _ μ (es_f (nI_ge (by omega) (by omega)) ⟨vp_in_nI (by omega) (by omega), ?_⟩)
        have hr := h.1 k (by omega)
        have h40 := hr.1.1
        have nx := ih (k + 1) (by omega) (by omega)
        rw [es_clamp (by omega), hr.2.1, nI_1]
        refine es_br (fun c => ?_) (fun c => ?_)
        · have c := (nI_leI (a := (S.1 k).length) (b := 0) (by omega) (by omega)).mp c
          have e : es_pr S (k + 1) = es_pr S k := if_pos (List.eq_nil_of_length_eq_zero (by omega))
          rw [e] at nx
          exact nx
        · have e : es_pr S (k + 1) = es_pr S k ||| (1 <<< (nI k &&& 31)) := if_neg (fun z => c (by rw [z]; exact nI_le (a := 0) (b := 0) (by omega) (by omega)))
          rw [e] at nx
          exact nx
  exact key 4 0 (by omega) (by omega)
/-- the past: the latest first -/
def es_ps (μ : mz_M) (P : Nat) (U : List es_Sn) : Prop := ∃ (nx : Nat) (R : Nat → es_Sn), nx < 6 ∧ U.length ≤ 6 ∧ μ.1 P 1 = nI U.length ∧ μ.1 P 2 = nI nx ∧ (∀ i, i < 6 → es_sh μ (P + 1 + 1 + 10 * i) (R i)) ∧ ∀ i, i < U.length → U[i]? = some (R ((nx + 5 - i) % 6))
theorem es_ps.kept {T : Nat → Prop} {μ μ' : mz_M} {P : Nat} {U : List es_Sn} (h : es_ps μ P U) (hf : es_fr T μ μ') (ht : ∀ z, P ≤ z → z < P + 62 → ¬ T z) : es_ps μ' P U := by
  obtain ⟨nx, R, h1, h2, h3, h4, h5, h6⟩ := h
  refine ⟨nx, R, h1, h2, ?_, ?_, fun i hi => (h5 i hi).kept hf (fun z a b => ht z (by omega) (by omega)), h6⟩
  · rw [(hf P (ht P (by omega) (by omega))).1]; exact h3
  · rw [(hf P (ht P (by omega) (by omega))).1]; exact h4
theorem s_remember (d : Nat) {P q : Nat} {μ : mz_M} {U : List es_Sn} {S : es_Sn} (h : es_ps μ P U) (hs : es_sh μ q S) (hq : q + 10 ≤ P ∨ P + 62 ≤ q) : es_V (d + 3) n_Past_remember [mz_R 5 P, mz_R 1 q] μ (fun μ' => es_fr (es_bk P 62) μ μ' ∧ es_ps μ' P ((S :: U).take 6)) := by
  obtain ⟨nx, R, h1, h2, h3, h4, h5, h6⟩ := h
  refine es_V.mk (w_Past_remember_0 P q μ ?_)
  rw [h4]
  refine ⟨_, _, es_pure (s_floorMod (d + 1) (a := nx) (m := 6) (by omega) (by omega) (by omega) μ), vp_in_nI (Nat.mod_lt _ (by omega)) (by omega), ?_⟩
  rw [Nat.mod_eq_of_lt h1, es_clamp (by omega)]
  obtain ⟨μ1, hC, hf1, hs1⟩ := s_shtake d (q := P + 1 + 1 + 10 * nx) hs (by omega)
  refine ⟨_, hC, ?_⟩
  have hP1 : ∀ j, μ1.1 P j = μ.1 P j := fun j => congrFun (hf1 P (by unfold es_bk; omega)).1 j
  rw [hP1, h4, nI_1]
  refine ⟨_, _, es_pure (s_floorMod (d + 1) (a := nx + 1) (m := 6) (by omega) (by omega) (by omega) μ1), ?_⟩
  rw [mz_wI_at, if_neg (by omega), hP1, h3, nI_1]
  refine ⟨_, _, es_pure (s_min_n (d + 1) (a := U.length + 1) (b := 6) (by omega) (by omega) _), es_rV ?_⟩
  have hfw : es_fr (es_bk P 62) μ (mz_wI (mz_wI μ1 P 2 (nI ((nx + 1) % 6))) P 1 (nI (min (U.length + 1) 6))) := ((hf1.mono (fun z hz => by unfold es_bk at *; omega)).wI ⟨by omega, by omega⟩).wI ⟨by omega, by omega⟩
  refine ⟨hfw, (nx + 1) % 6, fun i => if i = nx then S else R i, Nat.mod_lt _ (by omega), ?_, ?_, ?_, fun i hi => ?_, fun i hi => ?_⟩
  · rw [List.length_take]; omega
  · rw [mz_wI_at, if_pos ⟨rfl, rfl⟩, List.length_take, List.length_cons, Nat.min_comm]
  · rw [mz_wI_at, if_neg (by omega), mz_wI_at, if_pos ⟨rfl, rfl⟩]
  · have hk : ∀ {Z : es_Sn} {μ2 : mz_M}, es_sh μ2 (P + 1 + 1 + 10 * i) Z → es_sh (mz_wI (mz_wI μ2 P 2 (nI ((nx + 1) % 6))) P 1 (nI (min (U.length + 1) 6))) (P + 1 + 1 + 10 * i) Z := fun hZ => hZ.kept (T := fun z => z = P) es_fw2 (fun z a b => by omega)
    show es_sh _ _ (if i = nx then S else R i)
    by_cases e : i = nx
    · rw [if_pos e]
      subst e
      exact hk hs1
    · rw [if_neg e]
      exact hk ((h5 i hi).kept hf1 (fun z a b c => by unfold es_bk at c; omega))
  · rw [List.length_take, List.length_cons] at hi
    rw [List.getElem?_take_of_lt (by omega)]
    cases i with
    | zero =>
      rw [List.getElem?_cons_zero, show ((nx + 1) % 6 + 5 - 0) % 6 = nx by omega]
      exact congrArg some (if_pos rfl).symm
    | succ i =>
      rw [List.getElem?_cons_succ, h6 i (by omega), show ((nx + 1) % 6 + 5 - (i + 1)) % 6 = (nx + 5 - i) % 6 by omega]
      exact congrArg some (if_neg (show ¬ (nx + 5 - i) % 6 = nx by omega)).symm
def es_bb (P q : Nat) (U : List es_Sn) (μ : mz_M) (r : Int32) (μ' : mz_M) : Prop := match U with
  | [] => r = 0 ∧ μ' = μ
  | S :: V => r = 1 ∧ es_fr (fun z => es_bk P 62 z ∨ es_bk q 10 z) μ μ' ∧ es_sh μ' q S ∧ es_ps μ' P V
theorem s_bringBack (d : Nat) {P q : Nat} {μ : mz_M} {U : List es_Sn} (h : es_ps μ P U) (hq : q + 10 ≤ P ∨ P + 62 ≤ q) : es_I (d + 3) n_Past_bringBack [mz_R 5 P, mz_R 1 q] μ (es_bb P q U μ) := by
  obtain ⟨nx, R, h1, h2, h3, h4, h5, h6⟩ := h
  refine es_I.mk (w_Past_bringBack_0 P q μ ?_)
  cases U with
  | nil => exact es_f (by rw [h3]; decide +kernel) ⟨Or.inl rfl, es_rI ⟨rfl, rfl⟩⟩
  | cons S V =>
    refine es_t (by rw [h3]; exact nI_le (a := 1) (by simp) (by simp at h2 ⊢; omega)) ?_
    have h60 := h6 0 (by simp)
    rw [List.getElem?_cons_zero] at h60
    have hS : S = R ((nx + 5) % 6) := Option.some.inj h60
    rw [h4]
    have hfm : es_R (d + 2) n_Math_floorMod [mz_I (nI nx - 1), mz_I (nI 6)] μ (some (mz_I (nI ((nx + 5) % 6)))) μ := by
      by_cases e : nx = 0
      · subst e
        exact es_pure (s_floorMod_m (d + 1) μ)
      · rw [show (1 : Int32) = nI 1 from rfl, pk_sub (by omega), show (nx + 5) % 6 = (nx - 1) % 6 by omega]
        exact es_pure (s_floorMod (d + 1) (a := nx - 1) (m := 6) (by omega) (by omega) (by omega) μ)
    refine ⟨_, _, hfm, ?_⟩
    rw [mz_wI_at, if_pos ⟨rfl, rfl⟩]
    have hlt : (nx + 5) % 6 < 6 := Nat.mod_lt _ (by omega)
    refine ⟨vp_in_nI hlt (by omega), ?_⟩
    rw [es_clamp (by omega)]
    have hw : es_fr (fun z => z = P) μ (mz_wI μ P 2 (nI ((nx + 5) % 6))) := es_fw1
    obtain ⟨μ1, hC, hf1, hs1⟩ := s_shtake d (q := q) ((h5 ((nx + 5) % 6) hlt).kept hw (fun z a b => by omega)) (by omega)
    refine ⟨_, hC, Or.inr rfl, es_rI ?_⟩
    have hP1 : ∀ j, μ1.1 P j = (mz_wI μ P 2 (nI ((nx + 5) % 6))).1 P j := fun j => congrFun (hf1 P (by unfold es_bk; omega)).1 j
    have hw2 : es_fr (fun z => z = P) μ1 (mz_wI μ1 P 1 (μ1.1 P 1 - 1)) := es_fw1
    refine ⟨rfl, ?_, ?_, nx - 1 + (if nx = 0 then 5 else 0), R, ?_, ?_, ?_, ?_, fun i hi => ?_, fun i hi => ?_⟩
    · exact ((hw.mono (fun z hz => Or.inl ⟨by omega, by omega⟩)).tr (hf1.mono (fun z hz => Or.inr hz))).tr (hw2.mono (fun z hz => Or.inl ⟨by omega, by omega⟩))
    · rw [hS]
      exact hs1.kept hw2 (fun z a b => by omega)
    · split <;> omega
    · simp at h2; omega
    · rw [mz_wI_at, if_pos ⟨rfl, rfl⟩, hP1, mz_wI_at, if_neg (by omega), h3, List.length_cons]
      exact nI_pred _
    · rw [mz_wI_at, if_neg (by omega), hP1, mz_wI_at, if_pos ⟨rfl, rfl⟩]
      congr 1
      split <;> omega
    · exact (((h5 i hi).kept hw (fun z a b => by omega)).kept hf1 (fun z a b c => by unfold es_bk at c; omega)).kept hw2 (fun z a b => by omega)
    · have := h6 (i + 1) (by simp; omega)
      rw [List.getElem?_cons_succ] at this
      rw [this]
      have hV : V.length + 1 ≤ 6 := h2
      congr 2
      split <;> omega
theorem s_takeAll (d : Nat) {P P' : Nat} {μ : mz_M} {U : List es_Sn} (h : es_ps μ P' U) (hq : P + 62 ≤ P' ∨ P' + 62 ≤ P) : es_V (d + 3) n_Past_takeAll [mz_R 5 P, mz_R 5 P'] μ (fun μ' => es_fr (es_bk P 62) μ μ' ∧ es_ps μ' P U) := by
  refine es_V.mk (w_Past_takeAll_0 P P' μ ?_)
  obtain ⟨nx, R, h1, h2, h3, h4, h5, h6⟩ := h
  have key : ∀ (g k : Nat) (μ' : mz_M), 6 - k ≤ g → k ≤ 6 → es_fr (es_bk P 62) μ μ' → (∀ i, i < k → es_sh μ' (P + 1 + 1 + 10 * i) (R i)) → v_Past_takeAll (es_R (d + 2)) (es_qV (fun μ' => es_fr (es_bk P 62) μ μ' ∧ es_ps μ' P U)) (2, [(0, mz_R 5 P), (1, mz_R 5 P'), (2, mz_I (nI k))], [], μ') := by
    have stop : ∀ (k : Nat) (μ' : mz_M), k = 6 → es_fr (es_bk P 62) μ μ' → (∀ i, i < k → es_sh μ' (P + 1 + 1 + 10 * i) (R i)) → v_Past_takeAll (es_R (d + 2)) (es_qV (fun μ' => es_fr (es_bk P 62) μ μ' ∧ es_ps μ' P U)) (2, [(0, mz_R 5 P), (1, mz_R 5 P'), (2, mz_I (nI k))], [], μ') := by
      intro k μ' hk hf hr
      have hP' : ∀ j, μ'.1 P' j = μ.1 P' j := fun j => congrFun (hf P' (by unfold es_bk; omega)).1 j
      have hw : es_fr (fun z => z = P) μ' (mz_wI (mz_wI μ' P 1 (μ'.1 P' 1)) P 2 ((mz_wI μ' P 1 (μ'.1 P' 1)).1 P' 2)) := es_fw2
      refine w_Past_takeAll_2 P P' (nI k) μ' (es_t (nI_le (by omega) (by omega)) (es_rV ⟨hf.tr (hw.mono (fun z hz => ⟨by omega, by omega⟩)), nx, R, h1, h2, ?_, ?_, fun i hi => (hr i (by omega)).kept hw (fun z a b => by omega), h6⟩))
      · rw [mz_wI_at, if_neg (by omega), mz_wI_at, if_pos ⟨rfl, rfl⟩, hP']; exact h3
      · rw [mz_wI_at, if_pos ⟨rfl, rfl⟩, mz_wI_at, if_neg (by omega), hP']; exact h4
    intro g
    induction g with
    | zero => exact fun k μ' hg hk hf hr => stop k μ' (by omega) hf hr
    | succ g ih =>
      intro k μ' hg hk hf hr
      by_cases hk6 : k = 6
      · exact stop k μ' hk6 hf hr
      · refine w_Past_takeAll_2 P P' (nI k) μ' (es_f (nI_ge (by omega) (by omega)) ⟨vp_in_nI (by omega) (by omega), vp_in_nI (by omega) (by omega), ?_⟩)
        rw [es_clamp (by omega)]
        obtain ⟨μ1, hC, hf1, hr1⟩ := s_shtake d (q := P + 1 + 1 + 10 * k) ((h5 k (by omega)).kept hf (fun z a b c => by unfold es_bk at c; omega)) (by omega)
        refine ⟨_, hC, ?_⟩
        rw [nI_1]
        refine ih (k + 1) μ1 (by omega) (by omega) (hf.tr (hf1.mono (fun z hz => by unfold es_bk at *; omega))) (fun i hi => ?_)
        by_cases e : i = k
        · rw [e]; exact hr1
        · exact (hr i (by omega)).kept hf1 (fun z a b c => by unfold es_bk at c; omega)
  exact key 6 0 μ (by omega) (by omega) es_fr.rf (fun s hs => by omega)
end
section
/-! Sheets of the class. -/
/-- a sheet: not there, or its lane and items -/
abbrev es_L : Type := Option (Nat × List Int64)
def es_lf (μ : mz_M) (p : Nat) (o : es_L) : Prop := match o with
  | none => μ.1 p 1 = 0
  | some (ln, its) => μ.1 p 1 = 1 ∧ ln < 4 ∧ μ.1 p 2 = nI ln ∧ its.length ≤ 40 ∧ μ.1 p 3 = nI its.length ∧ ∀ k, k < its.length → μ.2 (p + 1) k = its.getD k 0
theorem es_lf.kept {T : Nat → Prop} {μ μ' : mz_M} {p : Nat} {o : es_L} (h : es_lf μ p o) (hf : es_fr T μ μ') (h1 : ¬ T p) (h2 : ¬ T (p + 1)) : es_lf μ' p o := by
  cases o with
  | none =>
    show μ'.1 p 1 = 0
    rw [(hf p h1).1]; exact h
  | some q =>
    obtain ⟨ln, its⟩ := q
    obtain ⟨a1, a2, a3, a4, a5, a6⟩ := h
    refine ⟨?_, a2, ?_, a4, ?_, fun k hk => ?_⟩
    · rw [(hf p h1).1]; exact a1
    · rw [(hf p h1).1]; exact a3
    · rw [(hf p h1).1]; exact a5
    · rw [(hf (p + 1) h2).2]; exact a6 k hk
/-- n items from i on lie in a row of so many -/
def es_hi (len : Nat) (i n : Int32) : Bool := decide (0 ≤ i.toInt ∧ 0 ≤ n.toInt ∧ i.toInt + n.toInt ≤ len)
theorem s_hasItems (d : Nat) {p : Nat} {i n : Int32} {μ : mz_M} {ln : Nat} {its : List Int64} (h : es_lf μ p (some (ln, its))) : es_I (d + 1) n_Leaf_hasItems [mz_R 14 p, mz_I i, mz_I n] μ (fun r μ' => μ' = μ ∧ r = es_b (es_hi its.length i n)) := by
  obtain ⟨a1, a2, a3, a4, a5, a6⟩ := h
  have r1 := fb_rng i
  have r2 := fb_rng n
  have e : (i.toInt64 + n.toInt64).toInt = i.toInt + n.toInt := es_add64 (es_i2l i) (es_i2l n) (by omega) (by omega)
  refine es_I.mk (w_Leaf_hasItems_0 p i n μ (es_br (fun q => ⟨Or.inl rfl, es_rI ⟨rfl, ?_⟩⟩) (fun q => es_br (fun q2 => ⟨Or.inl rfl, es_rI ⟨rfl, ?_⟩⟩) (fun q2 => es_br (fun q3 => ⟨Or.inl rfl, es_rI ⟨rfl, ?_⟩⟩) (fun q3 => ⟨Or.inr rfl, es_rI ⟨rfl, ?_⟩⟩)))))
  · have := es_hlt q
    rw [es_i0] at this
    unfold es_hi
    rw [decide_eq_false (by omega)]; rfl
  · have := es_hlt q2
    rw [es_i0] at this
    unfold es_hi
    rw [decide_eq_false (by omega)]; rfl
  · rw [es_cmp_pos, e, es_i2l, a5, nI_toInt (by omega)] at q3
    unfold es_hi
    rw [decide_eq_false (by omega)]; rfl
  · have q := es_nlt q
    have q2 := es_nlt q2
    rw [es_i0] at q q2
    rw [es_cmp_pos, e, es_i2l, a5, nI_toInt (by omega)] at q3
    unfold es_hi
    rw [decide_eq_true ⟨q, q2, by omega⟩]; rfl
/-- why n items of a sheet can't be taken; 0 -/
def es_rf (o : es_L) (lane i n : Int32) : Int32 := match o with
  | none => -1000011
  | some (ln, its) => if nI ln = lane then (if es_hi its.length i n = true then 0 else -1000013) else -1000012
theorem s_refuse (d : Nat) {p : Nat} {lane i n : Int32} {μ : mz_M} {o : es_L} (h : es_lf μ p o) : es_I (d + 2) n_Leaf_refuse [mz_R 14 p, mz_I lane, mz_I i, mz_I n] μ (fun r μ' => μ' = μ ∧ r = es_rf o lane i n) := by
  refine es_I.mk (w_Leaf_refuse_0 p lane i n μ ?_)
  cases o with
  | none => exact es_t h (es_rI ⟨rfl, rfl⟩)
  | some q =>
    obtain ⟨ln, its⟩ := q
    have h0 := h
    obtain ⟨a1, a2, a3, a4, a5, a6⟩ := h
    refine es_f (by rw [a1]; decide +kernel) (es_br (fun q => ?_) (fun q => es_rI ⟨rfl, ?_⟩))
    · rw [a3] at q
      refine ⟨_, _, es_pure (s_hasItems d h0), es_br (fun q2 => es_rI ⟨rfl, ?_⟩) (fun q2 => es_rI ⟨rfl, ?_⟩)⟩
      · rw [es_b_0] at q2
        unfold es_rf
        dsimp only
        rw [if_pos q, q2]; rfl
      · rw [es_b_0] at q2
        unfold es_rf
        dsimp only
        rw [if_pos q, if_pos (Bool.of_not_eq_false q2)]
    · rw [a3] at q
      unfold es_rf
      dsimp only
      rw [if_neg q]
theorem s_lat (d : Nat) {p k : Nat} {μ : mz_M} {ln : Nat} {its : List Int64} (h : es_lf μ p (some (ln, its))) (hk : k < 2147483648) : es_J (d + 1) n_Leaf_at [mz_R 14 p, mz_I (nI k)] μ (fun r μ' => μ' = μ ∧ r = its.getD k 0) := by
  obtain ⟨a1, a2, a3, a4, a5, a6⟩ := h
  refine es_J.mk (w_Leaf_at_0 p (nI k) μ (es_f (nI_pos (by omega)) (es_br (fun q => es_rJ ⟨rfl, ?_⟩) (fun q => ?_))))
  · rw [a5] at q
    have := (nI_leI (by omega) (by omega)).mp q
    rw [List.getD_eq_getElem?_getD, List.getElem?_eq_none (by omega)]; rfl
  · rw [a5] at q
    have : ¬ its.length ≤ k := fun z => q ((nI_leI (by omega) (by omega)).mpr z)
    refine ⟨vp_in_nI (by omega) (by omega), es_rJ ⟨rfl, ?_⟩⟩
    rw [es_clamp (by omega)]
    exact a6 k (by omega)
theorem es_pureJ {d y : Nat} {a : List mz_V} {μ : mz_M} {e : Int64} (h : es_J d y a μ (fun r μ' => μ' = μ ∧ r = e)) : es_R d y a μ (some (mz_L e)) μ := by
  obtain ⟨r, μ', h1, h2, h3⟩ := h
  rw [h2, h3] at h1
  exact h1
/-- the lowest bits, by lane -/
def es_ct (v : Int64) (ln : Nat) : Int64 := if ln = 0 then v.toInt32.toInt8.toInt32.toInt64 else if ln = 1 then v.toInt32.toInt16.toInt32.toInt64 else if ln = 2 then v.toInt32.toInt64 else v
theorem es_setD {its : List Int64} {k j : Nat} {v : Int64} (hk : k < its.length) : (its.set k v).getD j 0 = if j = k then v else its.getD j 0 := by
  rw [List.getD_eq_getElem?_getD, List.getD_eq_getElem?_getD]
  by_cases e : j = k
  · subst e
    rw [List.getElem?_set_self hk, if_pos rfl]; rfl
  · rw [List.getElem?_set_ne (Ne.symm e), if_neg e]
theorem s_lput (d : Nat) {p k : Nat} {v : Int64} {μ : mz_M} {ln : Nat} {its : List Int64} (h : es_lf μ p (some (ln, its))) (hk : k < its.length) : es_V (d + 1) n_Leaf_put [mz_R 14 p, mz_I (nI k), mz_L v] μ (fun μ' => es_fr (es_2 p) μ μ' ∧ es_lf μ' p (some (ln, its.set k (es_ct v ln)))) := by
  obtain ⟨a1, a2, a3, a4, a5, a6⟩ := h
  refine es_V.mk (w_Leaf_put_0 p (nI k) v μ (es_f (nI_pos (by omega)) (es_t (by rw [a5]; exact nI_lt hk (by omega)) ?_)))
  have fin : ∀ x, x = es_ct v ln → es_fr (es_2 p) μ (mz_wL μ (p + 1) k x) ∧ es_lf (mz_wL μ (p + 1) k x) p (some (ln, its.set k (es_ct v ln))) := by
    intro x hx
    refine ⟨es_fr.rf.wL (Or.inr rfl), a1, a2, a3, by rw [List.length_set]; exact a4, by rw [List.length_set]; exact a5, fun j hj => ?_⟩
    rw [List.length_set] at hj
    rw [mz_wL_at, es_setD hk, hx]
    by_cases e : j = k
    · rw [if_pos ⟨rfl, e⟩, if_pos e]
    · rw [if_neg (fun z => e z.2), if_neg e]
      exact a6 j hj
  have lq : ∀ c : Nat, c < 5 → (μ.1 p 2 = nI c ↔ ln = c) := fun c hc => by rw [a3]; exact nI_eq (by omega) (by omega)
  have hin : vp_in (nI k) 40 := vp_in_nI (by omega) (by omega)
  rw [es_clamp (by omega)]
  refine es_br (fun q => ⟨hin, es_rV (fin _ ?_)⟩) (fun q => es_br (fun q2 => ⟨hin, es_rV (fin _ ?_)⟩) (fun q2 => es_br (fun q3 => ⟨hin, es_rV (fin _ ?_)⟩) (fun q3 => ⟨hin, es_rV (fin _ ?_)⟩)))
  · unfold es_ct
    rw [if_pos ((lq 0 (by omega)).mp q)]
  · unfold es_ct
    rw [if_neg (fun z => q ((lq 0 (by omega)).mpr z)), if_pos ((lq 1 (by omega)).mp q2)]
  · unfold es_ct
    rw [if_neg (fun z => q ((lq 0 (by omega)).mpr z)), if_neg (fun z => q2 ((lq 1 (by omega)).mpr z)), if_pos ((lq 2 (by omega)).mp q3)]
  · unfold es_ct
    rw [if_neg (fun z => q ((lq 0 (by omega)).mpr z)), if_neg (fun z => q2 ((lq 1 (by omega)).mpr z)), if_neg (fun z => q3 ((lq 2 (by omega)).mpr z))]
theorem s_hold (d : Nat) {p ln n : Nat} (hl : ln < 4) (hn : n ≤ 40) (μ : mz_M) : es_V (d + 2) n_Leaf_hold [mz_R 14 p, mz_I (nI ln), mz_I (nI n)] μ (fun μ' => es_fr (es_2 p) μ μ' ∧ es_lf μ' p (some (ln, List.replicate n 0))) := by
  refine es_V.mk (w_Leaf_hold_0 p (nI ln) (nI n) μ ⟨Or.inr rfl, ?_⟩)
  refine ⟨_, _, es_pure (s_min_n d (a := n) (b := 40) (by omega) (by omega) _), ?_⟩
  refine ⟨_, _, es_pure (s_max_n d (a := 0) (b := min n 40) (by omega) (by omega) _), ?_⟩
  rw [show max 0 (min n 40) = n by omega]
  have key : ∀ (g k : Nat) (μ' : mz_M), 40 - k ≤ g → k ≤ 40 → es_fr (es_2 p) μ μ' → μ'.1 p 1 = 1 → μ'.1 p 2 = nI ln → μ'.1 p 3 = nI n → (∀ j, j < k → μ'.2 (p + 1) j = 0) → v_Leaf_hold (es_R (d + 1)) (es_qV (fun μ' => es_fr (es_2 p) μ μ' ∧ es_lf μ' p (some (ln, List.replicate n 0)))) (29, [(0, mz_R 14 p), (3, mz_I (nI k))], [], μ') := by
    have stop : ∀ (k : Nat) (μ' : mz_M), k = 40 → es_fr (es_2 p) μ μ' → μ'.1 p 1 = 1 → μ'.1 p 2 = nI ln → μ'.1 p 3 = nI n → (∀ j, j < k → μ'.2 (p + 1) j = 0) → v_Leaf_hold (es_R (d + 1)) (es_qV (fun μ' => es_fr (es_2 p) μ μ' ∧ es_lf μ' p (some (ln, List.replicate n 0)))) (29, [(0, mz_R 14 p), (3, mz_I (nI k))], [], μ') := by
      intro k μ' hk hf b1 b2 b3 b4
      refine w_Leaf_hold_29 p (nI k) μ' (es_t (nI_le (by omega) (by omega)) (es_rV ⟨hf, b1, hl, b2, by rw [List.length_replicate]; exact hn, by rw [List.length_replicate]; exact b3, fun j hj => ?_⟩))
      rw [List.length_replicate] at hj
      rw [b4 j (by omega), List.getD_eq_getElem?_getD, List.getElem?_replicate, if_pos hj]; rfl
    intro g
    induction g with
    | zero => exact fun k μ' hg hk => stop k μ' (by omega)
    | succ g ih =>
      intro k μ' hg hk hf b1 b2 b3 b4
      by_cases e : k = 40
      · exact stop k μ' e hf b1 b2 b3 b4
      · refine w_Leaf_hold_29 p (nI k) μ' (es_f (nI_ge (by omega) (by omega)) ⟨vp_in_nI (by omega) (by omega), ?_⟩)
        rw [es_clamp (by omega), nI_1]
        refine ih (k + 1) _ (by omega) (by omega) (hf.wL (Or.inr rfl)) b1 b2 b3 (fun j hj => ?_)
        rw [mz_wL_at]
        by_cases e2 : j = k
        · rw [if_pos ⟨rfl, e2⟩]
        · rw [if_neg (fun z => e2 z.2)]; exact b4 j (by omega)
  refine key 40 0 _ (by omega) (by omega) (((es_fr.rf.wI (Or.inl rfl)).wI (Or.inl rfl)).wI (Or.inl rfl)) ?_ ?_ ?_ (fun j hj => by omega)
  · rw [mz_wI_at, if_neg (by omega), mz_wI_at, if_neg (by omega), mz_wI_at, if_pos ⟨rfl, rfl⟩]
  · rw [mz_wI_at, if_neg (by omega), mz_wI_at, if_pos ⟨rfl, rfl⟩]
  · rw [mz_wI_at, if_pos ⟨rfl, rfl⟩]
theorem es_cmp_0 (x y : Int64) : lg_cmp x y = 0 ↔ x.toInt = y.toInt := by
  have h1 := es_cmp_pos x y
  have h2 := es_cmp_nn x y
  constructor
  · intro h
    rw [h] at h1 h2
    have a := h2.mp (by decide +kernel)
    have b : ¬ y.toInt < x.toInt := fun z => absurd (h1.mpr z) (by decide +kernel)
    omega
  · intro h
    have e : x = y := (fa_eq64 x y).mpr h
    subst e
    simp [lg_cmp]
/-- whether n items from i on are a list's first -/
def es_bg (its : List Int64) (i : Nat) (l : List Int) : Nat → Bool
  | 0 => true
  | n + 1 => es_bg its i l n && decide ((its.getD (i + n) 0).toInt = l.getD n 0)
theorem es_bg_up {its : List Int64} {i : Nat} {l : List Int} : ∀ {n k : Nat}, k ≤ n → es_bg its i l k = false → es_bg its i l n = false
  | 0, k, h, hk => by
    have : k = 0 := by omega
    subst this; exact hk
  | n + 1, k, h, hk => by
    by_cases e : k = n + 1
    · subst e; exact hk
    · unfold es_bg
      rw [es_bg_up (by omega) hk]; rfl
theorem s_begins (d : Nat) {p p3 i n : Nat} {μ : mz_M} {ln : Nat} {its : List Int64} {l : List Int} (h : es_lf μ p (some (ln, its))) (h3 : es_row μ p3 l) (hi : i < 2147483000) (hn : n ≤ 100) : es_I (d + 2) n_Leaf_begins [mz_R 14 p, mz_I (nI i), mz_I (nI n), mz_R 3 p3] μ (fun r μ' => μ' = μ ∧ r = es_b (es_bg its i l n && decide (n ≤ l.length))) := by
  have c1 := h3.1.1
  refine es_I.mk (w_Leaf_begins_0 p _ _ p3 μ ?_)
  have key : ∀ (g k : Nat), n - k ≤ g → k ≤ n → es_bg its i l k = true → v_Leaf_begins (es_R (d + 1)) (es_qI (fun r μ' => μ' = μ ∧ r = es_b (es_bg its i l n && decide (n ≤ l.length)))) (3, [(0, mz_R 14 p), (1, mz_I (nI i)), (2, mz_I (nI n)), (3, mz_R 3 p3), (4, mz_I (nI k))], [], μ) := by
    have stop : ∀ k, k = n → es_bg its i l k = true → v_Leaf_begins (es_R (d + 1)) (es_qI (fun r μ' => μ' = μ ∧ r = es_b (es_bg its i l n && decide (n ≤ l.length)))) (3, [(0, mz_R 14 p), (1, mz_I (nI i)), (2, mz_I (nI n)), (3, mz_R 3 p3), (4, mz_I (nI k))], [], μ) := by
      intro k hk hb
      subst hk
      refine w_Leaf_begins_3 p _ _ p3 _ μ (es_t (nI_le (by omega) (by omega)) (es_br (fun q => ⟨Or.inl rfl, es_rI ⟨rfl, ?_⟩⟩) (fun q => ⟨Or.inr rfl, es_rI ⟨rfl, ?_⟩⟩)))
      · rw [h3.2.1] at q
        have := (nI_ltI (by omega) (by omega)).mp q
        rw [hb, decide_eq_false (by omega)]; rfl
      · rw [h3.2.1] at q
        have : ¬ l.length < k := fun z => q ((nI_ltI (by omega) (by omega)).mpr z)
        rw [hb, decide_eq_true (by omega)]; rfl
    intro g
    induction g with
    | zero => exact fun k hg hk hb => stop k (by omega) hb
    | succ g ih =>
      intro k hg hk hb
      by_cases e : k = n
      · exact stop k e hb
      · refine w_Leaf_begins_3 p _ _ p3 _ μ (es_f (nI_ge (by omega) (by omega)) ?_)
        rw [nI_add]
        refine ⟨_, _, es_pureJ (s_lat d (k := i + k) h (by omega)), ?_⟩
        obtain ⟨r, hA, hr⟩ := es_pur (s_at_n d (k := k) h3 (by omega))
        refine ⟨_, _, hA, es_br (fun q => ?_) (fun q => ⟨Or.inl rfl, es_rI ⟨rfl, ?_⟩⟩)⟩
        · rw [es_cmp_0, es_i2l, hr] at q
          rw [nI_1]
          refine ih (k + 1) (by omega) (by omega) ?_
          unfold es_bg
          rw [hb, decide_eq_true q]; rfl
        · rw [es_cmp_0, es_i2l, hr] at q
          have : es_bg its i l (k + 1) = false := by
            unfold es_bg
            rw [hb, decide_eq_false q]; rfl
          rw [es_bg_up (by omega) this]; rfl
  exact key n 0 (by omega) (by omega) rfl
end
section
/-! Pairs of a sheet: weight, level, bound. -/
theorem es_cmp_neg (x y : Int64) : lg_cmp x y < (0 : Int32) ↔ x.toInt < y.toInt := by
  have h2 := es_cmp_nn x y
  constructor
  · intro h
    have := es_hlt h
    rw [es_i0] at this
    refine Int.not_le.mp (fun z => ?_)
    have := es_hle (h2.mpr z)
    rw [es_i0] at this
    omega
  · intro h
    refine (fa_lt _ _).mpr ?_
    rw [es_i0]
    refine Int.not_le.mp (fun z => ?_)
    have := h2.mp ((fa_le _ _).mpr (by rw [es_i0]; exact z))
    omega
theorem es_cmp_np (x y : Int64) : lg_cmp x y ≤ (0 : Int32) ↔ x.toInt ≤ y.toInt := by
  have h2 := es_cmp_pos x y
  constructor
  · intro h
    have := es_hle h
    rw [es_i0] at this
    refine Int.not_lt.mp (fun z => ?_)
    have := es_hlt (h2.mpr z)
    rw [es_i0] at this
    omega
  · intro h
    refine (fa_le _ _).mpr ?_
    rw [es_i0]
    refine Int.not_lt.mp (fun z => ?_)
    have := h2.mp ((fa_lt _ _).mpr (by rw [es_i0]; exact z))
    omega
def es_okd (dv ev : Int64) : Bool := decide (1 ≤ dv.toInt ∧ dv.toInt ≤ 12 ∧ -9 ≤ ev.toInt ∧ ev.toInt ≤ 9)
def es_okp (its : List Int64) (i : Nat) : Nat → Bool
  | 0 => true
  | n + 1 => es_okp its i n && es_okd (its.getD (i + 2 * n) 0) (its.getD (i + 2 * n + 1) 0)
theorem es_okp_at {its : List Int64} {i : Nat} : ∀ {n k : Nat}, es_okp its i n = true → k < n → es_okd (its.getD (i + 2 * k) 0) (its.getD (i + 2 * k + 1) 0) = true
  | 0, _, _, h => absurd h (Nat.not_lt_zero _)
  | n + 1, k, h, hk => by
    unfold es_okp at h
    rw [Bool.and_eq_true] at h
    by_cases e : k = n
    · subst e; exact h.2
    · exact es_okp_at h.1 (by omega)
theorem es_okp_up {its : List Int64} {i : Nat} : ∀ {n k : Nat}, k ≤ n → es_okp its i k = false → es_okp its i n = false
  | 0, k, h, hk => by
    have : k = 0 := by omega
    subst this; exact hk
  | n + 1, k, h, hk => by
    by_cases e : k = n + 1
    · subst e; exact hk
    · unfold es_okp
      rw [es_okp_up (by omega) hk]; rfl
def es_its (o : es_L) : List Int64 := match o with
  | none => []
  | some q => q.2
/-- why n pairs of a sheet can't be taken; 0 -/
def es_rp (o : es_L) (lane i : Int32) (n : Nat) : Int32 := if es_rf o lane i (nI (2 * n)) = 0 then (if es_okp (es_its o) i.toInt.toNat n = true then 0 else -1000002) else es_rf o lane i (nI (2 * n))
theorem es_rf_0 {o : es_L} {lane i n : Int32} (h : es_rf o lane i n = 0) : ∃ ln its, o = some (ln, its) ∧ nI ln = lane ∧ 0 ≤ i.toInt ∧ 0 ≤ n.toInt ∧ i.toInt + n.toInt ≤ its.length := by
  match o, h with
  | some (ln, its), h =>
    unfold es_rf at h
    dsimp only at h
    by_cases e : nI ln = lane
    · rw [if_pos e] at h
      by_cases e2 : es_hi its.length i n = true
      · exact ⟨ln, its, rfl, e, of_decide_eq_true e2⟩
      · rw [if_neg e2] at h
        exact absurd h (by decide +kernel)
    · rw [if_neg e] at h
      exact absurd h (by decide +kernel)
  | none, h => exact absurd (show (-1000011 : Int32) = 0 from h) (by decide +kernel)
theorem s_refusePairs (d : Nat) {p n : Nat} {lane i : Int32} {μ : mz_M} {o : es_L} (h : es_lf μ p o) (hn : n ≤ 6) : es_I (d + 3) n_Leaf_refusePairs [mz_R 14 p, mz_I lane, mz_I i, mz_I (nI n)] μ (fun r μ' => μ' = μ ∧ r = es_rp o lane i n) := by
  refine es_I.mk (w_Leaf_refusePairs_0 p lane i (nI n) μ ?_)
  rw [show (2 : Int32) = nI 2 from rfl, pk_mul]
  refine ⟨_, _, es_pure (s_refuse d h), ?_⟩
  by_cases h0 : es_rf o lane i (nI (2 * n)) = 0
  · obtain ⟨ln, its, rfl, hln, hi0, -, hi2⟩ := es_rf_0 h0
    rw [nI_toInt (by omega)] at hi2
    have h40 : its.length ≤ 40 := h.2.2.2.1
    obtain ⟨iN, hiN, rfl⟩ : ∃ iN : Nat, iN ≤ 40 ∧ i = nI iN := ⟨i.toInt.toNat, by omega, es_nIof hi0⟩
    rw [nI_toInt (by omega)] at hi2
    have key : ∀ (g k : Nat), n - k ≤ g → k ≤ n → es_okp its iN k = true → v_Leaf_refusePairs (es_R (d + 2)) (es_qI (fun r μ' => μ' = μ ∧ r = es_rp (some (ln, its)) lane (nI iN) n)) (14, [(0, mz_R 14 p), (2, mz_I (nI iN)), (3, mz_I (nI n)), (4, mz_I 0), (5, mz_I (nI k))], [], μ) := by
      have e0 : es_rp (some (ln, its)) lane (nI iN) n = if es_okp its iN n = true then 0 else -1000002 := by
        unfold es_rp
        rw [if_pos h0]
        show (if es_okp its (nI iN).toInt.toNat n = true then _ else _) = _
        rw [nI_toInt (by omega)]; rfl
      have stop : ∀ k, k = n → es_okp its iN k = true → v_Leaf_refusePairs (es_R (d + 2)) (es_qI (fun r μ' => μ' = μ ∧ r = es_rp (some (ln, its)) lane (nI iN) n)) (14, [(0, mz_R 14 p), (2, mz_I (nI iN)), (3, mz_I (nI n)), (4, mz_I 0), (5, mz_I (nI k))], [], μ) := by
        intro k hk hb
        subst hk
        exact w_Leaf_refusePairs_14 p _ _ _ _ μ (es_t (nI_le (by omega) (by omega)) (es_rI ⟨rfl, by rw [e0, if_pos hb]⟩))
      intro g
      induction g with
      | zero => exact fun k hg hk hb => stop k (by omega) hb
      | succ g ih =>
        intro k hg hk hb
        by_cases e : k = n
        · exact stop k e hb
        · refine w_Leaf_refusePairs_14 p _ _ _ _ μ (es_f (nI_ge (by omega) (by omega)) (es_t rfl ?_))
          rw [show (2 : Int32) = nI 2 from rfl, pk_mul, nI_add, nI_1]
          refine ⟨_, _, es_pureJ (s_lat (d + 1) (k := iN + 2 * k) h (by omega)), ?_⟩
          refine ⟨_, _, es_pureJ (s_lat (d + 1) (k := iN + 2 * k + 1) h (by omega)), ?_⟩
          have bad : es_okd (its.getD (iN + 2 * k) 0) (its.getD (iN + 2 * k + 1) 0) = false → v_Leaf_refusePairs (es_R (d + 2)) (es_qI (fun r μ' => μ' = μ ∧ r = es_rp (some (ln, its)) lane (nI iN) n)) (14, [(0, mz_R 14 p), (2, mz_I (nI iN)), (3, mz_I (nI n)), (4, mz_I (-1000002)), (5, mz_I (nI k + 1))], [], μ) := by
            intro hbad
            have hf : es_okp its iN n = false := by
              refine es_okp_up (k := k + 1) (by omega) ?_
              unfold es_okp
              rw [hb, hbad]; rfl
            have hv : -1000002 = es_rp (some (ln, its)) lane (nI iN) n := by rw [e0, hf]; rfl
            exact w_Leaf_refusePairs_14 p _ _ _ _ μ (es_br (fun _ => es_rI ⟨rfl, hv⟩) (fun _ => es_f (by decide +kernel) (es_rI ⟨rfl, hv⟩)))
          have c1 : (1 : Int64).toInt = 1 := by decide +kernel
          have c2 : (12 : Int64).toInt = 12 := by decide +kernel
          have c3 : (-9 : Int64).toInt = -9 := by decide +kernel
          have c4 : (9 : Int64).toInt = 9 := by decide +kernel
          refine es_br (fun q => bad ?_) (fun q => es_br (fun q2 => bad ?_) (fun q2 => es_br (fun q3 => bad ?_) (fun q3 => es_br (fun q4 => ?_) (fun q4 => bad ?_))))
          · rw [es_cmp_neg, c1] at q
            exact decide_eq_false (by omega)
          · rw [es_cmp_pos, c2] at q2
            exact decide_eq_false (by omega)
          · rw [es_cmp_neg, c3] at q3
            exact decide_eq_false (by omega)
          · rw [es_cmp_neg, c1] at q
            rw [es_cmp_pos, c2] at q2
            rw [es_cmp_neg, c3] at q3
            rw [es_cmp_np, c4] at q4
            rw [nI_1]
            refine ih (k + 1) (by omega) (by omega) ?_
            unfold es_okp
            rw [hb]
            exact decide_eq_true (by omega)
          · rw [es_cmp_np, c4] at q4
            exact decide_eq_false (by omega)
    rw [h0]
    exact key n 0 (by omega) (by omega) rfl
  · have hv : es_rf o lane i (nI (2 * n)) = es_rp o lane i n := by
      unfold es_rp
      rw [if_neg h0]
    refine w_Leaf_refusePairs_14 p _ _ _ _ μ (es_br (fun _ => es_rI ⟨rfl, hv⟩) (fun _ => es_f h0 (es_rI ⟨rfl, hv⟩)))
theorem es_rp_0 {o : es_L} {lane i : Int32} {n : Nat} (hn : n ≤ 6) (h : es_rp o lane i n = 0) : ∃ (ln : Nat) (its : List Int64) (iN : Nat), o = some (ln, its) ∧ nI ln = lane ∧ i = nI iN ∧ iN + 2 * n ≤ its.length ∧ i.toInt = iN ∧ es_okp its iN n = true := by
  unfold es_rp at h
  by_cases h0 : es_rf o lane i (nI (2 * n)) = 0
  · rw [if_pos h0] at h
    obtain ⟨ln, its, rfl, hln, hi0, -, hi2⟩ := es_rf_0 h0
    rw [nI_toInt (by omega)] at hi2
    by_cases e : es_okp (es_its (some (ln, its))) i.toInt.toNat n = true
    · exact ⟨ln, its, i.toInt.toNat, rfl, hln, es_nIof hi0, by omega, by omega, e⟩
    · rw [if_neg e] at h
      exact absurd h (by decide +kernel)
  · rw [if_neg h0] at h
    exact absurd h h0
theorem s_divisor (d : Nat) {p i k : Nat} {μ : mz_M} {ln : Nat} {its : List Int64} (h : es_lf μ p (some (ln, its))) (hi : i ≤ 1000) (hk : k ≤ 1000) : es_I (d + 2) n_Leaf_divisor [mz_R 14 p, mz_I (nI i), mz_I (nI k)] μ (fun r μ' => μ' = μ ∧ r = (its.getD (i + 2 * k) 0).toInt32) := by
  refine es_I.mk (w_Leaf_divisor_0 p _ _ μ ?_)
  rw [show (2 : Int32) = nI 2 from rfl, pk_mul, nI_add]
  exact ⟨_, _, es_pureJ (s_lat d (k := i + 2 * k) h (by omega)), es_rI ⟨rfl, rfl⟩⟩
theorem s_exponent (d : Nat) {p i k : Nat} {μ : mz_M} {ln : Nat} {its : List Int64} (h : es_lf μ p (some (ln, its))) (hi : i ≤ 1000) (hk : k ≤ 1000) : es_I (d + 2) n_Leaf_exponent [mz_R 14 p, mz_I (nI i), mz_I (nI k)] μ (fun r μ' => μ' = μ ∧ r = (its.getD (i + 2 * k + 1) 0).toInt32) := by
  refine es_I.mk (w_Leaf_exponent_0 p _ _ μ ?_)
  rw [show (2 : Int32) = nI 2 from rfl, pk_mul, nI_add, nI_1]
  exact ⟨_, _, es_pureJ (s_lat d (k := i + 2 * k + 1) h (by omega)), es_rI ⟨rfl, rfl⟩⟩
def es_wt (its : List Int64) (i : Nat) : Nat → Int32
  | 0 => 0
  | n + 1 => es_wt its i n + (its.getD (i + 2 * n + 1) 0).toInt32
theorem s_weight (d : Nat) {p i n : Nat} {μ : mz_M} {ln : Nat} {its : List Int64} (h : es_lf μ p (some (ln, its))) (hi : i ≤ 1000) (hn : n ≤ 1000) : es_I (d + 3) n_Leaf_weight [mz_R 14 p, mz_I (nI i), mz_I (nI n)] μ (fun r μ' => μ' = μ ∧ r = es_wt its i n) := by
  refine es_I.mk (w_Leaf_weight_0 p _ _ μ ?_)
  have key : ∀ (g k : Nat), n - k ≤ g → k ≤ n → v_Leaf_weight (es_R (d + 2)) (es_qI (fun r μ' => μ' = μ ∧ r = es_wt its i n)) (5, [(0, mz_R 14 p), (1, mz_I (nI i)), (2, mz_I (nI n)), (3, mz_I (es_wt its i k)), (4, mz_I (nI k))], [], μ) := by
    intro g
    induction g with
    | zero =>
      intro k hg hk
      have : k = n := by omega
      subst this
      exact w_Leaf_weight_5 p _ _ _ _ μ (es_t (nI_le (by omega) (by omega)) (es_rI ⟨rfl, rfl⟩))
    | succ g ih =>
      intro k hg hk
      by_cases e : k = n
      · subst e
        exact w_Leaf_weight_5 p _ _ _ _ μ (es_t (nI_le (by omega) (by omega)) (es_rI ⟨rfl, rfl⟩))
      · refine w_Leaf_weight_5 p _ _ _ _ μ (es_f (nI_ge (by omega) (by omega)) ?_)
        refine ⟨_, _, es_pure (s_exponent d (k := k) h hi (by omega)), ?_⟩
        rw [nI_1]
        exact ih (k + 1) (by omega) (by omega)
  exact key n 0 (by omega) (by omega)
/-- what is left of a division -/
theorem es_rem {x y : Int32} (hy : 0 < y.toInt) : (x - x / y * y = 0) ↔ x.toInt % y.toInt = 0 := by
  have rx := fb_rng x
  have ry := fb_rng y
  have hd : (x / y).toInt = x.toInt.tdiv y.toInt := by
    rw [Int32.toInt_div, fb_bmod]
    · have := Int.natAbs_tdiv_le_natAbs x.toInt y.toInt
      omega
    · have := Int.natAbs_tdiv_le_natAbs x.toInt y.toInt
      by_cases e : x.toInt = -2147483648
      · rw [e]
        have : Int.tdiv (-2147483648) y.toInt ≤ 0 := by
          rw [Int.neg_tdiv]
          have := Int.tdiv_nonneg (a := 2147483648) (b := y.toInt) (by omega) (by omega)
          omega
        omega
      · omega
  have hm : (x / y * y).toInt = x.toInt.tdiv y.toInt * y.toInt := by
    have h3 : (x.toInt.tdiv y.toInt * y.toInt).natAbs ≤ x.toInt.natAbs := by
      rw [Int.natAbs_mul, Int.natAbs_tdiv]
      exact Nat.div_mul_le_self _ _
    rw [fb_mulI, hd]
    · rw [hd]; omega
    · rw [hd]
      by_cases e5 : 0 ≤ x.toInt
      · omega
      · have h6 : x.toInt.tdiv y.toInt ≤ 0 := by
          have h8 : x.toInt = -(-x.toInt) := by omega
          rw [h8, Int.neg_tdiv]
          have := Int.tdiv_nonneg (a := -x.toInt) (b := y.toInt) (by omega) (by omega)
          omega
        have h7 : x.toInt.tdiv y.toInt * y.toInt ≤ 0 := Int.mul_nonpos_of_nonpos_of_nonneg h6 (by omega)
        omega
  have hs : (x - x / y * y = 0) ↔ x.toInt = x.toInt.tdiv y.toInt * y.toInt := by
    rw [← hm]
    constructor
    · intro h
      have h2 : x = x / y * y := by
        have := congrArg (fun z => z + x / y * y) h
        simpa using this
      exact congrArg Int32.toInt h2
    · intro h
      have h2 : x = x / y * y := Int32.toInt_inj.mp h
      rw [← h2]; simp
  rw [hs]
  constructor
  · intro h
    rw [h]
    exact Int.mul_emod_left _ _
  · intro h
    rw [Int.tdiv_mul_cancel (Int.dvd_of_emod_eq_zero h)]
end
section
/-! Level, index, bound. -/
def es_dd (its : List Int64) (i k : Nat) : Int := (its.getD (i + 2 * k) 0).toInt
def es_ee (its : List Int64) (i k : Nat) : Int := (its.getD (i + 2 * k + 1) 0).toInt
theorem es_okp_bd {its : List Int64} {i n k : Nat} (h : es_okp its i n = true) (hk : k < n) : 1 ≤ es_dd its i k ∧ es_dd its i k ≤ 12 ∧ -9 ≤ es_ee its i k ∧ es_ee its i k ≤ 9 := of_decide_eq_true (es_okp_at h hk)
def es_lo (its : List Int64) (i : Nat) (n : Nat) : Int := fb_si (fun k => es_dd its i k * es_ee its i k) n
def es_hg (its : List Int64) (i N : Nat) (n : Nat) : Int := fb_si (fun k => (N : Int) / es_dd its i k * es_ee its i k) n
def es_dvs (its : List Int64) (i N : Nat) : Nat → Bool
  | 0 => true
  | n + 1 => es_dvs its i N n && decide (es_ee its i n = 0 ∨ (N : Int) % es_dd its i n = 0)
theorem es_dvs_up {its : List Int64} {i N : Nat} : ∀ {n k : Nat}, k ≤ n → es_dvs its i N k = false → es_dvs its i N n = false
  | 0, k, h, hk => by
    have : k = 0 := by omega
    subst this; exact hk
  | n + 1, k, h, hk => by
    by_cases e : k = n + 1
    · subst e; exact hk
    · unfold es_dvs
      rw [es_dvs_up (by omega) hk]; rfl
def es_isl (its : List Int64) (i n N : Nat) : Bool := es_dvs its i N n && (decide (es_lo its i n % 24 = 0) && decide (es_hg its i N n % 24 = 0))
theorem es_small {v : Int64} {a : Int} (h : v.toInt = a) (h1 : -1000 ≤ a) (h2 : a ≤ 1000) : v.toInt32.toInt = a := by
  rw [es_l2i (by omega) (by omega), h]
set_option maxHeartbeats 1000000 in
theorem s_isLevel (d : Nat) {p i n N : Nat} {μ : mz_M} {ln : Nat} {its : List Int64} (h : es_lf μ p (some (ln, its))) (hi : i ≤ 100) (hn : n ≤ 6) (hN : N ≤ 600) (hok : es_okp its i n = true) : es_I (d + 3) n_Leaf_isLevel [mz_R 14 p, mz_I (nI N), mz_I (nI i), mz_I (nI n)] μ (fun r μ' => μ' = μ ∧ r = es_b (es_isl its i n N)) := by
  refine es_I.mk (w_Leaf_isLevel_0 p _ _ _ μ ?_)
  have b1 : ∀ k, k ≤ n → -(k * 108 : Int) ≤ es_lo its i k ∧ es_lo its i k ≤ (k * 108 : Int) := fun k hk => fb_si_bound (by omega) (fun j hj => by
    have := es_okp_bd hok (show j < n by omega)
    have := es_mulb (A := 12) (B := 9) (a := es_dd its i j) (b := es_ee its i j) (by omega) (by omega)
    omega)
  have hq : ∀ k, k < n → 0 ≤ (N : Int) / es_dd its i k ∧ (N : Int) / es_dd its i k ≤ 600 := by
    intro k hk
    have := es_okp_bd hok hk
    have h1 := Int.ediv_nonneg (a := (N : Int)) (b := es_dd its i k) (by omega) (by omega)
    have h2 := Int.ediv_le_self (a := (N : Int)) (es_dd its i k) (by omega)
    omega
  have b2 : ∀ k, k ≤ n → -(k * 5400 : Int) ≤ es_hg its i N k ∧ es_hg its i N k ≤ (k * 5400 : Int) := fun k hk => fb_si_bound (by omega) (fun j hj => by
    have h1 := es_okp_bd hok (show j < n by omega)
    have h2 := hq j (by omega)
    have := es_mulb (A := 600) (B := 9) (a := (N : Int) / es_dd its i j) (b := es_ee its i j) (by omega) (by omega)
    omega)
  have e24 : (24 : Int32).toInt = 24 := by decide +kernel
  have key : ∀ (g k : Nat) (x y : Int32), n - k ≤ g → k ≤ n → x.toInt = es_lo its i k → y.toInt = es_hg its i N k → es_dvs its i N k = true → v_Leaf_isLevel (es_R (d + 2)) (es_qI (fun r μ' => μ' = μ ∧ r = es_b (es_isl its i n N))) (9, [(0, mz_R 14 p), (1, mz_I (nI N)), (2, mz_I (nI i)), (3, mz_I (nI n)), (4, mz_I x), (5, mz_I y), (6, mz_I (nI k))], [], μ) := by
    have stop : ∀ (k : Nat) (x y : Int32), k = n → x.toInt = es_lo its i k → y.toInt = es_hg its i N k → es_dvs its i N k = true → v_Leaf_isLevel (es_R (d + 2)) (es_qI (fun r μ' => μ' = μ ∧ r = es_b (es_isl its i n N))) (9, [(0, mz_R 14 p), (1, mz_I (nI N)), (2, mz_I (nI i)), (3, mz_I (nI n)), (4, mz_I x), (5, mz_I y), (6, mz_I (nI k))], [], μ) := by
      intro k x y hk hx hy hd
      subst hk
      refine w_Leaf_isLevel_9 p _ _ _ x y _ μ (es_t (nI_le (by omega) (by omega)) ⟨by decide +kernel, es_br (fun q => ⟨by decide +kernel, es_br (fun q2 => ⟨Or.inr rfl, es_rI ⟨rfl, ?_⟩⟩) (fun q2 => ⟨Or.inl rfl, es_rI ⟨rfl, ?_⟩⟩)⟩) (fun q => ⟨Or.inl rfl, es_rI ⟨rfl, ?_⟩⟩)⟩)
      · rw [es_rem (by rw [e24]; omega), e24, hx] at q
        rw [es_rem (by rw [e24]; omega), e24, hy] at q2
        unfold es_isl
        rw [hd, decide_eq_true q, decide_eq_true q2]; rfl
      · rw [es_rem (by rw [e24]; omega), e24, hy] at q2
        unfold es_isl
        rw [decide_eq_false q2, Bool.and_false, Bool.and_false]; rfl
      · rw [es_rem (by rw [e24]; omega), e24, hx] at q
        unfold es_isl
        rw [decide_eq_false q, Bool.false_and, Bool.and_false]; rfl
    intro g
    induction g with
    | zero => exact fun k x y hg hk hx hy hd => stop k x y (by omega) hx hy hd
    | succ g ih =>
      intro k x y hg hk hx hy hd
      by_cases e : k = n
      · exact stop k x y e hx hy hd
      · refine w_Leaf_isLevel_9 p _ _ _ x y _ μ (es_f (nI_ge (by omega) (by omega)) ?_)
        have bd := es_okp_bd hok (show k < n by omega)
        have hdv : (its.getD (i + 2 * k) 0).toInt32.toInt = es_dd its i k := es_small rfl (by omega) (by omega)
        have hev : (its.getD (i + 2 * k + 1) 0).toInt32.toInt = es_ee its i k := es_small rfl (by omega) (by omega)
        refine ⟨_, _, es_pure (s_divisor d (k := k) h (by omega) (by omega)), ?_⟩
        refine ⟨_, _, es_pure (s_exponent d (k := k) h (by omega) (by omega)), ?_⟩
        generalize (its.getD (i + 2 * k) 0).toInt32 = dv at hdv
        generalize (its.getD (i + 2 * k + 1) 0).toInt32 = ev at hev
        have s1 : es_lo its i (k + 1) = es_lo its i k + es_dd its i k * es_ee its i k := fb_si_succ _ _
        have s2 : es_hg its i N (k + 1) = es_hg its i N k + (N : Int) / es_dd its i k * es_ee its i k := fb_si_succ _ _
        rw [nI_1]
        refine es_br (fun q => ?_) (fun q => es_f ?_ ⟨?_, ?_⟩)
        · have q0 : es_ee its i k = 0 := by rw [← hev, q]; rfl
          refine ih (k + 1) x y (by omega) (by omega) (by rw [s1, q0, hx]; omega) (by rw [s2, q0, hy]; omega) ?_
          unfold es_dvs
          rw [hd, decide_eq_true (Or.inl q0)]; rfl
        · intro z
          have := es_hlt z
          rw [es_i1, hdv] at this
          omega
        · intro z
          rw [z, es_i0] at hdv
          omega
        · have q0 : es_ee its i k ≠ 0 := by rw [← hev]; intro z; exact q (Int32.toInt_inj.mp (z.trans es_i0.symm))
          have hNi : (nI N).toInt = N := nI_toInt (by omega)
          refine es_br (fun q2 => ⟨?_, ?_⟩) (fun q2 => ⟨Or.inl rfl, es_rI ⟨rfl, ?_⟩⟩)
          · intro z
            rw [z, es_i0] at hdv
            omega
          · rw [es_rem (by omega), hNi, hdv] at q2
            have hqq := hq k (by omega)
            have m1 := es_mulb (A := 12) (B := 9) (a := es_dd its i k) (b := es_ee its i k) (by omega) (by omega)
            have m2 := es_mulb (A := 600) (B := 9) (a := (N : Int) / es_dd its i k) (b := es_ee its i k) (by omega) (by omega)
            have c1 := b1 k (by omega)
            have c2 := b2 k (by omega)
            have hdvn : dv = nI (es_dd its i k).toNat := by
              rw [← hdv]
              exact es_nIof (by omega)
            have hdiv : (nI N / dv).toInt = (N : Int) / es_dd its i k := by
              rw [hdvn, pk_div (by omega) (by omega) (by omega), nI_toInt (by
                have := Nat.div_le_self N (es_dd its i k).toNat
                omega)]
              rw [Int.natCast_ediv, Int.toNat_of_nonneg (by omega)]
            have e1 : (dv * ev).toInt = es_dd its i k * es_ee its i k := by rw [fb_mulI] <;> rw [hdv, hev] <;> omega
            have e2 : (nI N / dv * ev).toInt = (N : Int) / es_dd its i k * es_ee its i k := by rw [fb_mulI] <;> rw [hdiv, hev] <;> omega
            refine ih (k + 1) _ _ (by omega) (by omega) ?_ ?_ ?_
            · rw [s1, fb_addI] <;> rw [hx, e1] <;> omega
            · rw [s2, fb_addI] <;> rw [hy, e2] <;> omega
            · unfold es_dvs
              rw [hd, decide_eq_true (Or.inr q2)]; rfl
          · rw [es_rem (by omega), hNi, hdv] at q2
            have : es_dvs its i N (k + 1) = false := by
              unfold es_dvs
              rw [hd, decide_eq_false (by omega)]; rfl
            unfold es_isl
            rw [es_dvs_up (by omega) this]; rfl
  exact key n 0 0 0 (by omega) (by omega) rfl rfl rfl
/-- the first of g numbers from N on -/
def es_fs (P : Nat → Bool) : Nat → Nat → Option Nat
  | 0, _ => none
  | g + 1, N => if P N = true then some N else es_fs P g (N + 1)
def es_lvI (o : Option Nat) : Int32 := match o with
  | none => -1000004
  | some N => nI N
theorem s_level (d : Nat) {p i n : Nat} {μ : mz_M} {ln : Nat} {its : List Int64} (h : es_lf μ p (some (ln, its))) (hi : i ≤ 100) (hn : n ≤ 6) (hok : es_okp its i n = true) : es_I (d + 4) n_Leaf_level [mz_R 14 p, mz_I (nI i), mz_I (nI n)] μ (fun r μ' => μ' = μ ∧ r = es_lvI (es_fs (es_isl its i n) 600 1)) := by
  refine es_I.mk (w_Leaf_level_0 p _ _ μ ?_)
  have key : ∀ (g N : Nat), N + g = 601 → es_fs (es_isl its i n) 600 1 = es_fs (es_isl its i n) g N → v_Leaf_level (es_R (d + 3)) (es_qI (fun r μ' => μ' = μ ∧ r = es_lvI (es_fs (es_isl its i n) 600 1))) (2, [(0, mz_R 14 p), (1, mz_I (nI i)), (2, mz_I (nI n)), (3, mz_I (nI N))], [], μ) := by
    intro g
    induction g with
    | zero =>
      intro N hg he
      refine w_Leaf_level_2 p _ _ _ μ (es_t (nI_lt (a := 600) (by omega) (by omega)) (es_rI ⟨rfl, ?_⟩))
      rw [he]; rfl
    | succ g ih =>
      intro N hg he
      refine w_Leaf_level_2 p _ _ _ μ (es_f (nI_nlt (a := 600) (b := N) (by omega) (by omega)) ?_)
      refine ⟨_, _, es_pure (s_isLevel d h hi hn (N := N) (by omega) hok), es_br (fun q => ?_) (fun q => es_rI ⟨rfl, ?_⟩)⟩
      · rw [es_b_0] at q
        rw [nI_1]
        refine ih (N + 1) (by omega) ?_
        rw [he]
        show (if es_isl its i n N = true then some N else es_fs (es_isl its i n) g (N + 1)) = _
        rw [if_neg (by rw [q]; decide)]
      · rw [es_b_0] at q
        rw [he]
        show nI N = es_lvI (if es_isl its i n N = true then some N else es_fs (es_isl its i n) g (N + 1))
        rw [if_pos (Bool.of_not_eq_false q)]; rfl
  exact key 600 1 (by omega) rfl
theorem es_fs_bd {P : Nat → Bool} {K : Nat} : ∀ {g N : Nat}, es_fs P g N = some K → N ≤ K ∧ K < N + g
  | 0, _, h => by cases h
  | g + 1, N, h => by
    unfold es_fs at h
    by_cases e : P N = true
    · rw [if_pos e] at h
      cases h
      omega
    · rw [if_neg e] at h
      have := es_fs_bd h
      omega
/-- a number without its factors p -/
def es_dv : Nat → Nat → Nat → Nat
  | 0, l, _ => l
  | g + 1, l, p => if l % p = 0 then es_dv g (l / p) p else l
def es_ix : Nat → Nat → Nat → Nat → Nat
  | 0, x, _, _ => x
  | g + 1, x, l, p => if l < p then x else if l % p = 0 then es_ix g (x / p * (p + 1)) (es_dv l l p) (p + 1) else es_ix g x l (p + 1)
theorem es_dv_le : ∀ (g l p : Nat), es_dv g l p ≤ l
  | 0, l, p => Nat.le_refl _
  | g + 1, l, p => by
    unfold es_dv
    split
    · exact Nat.le_trans (es_dv_le g (l / p) p) (Nat.div_le_self l p)
    · exact Nat.le_refl _
theorem es_dv_pos : ∀ (g l p : Nat), 0 < l → 2 ≤ p → 0 < es_dv g l p
  | 0, l, p, h, _ => h
  | g + 1, l, p, h, hp => by
    unfold es_dv
    split
    · next e =>
      refine es_dv_pos g (l / p) p (Nat.div_pos ?_ (by omega)) hp
      exact Nat.le_of_dvd h (Nat.dvd_of_mod_eq_zero e)
    · exact h
/-- how the products stay small -/
theorem es_ix_small {x l p : Nat} (hp : 2 ≤ p) (hl : 0 < l) (e : l % p = 0) : x / p * (p + 1) ≤ 2 * x ∧ 2 * es_dv l l p ≤ l := by
  constructor
  · have h1 : x / p * p ≤ x := Nat.div_mul_le_self x p
    have h2 : x / p ≤ x := Nat.div_le_self x p
    rw [Nat.mul_add, Nat.mul_one]
    omega
  · obtain ⟨g, rfl⟩ : ∃ g, l = g + 1 := ⟨l - 1, by omega⟩
    have h1 : es_dv (g + 1) (g + 1) p ≤ (g + 1) / p := by
      unfold es_dv
      rw [if_pos e]
      exact es_dv_le _ _ _
    have h2 : (g + 1) / p ≤ (g + 1) / 2 := Nat.div_le_div_left hp (by omega)
    omega
theorem es_remn {l p : Nat} (hl : l < 2147483648) (hp : 0 < p) (hp2 : p < 2147483648) : (nI l - nI l / nI p * nI p = 0) ↔ l % p = 0 := by
  rw [pk_rem (by omega) hp (by omega)]
  have := Nat.mod_lt l hp
  exact nI_eq (b := 0) (by omega) (by omega)
theorem s_indexOf (d : Nat) {N : Nat} (h1 : 1 ≤ N) (h2 : N ≤ 600) (μ : mz_M) : es_I (d + 1) n_Leaf_indexOf [mz_I (nI N)] μ (fun r μ' => μ' = μ ∧ r = nI (es_ix 600 N N 2)) := by
  refine es_I.mk (w_Leaf_indexOf_0 _ μ ?_)
  have key : ∀ (g x l p : Nat), l + 1 ≤ g + p → 2 ≤ p → p ≤ 602 → 1 ≤ l → l ≤ 600 → x * l ≤ 360000 → v_Leaf_indexOf (es_R d) (es_qI (fun r μ' => μ' = μ ∧ r = nI (es_ix g x l p))) (6, [(1, mz_I (nI x)), (2, mz_I (nI l)), (3, mz_I (nI p))], [], μ) := by
    intro g
    induction g with
    | zero =>
      intro x l p hg hp hp2 hl hl2 hx
      exact w_Leaf_indexOf_6 _ _ _ μ (es_t (nI_lt (by omega) (by omega)) (es_rI ⟨rfl, rfl⟩))
    | succ g ih =>
      intro x l p hg hp hp2 hl hl2 hx
      have hx2 : x ≤ 360000 := Nat.le_trans (Nat.le_mul_of_pos_right x (by omega)) hx
      have unf : es_ix (g + 1) x l p = if l < p then x else if l % p = 0 then es_ix g (x / p * (p + 1)) (es_dv l l p) (p + 1) else es_ix g x l (p + 1) := rfl
      by_cases c : l < p
      · refine w_Leaf_indexOf_6 _ _ _ μ (es_t (nI_lt c (by omega)) (es_rI ⟨rfl, ?_⟩))
        rw [unf, if_pos c]
      · refine w_Leaf_indexOf_6 _ _ _ μ (es_f (nI_nlt (by omega) (by omega)) ⟨nI_ne0 (by omega) (by omega), es_br (fun q => ⟨nI_ne0 (by omega) (by omega), ?_⟩) (fun q => ?_)⟩)
        · rw [es_remn (by omega) (by omega) (by omega)] at q
          obtain ⟨s1, s2⟩ := es_ix_small (x := x) hp hl q
          have hb : x / p * (p + 1) ≤ 720000 := by omega
          rw [pk_div (by omega) (by omega) (by omega), nI_1, pk_mul]
          generalize hy : x / p * (p + 1) = y at *
          have hyl : y * es_dv l l p ≤ 360000 := by
            have a1 : y * es_dv l l p ≤ 2 * x * es_dv l l p := Nat.mul_le_mul_right _ s1
            have a2 : 2 * x * es_dv l l p = x * (2 * es_dv l l p) := by rw [Nat.mul_comm 2 x, Nat.mul_assoc]
            have a3 : x * (2 * es_dv l l p) ≤ x * l := Nat.mul_le_mul_left _ s2
            omega
          have inner : ∀ (g2 t m : Nat), m ≤ g2 → t + m ≤ 600 → 1 ≤ m → es_dv l l p = es_dv g2 m p → v_Leaf_indexOf (es_R d) (es_qI (fun r μ' => μ' = μ ∧ r = nI (es_ix (g + 1) x l p))) (31, [(1, mz_I (nI y)), (2, mz_I (nI m)), (3, mz_I (nI p)), (4, mz_I (nI t))], [], μ) := by
            intro g2
            induction g2 with
            | zero => exact fun t m h3 h4 h5 h6 => by omega
            | succ g2 ih2 =>
              intro t m h3 h4 h5 h6
              have unf2 : es_dv (g2 + 1) m p = if m % p = 0 then es_dv g2 (m / p) p else m := rfl
              refine w_Leaf_indexOf_31 _ _ _ _ μ (es_f (nI_ge (b := 600) (by omega) (by omega)) ⟨nI_ne0 (by omega) (by omega), es_br (fun q2 => ⟨nI_ne0 (by omega) (by omega), ?_⟩) (fun q2 => ?_)⟩)
              · rw [es_remn (by omega) (by omega) (by omega)] at q2
                rw [pk_div (by omega) (by omega) (by omega), nI_1]
                have m1 : p ≤ m := Nat.le_of_dvd (by omega) (Nat.dvd_of_mod_eq_zero q2)
                have m2 : 0 < m / p := Nat.div_pos m1 (by omega)
                have m3 : m / p < m := Nat.div_lt_self (by omega) (by omega)
                refine ih2 (t + 1) (m / p) (by omega) (by omega) (by omega) ?_
                rw [h6, unf2, if_pos q2]
              · rw [es_remn (by omega) (by omega) (by omega)] at q2
                rw [nI_1, unf, if_neg c, if_pos q]
                rw [unf2, if_neg q2] at h6
                have le := es_dv_le l l p
                subst h6
                exact ih y (es_dv l l p) (p + 1) (by omega) (by omega) (by omega) (by omega) (by omega) hyl
          exact inner l 0 l (by omega) (by omega) hl rfl
        · rw [es_remn (by omega) (by omega) (by omega)] at q
          rw [nI_1, unf, if_neg c, if_neg q]
          exact ih x l (p + 1) (by omega) (by omega) (by omega) hl hl2 hx
  exact key 600 N N 2 (by omega) (by omega) (by omega) h1 h2 (Nat.mul_le_mul h2 h2)
def es_bnd (its : List Int64) (i n : Nat) : Int32 := match es_fs (es_isl its i n) 600 1 with
  | none => -1000004
  | some N => if 0 ≤ es_wt its i n then es_wt its i n * nI (es_ix 600 N N 2) / 24 + 1 else -1000004
theorem s_bound (d : Nat) {p i n : Nat} {μ : mz_M} {ln : Nat} {its : List Int64} (h : es_lf μ p (some (ln, its))) (hi : i ≤ 100) (hn : n ≤ 6) (hok : es_okp its i n = true) : es_I (d + 5) n_Leaf_bound [mz_R 14 p, mz_I (nI i), mz_I (nI n)] μ (fun r μ' => μ' = μ ∧ r = es_bnd its i n) := by
  refine es_I.mk (w_Leaf_bound_0 p _ _ μ ?_)
  refine ⟨_, _, es_pure (s_weight (d + 1) h (by omega) (by omega)), ?_⟩
  refine ⟨_, _, es_pure (s_level d h hi hn hok), ?_⟩
  unfold es_bnd
  cases hl : es_fs (es_isl its i n) 600 1 with
  | none => exact es_t rfl (es_rI ⟨rfl, rfl⟩)
  | some N =>
    have hN := es_fs_bd hl
    refine es_f (fun z => ?_) (es_br (fun q => ?_) (fun q => es_rI ⟨rfl, ?_⟩))
    · have z : nI N = -1000004 := z
      have := congrArg Int32.toInt z
      rw [nI_toInt (by omega), show (-1000004 : Int32).toInt = -1000004 by decide +kernel] at this
      omega
    · refine ⟨_, _, es_pure (s_indexOf (d + 3) (N := N) (by omega) (by omega) μ), by decide +kernel, es_rI ⟨rfl, ?_⟩⟩
      dsimp only
      rw [if_pos q]
    · dsimp only
      rw [if_neg q]
end
section
/-! The class's tests of arguments. -/
theorem es_ltn {x : Int32} (n : Nat) (hn : n < 2147483648) : x < nI n ↔ x.toInt < n := by rw [fa_lt, nI_toInt (by omega)]
theorem es_gtn {x : Int32} (n : Nat) (hn : n < 2147483648) : nI n < x ↔ (n : Int) < x.toInt := by rw [fa_lt, nI_toInt (by omega)]
theorem es_len {x : Int32} (n : Nat) (hn : n < 2147483648) : x ≤ nI n ↔ x.toInt ≤ n := by rw [fa_le, nI_toInt (by omega)]
theorem es_gen {x : Int32} (n : Nat) (hn : n < 2147483648) : nI n ≤ x ↔ (n : Int) ≤ x.toInt := by rw [fa_le, nI_toInt (by omega)]
theorem es_eqn {x : Int32} (n : Nat) (hn : n < 2147483648) : x = nI n ↔ x.toInt = n := by rw [fa_eq, nI_toInt (by omega)]
theorem es_nltn {x : Int32} (n : Nat) (hn : n < 2147483648) (h : ¬ x < nI n) : (n : Int) ≤ x.toInt := by rw [es_ltn n hn] at h; omega
theorem es_ngtn {x : Int32} (n : Nat) (hn : n < 2147483648) (h : ¬ nI n < x) : x.toInt ≤ n := by rw [es_gtn n hn] at h; omega
theorem es_nlen {x : Int32} (n : Nat) (hn : n < 2147483648) (h : ¬ x ≤ nI n) : (n : Int) < x.toInt := by rw [es_len n hn] at h; omega
theorem es_ngen {x : Int32} (n : Nat) (hn : n < 2147483648) (h : ¬ nI n ≤ x) : x.toInt < n := by rw [es_gen n hn] at h; omega
theorem es_neqn {x : Int32} (n : Nat) (hn : n < 2147483648) (h : ¬ x = nI n) : x.toInt ≠ n := by rw [es_eqn n hn] at h; exact h
theorem s_isWithin (d : Nat) (x : Int32) {m : Nat} (hm : m < 2147483648) (μ : mz_M) : es_I (d + 1) n_ES_isWithin [mz_I x, mz_I (nI m)] μ (fun r μ' => μ' = μ ∧ r = es_b (decide (0 ≤ x.toInt ∧ x.toInt ≤ m))) := by
  refine es_I.mk (w_ES_isWithin_0 x (nI m) μ (es_br (fun h => ⟨Or.inl rfl, es_rI ⟨rfl, ?_⟩⟩) (fun h => es_br (fun h2 => ⟨Or.inl rfl, es_rI ⟨rfl, ?_⟩⟩) (fun h2 => ⟨Or.inr rfl, es_rI ⟨rfl, ?_⟩⟩))))
  · have h := (es_ltn 0 (by omega)).mp h
    rw [decide_eq_false (by omega)]; rfl
  · have h2 := (es_gtn m hm).mp h2
    rw [decide_eq_false (by omega)]; rfl
  · have h := es_nltn 0 (by omega) h
    have h2 := es_ngtn m hm h2
    rw [decide_eq_true (by omega)]; rfl
theorem s_isPairs (d : Nat) (x : Int32) (μ : mz_M) : es_I (d + 1) n_ES_isPairs [mz_I x] μ (fun r μ' => μ' = μ ∧ r = es_b (decide (1 ≤ x.toInt ∧ x.toInt ≤ 6))) := by
  refine es_I.mk (w_ES_isPairs_0 x μ (es_br (fun h => ⟨Or.inl rfl, es_rI ⟨rfl, ?_⟩⟩) (fun h => es_br (fun h2 => ⟨Or.inl rfl, es_rI ⟨rfl, ?_⟩⟩) (fun h2 => ⟨Or.inr rfl, es_rI ⟨rfl, ?_⟩⟩))))
  · have h := (es_ltn 1 (by omega)).mp h
    rw [decide_eq_false (by omega)]; rfl
  · have h2 := (es_gtn 6 (by omega)).mp h2
    rw [decide_eq_false (by omega)]; rfl
  · have h := es_nltn 1 (by omega) h
    have h2 := es_ngtn 6 (by omega) h2
    rw [decide_eq_true (by omega)]; rfl
def es_stp (m r : Int32) : Bool := decide (1 ≤ m.toInt ∧ m.toInt ≤ 8 ∧ 0 ≤ r.toInt ∧ r.toInt < m.toInt)
theorem s_isStep (d : Nat) (m r : Int32) (μ : mz_M) : es_I (d + 1) n_ES_isStep [mz_I m, mz_I r] μ (fun x μ' => μ' = μ ∧ x = es_b (es_stp m r)) := by
  refine es_I.mk (w_ES_isStep_0 m r μ (es_br (fun h => ⟨Or.inl rfl, es_rI ⟨rfl, ?_⟩⟩) (fun h => es_br (fun h2 => ⟨Or.inl rfl, es_rI ⟨rfl, ?_⟩⟩) (fun h2 => es_br (fun h3 => ⟨Or.inl rfl, es_rI ⟨rfl, ?_⟩⟩) (fun h3 => es_br (fun h4 => ⟨Or.inl rfl, es_rI ⟨rfl, ?_⟩⟩) (fun h4 => ⟨Or.inr rfl, es_rI ⟨rfl, ?_⟩⟩))))))
  all_goals unfold es_stp
  · have h := (es_ltn 1 (by omega)).mp h
    rw [decide_eq_false (by omega)]; rfl
  · have h2 := (es_gtn 8 (by omega)).mp h2
    rw [decide_eq_false (by omega)]; rfl
  · have h3 := (es_ltn 0 (by omega)).mp h3
    rw [decide_eq_false (by omega)]; rfl
  · have h4 := es_hle h4
    rw [decide_eq_false (by omega)]; rfl
  · have h := es_nltn 1 (by omega) h
    have h2 := es_ngtn 8 (by omega) h2
    have h3 := es_nltn 0 (by omega) h3
    have h4 := es_nle h4
    rw [decide_eq_true (by omega)]; rfl
def es_kn (k x : Int32) : Bool := decide ((k.toInt = 0 ∧ x.toInt = 0) ∨ (1 ≤ k.toInt ∧ k.toInt ≤ 3 ∧ 1 ≤ x.toInt ∧ x.toInt ≤ 9) ∨ (k.toInt = 4 ∧ 0 ≤ x.toInt ∧ x.toInt ≤ 39))
theorem s_isKind (d : Nat) (k x : Int32) (μ : mz_M) : es_I (d + 1) n_ES_isKind [mz_I k, mz_I x] μ (fun r μ' => μ' = μ ∧ r = es_b (es_kn k x)) := by
  have mid : ∀ c : Nat, 1 ≤ c → c ≤ 3 → k = nI c → (if x < (1 : Int32) then
        (((0 : Int32) = 0 ∨ (0 : Int32) = 1) ∧ es_qI (fun r μ' => μ' = μ ∧ r = es_b (es_kn k x)) (some (mz_I 0)) μ)
      else
        (if (9 : Int32) < x then
          (((0 : Int32) = 0 ∨ (0 : Int32) = 1) ∧ es_qI (fun r μ' => μ' = μ ∧ r = es_b (es_kn k x)) (some (mz_I 0)) μ)
        else
          (((1 : Int32) = 0 ∨ (1 : Int32) = 1) ∧ es_qI (fun r μ' => μ' = μ ∧ r = es_b (es_kn k x)) (some (mz_I 1)) μ))) := by
    intro c h1 h2 hk
    have hk := (es_eqn c (by omega)).mp hk
    refine es_br (fun h => ⟨Or.inl rfl, es_rI ⟨rfl, ?_⟩⟩) (fun h => es_br (fun h2 => ⟨Or.inl rfl, es_rI ⟨rfl, ?_⟩⟩) (fun h2 => ⟨Or.inr rfl, es_rI ⟨rfl, ?_⟩⟩))
    all_goals unfold es_kn
    · have h := (es_ltn 1 (by omega)).mp h
      rw [decide_eq_false (by omega)]; rfl
    · have h2 := (es_gtn 9 (by omega)).mp h2
      rw [decide_eq_false (by omega)]; rfl
    · have h := es_nltn 1 (by omega) h
      have h2 := es_ngtn 9 (by omega) h2
      rw [decide_eq_true (by omega)]; rfl
  refine es_I.mk (w_ES_isKind_0 k x μ (es_br (fun h => es_br (fun h2 => ⟨Or.inr rfl, es_rI ⟨rfl, ?_⟩⟩) (fun h2 => ⟨Or.inl rfl, es_rI ⟨rfl, ?_⟩⟩)) (fun h0 => es_br (fun h => mid 1 (by omega) (by omega) h) (fun h1 => es_br (fun h => mid 2 (by omega) (by omega) h) (fun h2 => es_br (fun h => mid 3 (by omega) (by omega) h) (fun h3 => es_br (fun h => es_br (fun c => ⟨Or.inl rfl, es_rI ⟨rfl, ?_⟩⟩) (fun c => es_br (fun c2 => ⟨Or.inl rfl, es_rI ⟨rfl, ?_⟩⟩) (fun c2 => ⟨Or.inr rfl, es_rI ⟨rfl, ?_⟩⟩))) (fun h4 => ⟨Or.inl rfl, es_rI ⟨rfl, ?_⟩⟩)))))))
  all_goals unfold es_kn
  · have h := (es_eqn 0 (by omega)).mp h
    have h2 := (es_eqn 0 (by omega)).mp h2
    rw [decide_eq_true (by omega)]; rfl
  · have h := (es_eqn 0 (by omega)).mp h
    have h2 := es_neqn 0 (by omega) h2
    rw [decide_eq_false (by omega)]; rfl
  · have h := (es_eqn 4 (by omega)).mp h
    have c := (es_ltn 0 (by omega)).mp c
    rw [decide_eq_false (by omega)]; rfl
  · have h := (es_eqn 4 (by omega)).mp h
    have c2 := (es_gen 40 (by omega)).mp c2
    rw [decide_eq_false (by omega)]; rfl
  · have h := (es_eqn 4 (by omega)).mp h
    have c := es_nltn 0 (by omega) c
    have c2 := es_ngen 40 (by omega) c2
    rw [decide_eq_true (by omega)]; rfl
  · have h0 := es_neqn 0 (by omega) h0
    have h1 := es_neqn 1 (by omega) h1
    have h2 := es_neqn 2 (by omega) h2
    have h3 := es_neqn 3 (by omega) h3
    have h4 := es_neqn 4 (by omega) h4
    rw [decide_eq_false (by omega)]; rfl
/-- a change's number, as far as it doesn't hang on the series -/
def es_chk (a v : Int32) : Bool := decide ((a.toInt = 0 ∧ 0 ≤ v.toInt ∧ v.toInt ≤ 9) ∨ (a.toInt = 1 ∧ 1 ≤ v.toInt ∧ v.toInt ≤ 8) ∨ (a.toInt = 2 ∧ v.toInt = 0) ∨ (a.toInt = 3 ∧ 10 ≤ v.toInt ∧ v.toInt < 90 ∧ v.toInt % 10 < v.toInt / 10) ∨ (a.toInt = 4 ∧ 1 ≤ v.toInt) ∨ (a.toInt = 5 ∧ 0 ≤ v.toInt ∧ v.toInt ≤ 8) ∨ (a.toInt = 6 ∧ -99 ≤ v.toInt ∧ v.toInt ≤ 99))
theorem es_b01 (c : Bool) : es_b c = 0 ∨ es_b c = 1 := by cases c <;> simp [es_b]
set_option maxHeartbeats 1000000 in
theorem s_isChange (d : Nat) (a v : Int32) (μ : mz_M) : es_I (d + 2) n_ES_isChange [mz_I a, mz_I v] μ (fun r μ' => μ' = μ ∧ r = es_b (es_chk a v)) := by
  have rv := fb_rng v
  have m99 : (-99 : Int32).toInt = -99 := by decide +kernel
  refine es_I.mk (w_ES_isChange_0 a v μ (es_br (fun h => ?_) (fun h0 => es_br (fun h => ?_) (fun h1 => es_br (fun h => ?_) (fun h2 => es_br (fun h => ?_) (fun h3 => es_br (fun h => ?_) (fun h4 => es_br (fun h => ?_) (fun h5 => es_br (fun h => ?_) (fun h6 => ?_)))))))))
  · have h := (es_eqn 0 (by omega)).mp h
    refine ⟨_, _, es_pure (s_isWithin d v (m := 9) (by omega) μ), es_b01 _, es_rI ⟨rfl, ?_⟩⟩
    unfold es_chk
    congr 1
    exact decide_eq_decide.mpr (by omega)
  · have h := (es_eqn 1 (by omega)).mp h
    refine es_br (fun c => ⟨Or.inl rfl, es_rI ⟨rfl, ?_⟩⟩) (fun c => es_br (fun c2 => ⟨Or.inl rfl, es_rI ⟨rfl, ?_⟩⟩) (fun c2 => ⟨Or.inr rfl, es_rI ⟨rfl, ?_⟩⟩))
    all_goals unfold es_chk
    · have c := (es_ltn 1 (by omega)).mp c
      rw [decide_eq_false (by omega)]; rfl
    · have c2 := (es_gtn 8 (by omega)).mp c2
      rw [decide_eq_false (by omega)]; rfl
    · have c := es_nltn 1 (by omega) c
      have c2 := es_ngtn 8 (by omega) c2
      rw [decide_eq_true (by omega)]; rfl
  · have h := (es_eqn 2 (by omega)).mp h
    refine es_br (fun c => ⟨Or.inr rfl, es_rI ⟨rfl, ?_⟩⟩) (fun c => ⟨Or.inl rfl, es_rI ⟨rfl, ?_⟩⟩)
    all_goals unfold es_chk
    · have c := (es_eqn 0 (by omega)).mp c
      rw [decide_eq_true (by omega)]; rfl
    · have c := es_neqn 0 (by omega) c
      rw [decide_eq_false (by omega)]; rfl
  · have h := (es_eqn 3 (by omega)).mp h
    refine es_br (fun c => ⟨Or.inl rfl, es_rI ⟨rfl, ?_⟩⟩) (fun c => ⟨by decide +kernel, by decide +kernel, ?_⟩)
    · have c := (es_ltn 0 (by omega)).mp c
      unfold es_chk
      rw [decide_eq_false (by omega)]; rfl
    · have c := es_nltn 0 (by omega) c
      obtain ⟨w, hw, rfl⟩ : ∃ w : Nat, w < 2147483648 ∧ v = nI w := ⟨v.toInt.toNat, by omega, es_nIof (by omega)⟩
      have hwi : (nI w).toInt = w := nI_toInt (by omega)
      have d1 : (nI w / 10) = nI (w / 10) := pk_div (d := 10) (by omega) (by omega) (by omega)
      have d2 : (nI w - nI w / 10 * 10) = nI (w % 10) := pk_rem (d := 10) (by omega) (by omega) (by omega)
      rw [d2, d1]
      refine ⟨_, _, es_pure (s_isStep d _ _ μ), ?_⟩
      have e : es_stp (nI (w / 10)) (nI (w % 10)) = es_chk a (nI w) := by
        unfold es_stp es_chk
        rw [nI_toInt (by omega), nI_toInt (by omega), hwi]
        exact decide_eq_decide.mpr (by omega)
      rw [e]
      refine es_br (fun c => ⟨Or.inl rfl, es_rI ⟨rfl, c.symm⟩⟩) (fun c => ⟨Or.inr rfl, es_rI ⟨rfl, ?_⟩⟩)
      rcases es_b01 (es_chk a (nI w)) with z | z
      · exact absurd z c
      · exact z.symm
  · have h := (es_eqn 4 (by omega)).mp h
    refine es_br (fun c => ⟨Or.inl rfl, es_rI ⟨rfl, ?_⟩⟩) (fun c => ⟨Or.inr rfl, es_rI ⟨rfl, ?_⟩⟩)
    all_goals unfold es_chk
    · have c := (es_ltn 1 (by omega)).mp c
      rw [decide_eq_false (by omega)]; rfl
    · have c := es_nltn 1 (by omega) c
      rw [decide_eq_true (by omega)]; rfl
  · have h := (es_eqn 5 (by omega)).mp h
    refine ⟨_, _, es_pure (s_isWithin d v (m := 8) (by omega) μ), es_b01 _, es_rI ⟨rfl, ?_⟩⟩
    unfold es_chk
    congr 1
    exact decide_eq_decide.mpr (by omega)
  · have h := (es_eqn 6 (by omega)).mp h
    refine es_br (fun c => ⟨Or.inl rfl, es_rI ⟨rfl, ?_⟩⟩) (fun c => es_br (fun c2 => ⟨Or.inl rfl, es_rI ⟨rfl, ?_⟩⟩) (fun c2 => ⟨Or.inr rfl, es_rI ⟨rfl, ?_⟩⟩))
    all_goals unfold es_chk
    · have c := es_hlt c
      rw [m99] at c
      rw [decide_eq_false (by omega)]; rfl
    · have c2 := (es_gtn 99 (by omega)).mp c2
      rw [decide_eq_false (by omega)]; rfl
    · have c := es_nlt c
      rw [m99] at c
      have c2 := es_ngtn 99 (by omega) c2
      rw [decide_eq_true (by omega)]; rfl
  · have h0 := es_neqn 0 (by omega) h0
    have h1 := es_neqn 1 (by omega) h1
    have h2 := es_neqn 2 (by omega) h2
    have h3 := es_neqn 3 (by omega) h3
    have h4 := es_neqn 4 (by omega) h4
    have h5 := es_neqn 5 (by omega) h5
    have h6 := es_neqn 6 (by omega) h6
    refine ⟨Or.inl rfl, es_rI ⟨rfl, ?_⟩⟩
    unfold es_chk
    rw [decide_eq_false (by omega)]; rfl
end
section
/-! The class as a whole: what its state is, and its acts on series. -/
/-- now, the past, the image, the tape, why it broke, the sheets -/
abbrev es_A : Type := es_Sn × List es_Sn × Option (es_Sn × List es_Sn) × List Nat × (Int32 × Int32) × (Nat → es_L)
def es_tp (μ : mz_M) (T : List Nat) : Prop := T.length ≤ 60 ∧ μ.1 145 1 = nI T.length ∧ ∀ k, k < T.length → μ.1 146 k = nI (T.getD k 0) ∧ 32 ≤ T.getD k 0 ∧ T.getD k 0 ≤ 126
def es_im (μ : mz_M) (K : Option (es_Sn × List es_Sn)) : Prop := match K with
  | none => μ.1 0 4 = 0
  | some q => μ.1 0 4 = 1 ∧ es_sh μ 73 q.1 ∧ es_ps μ 83 q.2
def es_C (μ : mz_M) (A : es_A) : Prop := es_sh μ 1 A.1 ∧ es_ps μ 11 A.2.1 ∧ es_im μ A.2.2.1 ∧ es_tp μ A.2.2.2.1 ∧ (μ.1 149 8 = A.2.2.2.2.1.1 ∧ μ.1 149 9 = A.2.2.2.2.1.2) ∧ ∀ k, k < 4 → es_lf μ (204 + 2 * k) (A.2.2.2.2.2 k)
def es_ans (o : Int32 × es_A) (r : Int32) (μ : mz_M) : Prop := r = o.1 ∧ es_C μ o.2
theorem es_im.kept {T : Nat → Prop} {μ μ' : mz_M} {K : Option (es_Sn × List es_Sn)} (h : es_im μ K) (hf : es_fr T μ μ') (h0 : ¬ T 0) (ht : ∀ z, 73 ≤ z → z < 145 → ¬ T z) : es_im μ' K := by
  cases K with
  | none =>
    show μ'.1 0 4 = 0
    rw [(hf 0 h0).1]; exact h
  | some q =>
    obtain ⟨a, b, c⟩ := h
    exact ⟨by rw [(hf 0 h0).1]; exact a, b.kept hf (fun z z1 z2 => ht z (by omega) (by omega)), c.kept hf (fun z z1 z2 => ht z (by omega) (by omega))⟩
theorem es_tp.kept {T : Nat → Prop} {μ μ' : mz_M} {K : List Nat} (h : es_tp μ K) (hf : es_fr T μ μ') (h1 : ¬ T 145) (h2 : ¬ T 146) : es_tp μ' K := by
  obtain ⟨a, b, c⟩ := h
  exact ⟨a, by rw [(hf 145 h1).1]; exact b, fun k hk => by rw [(hf 146 h2).1]; exact c k hk⟩
/-- now, the past, and what is only for work -/
def es_wk : Nat → Prop := fun z => (1 ≤ z ∧ z < 73) ∨ (150 ≤ z ∧ z < 204)
theorem es_C.chg {μ μ' : mz_M} {A : es_A} {S : es_Sn} {U : List es_Sn} (h : es_C μ A) (hf : es_fr es_wk μ μ') (h1 : es_sh μ' 1 S) (h2 : es_ps μ' 11 U) : es_C μ' (S, U, A.2.2) := by
  obtain ⟨-, -, a3, a4, a5, a6⟩ := h
  have hn : ∀ z, ((z < 1 ∨ 73 ≤ z) ∧ (z < 150 ∨ 204 ≤ z)) → ¬ es_wk z := fun z hz c => by unfold es_wk at c; omega
  refine ⟨h1, h2, a3.kept hf (hn 0 (by omega)) (fun z z1 z2 => hn z (by omega)), a4.kept hf (hn _ (by omega)) (hn _ (by omega)), ?_, fun k hk => (a6 k hk).kept hf (hn _ (by omega)) (hn _ (by omega))⟩
  show μ'.1 149 8 = _ ∧ μ'.1 149 9 = _
  rw [(hf 149 (hn _ (by omega))).1]
  exact a5
theorem es_C.scr {μ μ' : mz_M} {A : es_A} (h : es_C μ A) (hf : es_fr (fun z => 150 ≤ z ∧ z < 204) μ μ') : es_C μ' A :=
  h.chg (hf.mono (fun z hz => Or.inr hz)) (h.1.kept hf (fun z a b c => by omega)) (h.2.1.kept hf (fun z a b c => by omega))
/-- a series becomes a list -/
def es_kp (A : es_A) (s : Nat) (l : List Int) : es_A := (es_sr A.1 s l, (A.1 :: A.2.1).take 6, A.2.2)
theorem es_sr_sh {μ μ' : mz_M} {q s : Nat} {S : es_Sn} {l : List Int} (h : es_sh μ q S) (hs : s < 4) (hf : es_fr (es_2 (q + 1 + 1 + 2 * s)) μ μ') (hr : es_row μ' (q + 1 + 1 + 2 * s) l) : es_sh μ' q (es_sr S s l) := by
  obtain ⟨a, b, c, e⟩ := h
  refine ⟨fun k hk => ?_, ?_, ?_, e⟩
  · show es_row μ' _ (if k = s then l else S.1 k)
    by_cases z : k = s
    · rw [if_pos z, z]; exact hr
    · rw [if_neg z]
      exact (a k hk).kept hf (by unfold es_2; omega) (by unfold es_2; omega)
  · rw [(hf q (by unfold es_2; omega)).1]; exact b
  · rw [(hf q (by unfold es_2; omega)).1]; exact c
theorem s_settle (d : Nat) {x : Int32} {p : Nat} {μ : mz_M} {A : es_A} {l : List Int} (h : es_C μ A) (hr : es_row μ p l) (hp : 150 ≤ p) (hp2 : p + 1 < 204) (h0 : 0 ≤ x.toInt) (h4 : x.toInt < 4) : es_I (d + 4) n_ES_settle [mz_R 0 0, mz_I x, mz_R 3 p] μ (es_ans (nI l.length, es_kp A x.toInt.toNat l)) := by
  refine es_I.mk (w_ES_settle_0 0 x p μ ?_)
  obtain ⟨μ1, hC, hf1, hu⟩ := s_remember d (P := 11) (q := 1) h.2.1 h.1 (by omega)
  refine ⟨_, hC, es_in h0 h4, ?_⟩
  have hr1 := hr.kept hf1 (by unfold es_bk; omega) (by unfold es_bk; omega)
  have hn1 := h.1.kept hf1 (fun z a b c => by unfold es_bk at c; omega)
  obtain ⟨μ2, hD, hf2, hr2⟩ := s_take (d + 2) (p := 3 + 2 * x.toInt.toNat) hr1 (by unfold es_sep; omega)
  refine ⟨_, hD, es_rI ⟨?_, ?_⟩⟩
  · show μ2.1 p 1 = nI l.length
    rw [(hf2 p (by unfold es_2; omega)).1]
    exact hr1.2.1
  · refine h.chg (hf1.mono (fun z hz => ?_) |>.tr (hf2.mono (fun z hz => ?_))) (es_sr_sh hn1 (by omega) hf2 hr2) (hu.kept hf2 (fun z a b c => ?_))
    · unfold es_bk at hz; unfold es_wk; omega
    · unfold es_2 at hz; unfold es_wk; omega
    · unfold es_2 at c; omega
theorem es_bt {P : Prop} [Decidable P] (h : ¬ es_b (decide P) = 0) : P := by
  rw [es_b_0] at h
  exact of_decide_eq_true (Bool.of_not_eq_false h)
theorem es_bf {P : Prop} [Decidable P] (h : es_b (decide P) = 0) : ¬ P := by
  rw [es_b_0] at h
  exact of_decide_eq_false h
def es_4ok (x : Int32) : Bool := decide (0 ≤ x.toInt ∧ x.toInt < 4)
def es_sl (A : es_A) (x : Int32) : List Int := A.1.1 x.toInt.toNat
theorem es_C.row {μ : mz_M} {A : es_A} (h : es_C μ A) {x : Int32} (h0 : 0 ≤ x.toInt) (h4 : x.toInt < 4) : es_row μ (3 + 2 * x.toInt.toNat) (es_sl A x) := h.1.1 x.toInt.toNat (by omega)
def es_make (A : es_A) (s k x : Int32) : Int32 × es_A := if es_4ok s = true then (if es_kn k x = true then (nI A.1.2.1, es_kp A s.toInt.toNat (es_kd k.toInt.toNat x.toInt.toNat A.1.2.1)) else (-1000001, A)) else (-1000001, A)
theorem c_make (d : Nat) {μ : mz_M} {A : es_A} (h : es_C μ A) (s k x : Int32) : es_I (d + 5) n_ES_make [mz_R 0 0, mz_I s, mz_I k, mz_I x] μ (es_ans (es_make A s k x)) := by
  refine es_I.mk (w_ES_make_0 0 s k x μ ?_)
  refine ⟨_, _, es_pure (s_isFour (d + 3) s μ), es_br (fun q => es_rI ?_) (fun q => ?_)⟩
  · have : es_4ok s = false := es_b_0.mp q
    unfold es_make
    rw [this]
    exact ⟨rfl, h⟩
  have q1 := es_bt q
  have qt : es_4ok s = true := decide_eq_true q1
  refine ⟨_, _, es_pure (s_isKind (d + 3) k x μ), es_br (fun q2 => es_rI ?_) (fun q2 => ?_)⟩
  · unfold es_make
    rw [qt, es_b_0.mp q2]
    exact ⟨rfl, h⟩
  have k1 : es_kn k x = true := Bool.of_not_eq_false (fun z => q2 (es_b_0.mpr z))
  have k2 := of_decide_eq_true k1
  obtain ⟨hr, hs1, hs2, hs3⟩ := h.1
  obtain ⟨kn, hkn, rfl⟩ : ∃ kn : Nat, kn ≤ 4 ∧ k = nI kn := ⟨k.toInt.toNat, by omega, es_nIof (by omega)⟩
  obtain ⟨xn, hxn, rfl⟩ : ∃ xn : Nat, xn ≤ 39 ∧ x = nI xn := ⟨x.toInt.toNat, by omega, es_nIof (by omega)⟩
  rw [hs1]
  obtain ⟨μ1, hC, hf1, hr1⟩ := s_become (d + 1) (p := 200) hkn hxn hs3.2.1 (by omega) μ
  refine ⟨_, hC, ?_⟩
  have h1 : es_C μ1 A := h.scr (hf1.mono (fun z hz => by unfold es_2 at hz; omega))
  obtain ⟨r, μ2, hD, he, hc⟩ := s_settle d h1 hr1 (by omega) (by omega) q1.1 q1.2
  refine ⟨_, _, hD, es_rI ?_⟩
  unfold es_make
  rw [qt, k1, nI_toInt (by omega), nI_toInt (by omega)]
  refine ⟨he.trans ?_, hc⟩
  show nI (es_kd kn xn A.1.2.1).length = nI A.1.2.1
  unfold es_kd
  rw [es_ls_len]
/-- a change of series: a refusal, or a list -/
abbrev es_RL : Type := Int32 ⊕ List Int
def es_wr (n : Nat) (f : Nat → Int) : es_RL := if es_wd f n = true then .inl (-1000005) else .inr (es_ls n f)
def es_jr (act : Nat) (l1 l2 : List Int) : es_RL :=
  if act = 0 then es_wr (min l1.length l2.length) (fun k => l1.getD k 0 + l2.getD k 0)
  else if act = 1 then es_wr (min l1.length l2.length) (fun k => l1.getD k 0 - l2.getD k 0)
  else if act = 2 then es_wr (min l1.length l2.length) (es_cv (fun k => l1.getD k 0) (fun k => l2.getD k 0))
  else if l2.getD 0 0 = 1 ∨ l2.getD 0 0 = -1 then es_wr (min l1.length l2.length) (es_qf (fun k => l1.getD k 0) (fun k => l2.getD k 0) (l2.getD 0 0))
  else .inl (-1000006)
/-- what a row is when it has become o -/
def es_got (S : Nat → Prop) (p : Nat) (o : es_RL) (μ : mz_M) (r : Int32) (μ' : mz_M) : Prop := es_fr S μ μ' ∧ match o with
  | .inl c => r = c ∧ c ≠ 0
  | .inr l => r = 0 ∧ es_row μ' p l
theorem es_res.got {p n : Nat} {f : Nat → Int} {μ μ' : mz_M} {r : Int32} (h : es_res p n f μ r μ') : es_got (es_2 p) p (es_wr n f) μ r μ' := by
  obtain ⟨h1, h2⟩ := h
  unfold es_wr
  rcases h2 with ⟨a, b⟩ | ⟨a, b, c⟩
  · rw [if_pos a]
    exact ⟨h1, b, by decide +kernel⟩
  · rw [if_neg (by rw [a]; decide)]
    exact ⟨h1, b, c⟩
theorem es_jn.got {p a : Nat} {l1 l2 : List Int} {μ μ' : mz_M} {r : Int32} (ha : a < 4) (h : es_jn p (nI a) l1 l2 μ r μ') : es_got (es_2 p) p (es_jr a l1 l2) μ r μ' := by
  have aq : ∀ c : Nat, c < 10 → (nI a = nI c ↔ a = c) := fun c hc => nI_eq (by omega) (by omega)
  unfold es_jn at h
  unfold es_jr
  by_cases e0 : a = 0
  · rw [if_pos e0]
    exact (mz_ite_t h ((aq 0 (by omega)).mpr e0)).got
  · have h := mz_ite_f h (fun z => e0 ((aq 0 (by omega)).mp z))
    rw [if_neg e0]
    by_cases e1 : a = 1
    · rw [if_pos e1]
      exact (mz_ite_t h ((aq 1 (by omega)).mpr e1)).got
    · have h := mz_ite_f h (fun z => e1 ((aq 1 (by omega)).mp z))
      rw [if_neg e1]
      by_cases e2 : a = 2
      · rw [if_pos e2]
        exact (mz_ite_t h ((aq 2 (by omega)).mpr e2)).got
      · have h := mz_ite_f h (fun z => e2 ((aq 2 (by omega)).mp z))
        rw [if_neg e2]
        rcases h with ⟨c1, c2, c3⟩ | ⟨c1, c2⟩
        · rw [if_neg c1, c3]
          exact ⟨es_fr.rf, c2, by decide +kernel⟩
        · rw [if_pos c1]
          exact c2.got
/-- the answer to what became o, put at s -/
def es_out (A : es_A) (s : Nat) (o : es_RL) : Int32 × es_A := match o with
  | .inl c => (c, A)
  | .inr l => (nI l.length, es_kp A s l)
/-- what became o in a row for work is put in its place -/
theorem s_fin (d : Nat) {x : Int32} {p : Nat} {S : Nat → Prop} {μ0 μ : mz_M} {A : es_A} {o : es_RL} {r : Int32} (h : es_C μ0 A) (hg : es_got S p o μ0 r μ) (hS : ∀ z, S z → 150 ≤ z ∧ z < 204) (hp : 150 ≤ p) (hp2 : p + 1 < 204) (h0 : 0 ≤ x.toInt) (h4 : x.toInt < 4) :
    if r = 0 then (∃ (r16 : Int32) (μ15 : mz_M), es_R (d + 4) n_ES_settle [mz_R 0 0, mz_I x, mz_R 3 p] μ (some (mz_I r16)) μ15 ∧ es_qI (es_ans (es_out A x.toInt.toNat o)) (some (mz_I r16)) μ15) else es_qI (es_ans (es_out A x.toInt.toNat o)) (some (mz_I r)) μ := by
  obtain ⟨hf, hm⟩ := hg
  have h1 := h.scr (hf.mono hS)
  cases o with
  | inl c =>
    refine es_f (by rw [hm.1]; exact hm.2) (es_rI ⟨hm.1, h1⟩)
  | inr l =>
    refine es_t hm.1 ?_
    obtain ⟨r2, μ2, hD, he⟩ := s_settle d h1 hm.2 hp hp2 h0 h4
    exact ⟨_, _, hD, es_rI he⟩
def es_join (A : es_A) (s act a b : Int32) : Int32 × es_A :=
  if es_4ok s = true ∧ es_4ok act = true ∧ es_4ok a = true ∧ es_4ok b = true then
    (if es_sl A a = [] ∨ es_sl A b = [] then (-1000011, A) else es_out A s.toInt.toNat (es_jr act.toInt.toNat (es_sl A a) (es_sl A b)))
  else (-1000001, A)
theorem c_join (d : Nat) {μ : mz_M} {A : es_A} (h : es_C μ A) (s act a b : Int32) : es_I (d + 5) n_ES_join [mz_R 0 0, mz_I s, mz_I act, mz_I a, mz_I b] μ (es_ans (es_join A s act a b)) := by
  refine es_I.mk (w_ES_join_0 0 s act a b μ ?_)
  have bad : ¬ (es_4ok s = true ∧ es_4ok act = true ∧ es_4ok a = true ∧ es_4ok b = true) → es_qI (es_ans (es_join A s act a b)) (some (mz_I (-1000001))) μ := by
    intro z
    unfold es_join
    rw [if_neg z]
    exact es_rI ⟨rfl, h⟩
  refine ⟨_, _, es_pure (s_isFour (d + 3) s μ), es_br (fun q => bad (fun z => es_bf q (of_decide_eq_true z.1))) (fun q => ?_)⟩
  refine ⟨_, _, es_pure (s_isFour (d + 3) act μ), es_br (fun q => bad (fun z => es_bf q (of_decide_eq_true z.2.1))) (fun q2 => ?_)⟩
  refine ⟨_, _, es_pure (s_isFour (d + 3) a μ), es_br (fun q => bad (fun z => es_bf q (of_decide_eq_true z.2.2.1))) (fun q3 => ?_)⟩
  refine ⟨_, _, es_pure (s_isFour (d + 3) b μ), es_br (fun q => bad (fun z => es_bf q (of_decide_eq_true z.2.2.2))) (fun q4 => ?_)⟩
  have b1 := es_bt q
  have b2 := es_bt q2
  have b3 := es_bt q3
  have b4 := es_bt q4
  have hall : es_4ok s = true ∧ es_4ok act = true ∧ es_4ok a = true ∧ es_4ok b = true := ⟨decide_eq_true b1, decide_eq_true b2, decide_eq_true b3, decide_eq_true b4⟩
  unfold es_join
  rw [if_pos hall]
  refine ⟨_, _, es_pure (s_missing (d + 2) h.1 b3.1 b3.2), es_br (fun q5 => ?_) (fun q5 => es_rI ?_)⟩
  · have q5 := es_bf q5
    refine ⟨_, _, es_pure (s_missing (d + 2) h.1 b4.1 b4.2), es_br (fun q6 => ⟨es_in b3.1 b3.2, es_in b4.1 b4.2, ?_⟩) (fun q6 => es_rI ?_)⟩
    · have q6 := es_bf q6
      obtain ⟨an, han, rfl⟩ : ∃ an : Nat, an < 4 ∧ act = nI an := ⟨act.toInt.toNat, by omega, es_nIof b2.1⟩
      obtain ⟨r, μ1, hC, hj⟩ := s_joined d (p := 200) (act := nI an) (h.row b3.1 b3.2) (h.row b4.1 b4.2) (by unfold es_sep; omega) (by unfold es_sep; omega)
      refine ⟨_, _, hC, ?_⟩
      rw [if_neg (show ¬ (es_sl A a = [] ∨ es_sl A b = []) from fun z => z.elim q5 q6), nI_toInt (by omega)]
      exact s_fin d h (es_jn.got han hj) (fun z hz => by unfold es_2 at hz; omega) (by omega) (by omega) b1.1 b1.2
    · have q6 := es_bt q6
      rw [if_pos (show es_sl A a = [] ∨ es_sl A b = [] from Or.inr q6)]
      exact ⟨rfl, h⟩
  · have q5 := es_bt q5
    rw [if_pos (show es_sl A a = [] ∨ es_sl A b = [] from Or.inl q5)]
    exact ⟨rfl, h⟩
end
