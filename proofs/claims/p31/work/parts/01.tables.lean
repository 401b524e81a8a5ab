-- ===== PART A: goes FIRST, ahead of the names: the tables' words, and 'selects' of the private methods out of them =====
/-- a private method of a class that the tables say can be made, by its rows of tables_1 -/
def lw_okq (q : MethodName × Nat) : Prop := (q.1.cls ≠ "java/lang/invoke/MethodHandle" ∧ q.1.cls ≠ "java/lang/invoke/VarHandle") ∧ Cond.instantiable q.1.cls q.2 ∈ tables_1 ∧ Cond.privateMethod q.1 ∈ tables_1 ∧ Cond.instanceMethod q.1 ∈ tables_1
theorem lw_p0 : lw_okq (⟨"LateSessions", "putSign", "(I)V"⟩, 13) := ⟨⟨by decide +kernel, by decide +kernel⟩, List.mem_of_getElem? (i := 17) (by decide +kernel), List.mem_of_getElem? (i := 187) (by decide +kernel), List.mem_of_getElem? (i := 188) (by decide +kernel)⟩
theorem lw_p1 : lw_okq (⟨"LateSessions", "remember", "()V"⟩, 13) := ⟨⟨by decide +kernel, by decide +kernel⟩, List.mem_of_getElem? (i := 17) (by decide +kernel), List.mem_of_getElem? (i := 202) (by decide +kernel), List.mem_of_getElem? (i := 203) (by decide +kernel)⟩
theorem lw_p2 : lw_okq (⟨"LateSessions", "isSource", "(I)Z"⟩, 13) := ⟨⟨by decide +kernel, by decide +kernel⟩, List.mem_of_getElem? (i := 17) (by decide +kernel), List.mem_of_getElem? (i := 222) (by decide +kernel), List.mem_of_getElem? (i := 223) (by decide +kernel)⟩
theorem lw_p3 : lw_okq (⟨"LateSessions", "eventRefusal", "(IIII)I"⟩, 13) := ⟨⟨by decide +kernel, by decide +kernel⟩, List.mem_of_getElem? (i := 17) (by decide +kernel), List.mem_of_getElem? (i := 235) (by decide +kernel), List.mem_of_getElem? (i := 236) (by decide +kernel)⟩
theorem lw_p4 : lw_okq (⟨"LateSessions", "isEvent", "(IIII)Z"⟩, 13) := ⟨⟨by decide +kernel, by decide +kernel⟩, List.mem_of_getElem? (i := 17) (by decide +kernel), List.mem_of_getElem? (i := 239) (by decide +kernel), List.mem_of_getElem? (i := 240) (by decide +kernel)⟩
theorem lw_p5 : lw_okq (⟨"LateSessions", "inputRefusal", "()I"⟩, 13) := ⟨⟨by decide +kernel, by decide +kernel⟩, List.mem_of_getElem? (i := 17) (by decide +kernel), List.mem_of_getElem? (i := 249) (by decide +kernel), List.mem_of_getElem? (i := 250) (by decide +kernel)⟩
theorem lw_p6 : lw_okq (⟨"LateSessions$World", "note", "(III)V"⟩, 16) := ⟨⟨by decide +kernel, by decide +kernel⟩, List.mem_of_getElem? (i := 25) (by decide +kernel), List.mem_of_getElem? (i := 258) (by decide +kernel), List.mem_of_getElem? (i := 259) (by decide +kernel)⟩
theorem lw_p7 : lw_okq (⟨"LateSessions$World", "melt", "(III)V"⟩, 16) := ⟨⟨by decide +kernel, by decide +kernel⟩, List.mem_of_getElem? (i := 25) (by decide +kernel), List.mem_of_getElem? (i := 274) (by decide +kernel), List.mem_of_getElem? (i := 275) (by decide +kernel)⟩
theorem lw_p8 : lw_okq (⟨"LateSessions$World", "touches", "(III)Z"⟩, 16) := ⟨⟨by decide +kernel, by decide +kernel⟩, List.mem_of_getElem? (i := 25) (by decide +kernel), List.mem_of_getElem? (i := 282) (by decide +kernel), List.mem_of_getElem? (i := 283) (by decide +kernel)⟩
theorem lw_p9 : lw_okq (⟨"LateSessions$World", "placeFor", "(II)I"⟩, 16) := ⟨⟨by decide +kernel, by decide +kernel⟩, List.mem_of_getElem? (i := 25) (by decide +kernel), List.mem_of_getElem? (i := 291) (by decide +kernel), List.mem_of_getElem? (i := 292) (by decide +kernel)⟩
theorem lw_p10 : lw_okq (⟨"LateSessions$World", "takeBack", "(I)V"⟩, 16) := ⟨⟨by decide +kernel, by decide +kernel⟩, List.mem_of_getElem? (i := 25) (by decide +kernel), List.mem_of_getElem? (i := 295) (by decide +kernel), List.mem_of_getElem? (i := 296) (by decide +kernel)⟩
theorem lw_p11 : lw_okq (⟨"LateSessions$World", "send", "(II)V"⟩, 16) := ⟨⟨by decide +kernel, by decide +kernel⟩, List.mem_of_getElem? (i := 25) (by decide +kernel), List.mem_of_getElem? (i := 303) (by decide +kernel), List.mem_of_getElem? (i := 304) (by decide +kernel)⟩
theorem lw_p12 : lw_okq (⟨"LateSessions$World", "swallowNext", "(I)V"⟩, 16) := ⟨⟨by decide +kernel, by decide +kernel⟩, List.mem_of_getElem? (i := 25) (by decide +kernel), List.mem_of_getElem? (i := 311) (by decide +kernel), List.mem_of_getElem? (i := 312) (by decide +kernel)⟩
theorem lw_p13 : lw_okq (⟨"LateSessions$World", "kindOfNew", "(I)I"⟩, 16) := ⟨⟨by decide +kernel, by decide +kernel⟩, List.mem_of_getElem? (i := 25) (by decide +kernel), List.mem_of_getElem? (i := 320) (by decide +kernel), List.mem_of_getElem? (i := 321) (by decide +kernel)⟩
theorem lw_p14 : lw_okq (⟨"LateSessions$World", "announce", "(II)V"⟩, 16) := ⟨⟨by decide +kernel, by decide +kernel⟩, List.mem_of_getElem? (i := 25) (by decide +kernel), List.mem_of_getElem? (i := 328) (by decide +kernel), List.mem_of_getElem? (i := 329) (by decide +kernel)⟩
theorem lw_p15 : lw_okq (⟨"LateSessions$World", "raiseMark", "(II)V"⟩, 16) := ⟨⟨by decide +kernel, by decide +kernel⟩, List.mem_of_getElem? (i := 25) (by decide +kernel), List.mem_of_getElem? (i := 332) (by decide +kernel), List.mem_of_getElem? (i := 333) (by decide +kernel)⟩
def lw_privs_1 : List (MethodName × Nat) := [(⟨"LateSessions", "putSign", "(I)V"⟩, 13), (⟨"LateSessions", "remember", "()V"⟩, 13), (⟨"LateSessions", "isSource", "(I)Z"⟩, 13), (⟨"LateSessions", "eventRefusal", "(IIII)I"⟩, 13), (⟨"LateSessions", "isEvent", "(IIII)Z"⟩, 13), (⟨"LateSessions", "inputRefusal", "()I"⟩, 13), (⟨"LateSessions$World", "note", "(III)V"⟩, 16), (⟨"LateSessions$World", "melt", "(III)V"⟩, 16), (⟨"LateSessions$World", "touches", "(III)Z"⟩, 16), (⟨"LateSessions$World", "placeFor", "(II)I"⟩, 16), (⟨"LateSessions$World", "takeBack", "(I)V"⟩, 16), (⟨"LateSessions$World", "send", "(II)V"⟩, 16), (⟨"LateSessions$World", "swallowNext", "(I)V"⟩, 16), (⟨"LateSessions$World", "kindOfNew", "(I)I"⟩, 16), (⟨"LateSessions$World", "announce", "(II)V"⟩, 16), (⟨"LateSessions$World", "raiseMark", "(II)V"⟩, 16)]
theorem lw_r1 : ∀ q ∈ lw_privs_1, lw_okq q := List.forall_mem_cons.mpr ⟨lw_p0, List.forall_mem_cons.mpr ⟨lw_p1, List.forall_mem_cons.mpr ⟨lw_p2, List.forall_mem_cons.mpr ⟨lw_p3, List.forall_mem_cons.mpr ⟨lw_p4, List.forall_mem_cons.mpr ⟨lw_p5, List.forall_mem_cons.mpr ⟨lw_p6, List.forall_mem_cons.mpr ⟨lw_p7, List.forall_mem_cons.mpr ⟨lw_p8, List.forall_mem_cons.mpr ⟨lw_p9, List.forall_mem_cons.mpr ⟨lw_p10, List.forall_mem_cons.mpr ⟨lw_p11, List.forall_mem_cons.mpr ⟨lw_p12, List.forall_mem_cons.mpr ⟨lw_p13, List.forall_mem_cons.mpr ⟨lw_p14, List.forall_mem_cons.mpr ⟨lw_p15, fun _ h => absurd h List.not_mem_nil⟩⟩⟩⟩⟩⟩⟩⟩⟩⟩⟩⟩⟩⟩⟩⟩
theorem lw_p16 : lw_okq (⟨"LateSessions$World", "rise", "()V"⟩, 16) := ⟨⟨by decide +kernel, by decide +kernel⟩, List.mem_of_getElem? (i := 25) (by decide +kernel), List.mem_of_getElem? (i := 336) (by decide +kernel), List.mem_of_getElem? (i := 337) (by decide +kernel)⟩
theorem lw_p17 : lw_okq (⟨"LateSessions$World", "dueBehind", "(II)I"⟩, 16) := ⟨⟨by decide +kernel, by decide +kernel⟩, List.mem_of_getElem? (i := 25) (by decide +kernel), List.mem_of_getElem? (i := 344) (by decide +kernel), List.mem_of_getElem? (i := 345) (by decide +kernel)⟩
theorem lw_p18 : lw_okq (⟨"LateSessions$World", "turnOf", "(I)I"⟩, 16) := ⟨⟨by decide +kernel, by decide +kernel⟩, List.mem_of_getElem? (i := 25) (by decide +kernel), List.mem_of_getElem? (i := 352) (by decide +kernel), List.mem_of_getElem? (i := 353) (by decide +kernel)⟩
theorem lw_p19 : lw_okq (⟨"LateSessions$World", "finish", "(I)V"⟩, 16) := ⟨⟨by decide +kernel, by decide +kernel⟩, List.mem_of_getElem? (i := 25) (by decide +kernel), List.mem_of_getElem? (i := 356) (by decide +kernel), List.mem_of_getElem? (i := 357) (by decide +kernel)⟩
theorem lw_p20 : lw_okq (⟨"LateSessions", "tellTwo", "(JJ)V"⟩, 13) := ⟨⟨by decide +kernel, by decide +kernel⟩, List.mem_of_getElem? (i := 17) (by decide +kernel), List.mem_of_getElem? (i := 365) (by decide +kernel), List.mem_of_getElem? (i := 366) (by decide +kernel)⟩
theorem lw_p21 : lw_okq (⟨"LateSessions", "tellOne", "(J)V"⟩, 13) := ⟨⟨by decide +kernel, by decide +kernel⟩, List.mem_of_getElem? (i := 17) (by decide +kernel), List.mem_of_getElem? (i := 369) (by decide +kernel), List.mem_of_getElem? (i := 370) (by decide +kernel)⟩
theorem lw_p22 : lw_okq (⟨"LateSessions", "tellNothing", "()V"⟩, 13) := ⟨⟨by decide +kernel, by decide +kernel⟩, List.mem_of_getElem? (i := 17) (by decide +kernel), List.mem_of_getElem? (i := 373) (by decide +kernel), List.mem_of_getElem? (i := 374) (by decide +kernel)⟩
theorem lw_p23 : lw_okq (⟨"LateSessions", "tellMore", "(J)V"⟩, 13) := ⟨⟨by decide +kernel, by decide +kernel⟩, List.mem_of_getElem? (i := 17) (by decide +kernel), List.mem_of_getElem? (i := 377) (by decide +kernel), List.mem_of_getElem? (i := 378) (by decide +kernel)⟩
theorem lw_p24 : lw_okq (⟨"LateSessions", "takeText", "()I"⟩, 13) := ⟨⟨by decide +kernel, by decide +kernel⟩, List.mem_of_getElem? (i := 17) (by decide +kernel), List.mem_of_getElem? (i := 385) (by decide +kernel), List.mem_of_getElem? (i := 386) (by decide +kernel)⟩
theorem lw_p25 : lw_okq (⟨"LateSessions", "eventsMisfit", "(I)I"⟩, 13) := ⟨⟨by decide +kernel, by decide +kernel⟩, List.mem_of_getElem? (i := 17) (by decide +kernel), List.mem_of_getElem? (i := 389) (by decide +kernel), List.mem_of_getElem? (i := 390) (by decide +kernel)⟩
theorem lw_p26 : lw_okq (⟨"LateSessions", "formMisfit", "(IILjava/lang/String;)I"⟩, 13) := ⟨⟨by decide +kernel, by decide +kernel⟩, List.mem_of_getElem? (i := 17) (by decide +kernel), List.mem_of_getElem? (i := 394) (by decide +kernel), List.mem_of_getElem? (i := 395) (by decide +kernel)⟩
theorem lw_p27 : lw_okq (⟨"LateSessions", "signAt", "(I)I"⟩, 13) := ⟨⟨by decide +kernel, by decide +kernel⟩, List.mem_of_getElem? (i := 17) (by decide +kernel), List.mem_of_getElem? (i := 408) (by decide +kernel), List.mem_of_getElem? (i := 409) (by decide +kernel)⟩
theorem lw_p28 : lw_okq (⟨"LateSessions", "fits", "(IC)Z"⟩, 13) := ⟨⟨by decide +kernel, by decide +kernel⟩, List.mem_of_getElem? (i := 17) (by decide +kernel), List.mem_of_getElem? (i := 450) (by decide +kernel), List.mem_of_getElem? (i := 451) (by decide +kernel)⟩
theorem lw_p29 : lw_okq (⟨"LateSessions", "comeEventAt", "(I)I"⟩, 13) := ⟨⟨by decide +kernel, by decide +kernel⟩, List.mem_of_getElem? (i := 17) (by decide +kernel), List.mem_of_getElem? (i := 454) (by decide +kernel), List.mem_of_getElem? (i := 455) (by decide +kernel)⟩
theorem lw_p30 : lw_okq (⟨"LateSessions", "keyAt", "(I)I"⟩, 13) := ⟨⟨by decide +kernel, by decide +kernel⟩, List.mem_of_getElem? (i := 17) (by decide +kernel), List.mem_of_getElem? (i := 458) (by decide +kernel), List.mem_of_getElem? (i := 459) (by decide +kernel)⟩
theorem lw_p31 : lw_okq (⟨"LateSessions", "numberAt", "(II)I"⟩, 13) := ⟨⟨by decide +kernel, by decide +kernel⟩, List.mem_of_getElem? (i := 17) (by decide +kernel), List.mem_of_getElem? (i := 462) (by decide +kernel), List.mem_of_getElem? (i := 463) (by decide +kernel)⟩
def lw_privs_2 : List (MethodName × Nat) := [(⟨"LateSessions$World", "rise", "()V"⟩, 16), (⟨"LateSessions$World", "dueBehind", "(II)I"⟩, 16), (⟨"LateSessions$World", "turnOf", "(I)I"⟩, 16), (⟨"LateSessions$World", "finish", "(I)V"⟩, 16), (⟨"LateSessions", "tellTwo", "(JJ)V"⟩, 13), (⟨"LateSessions", "tellOne", "(J)V"⟩, 13), (⟨"LateSessions", "tellNothing", "()V"⟩, 13), (⟨"LateSessions", "tellMore", "(J)V"⟩, 13), (⟨"LateSessions", "takeText", "()I"⟩, 13), (⟨"LateSessions", "eventsMisfit", "(I)I"⟩, 13), (⟨"LateSessions", "formMisfit", "(IILjava/lang/String;)I"⟩, 13), (⟨"LateSessions", "signAt", "(I)I"⟩, 13), (⟨"LateSessions", "fits", "(IC)Z"⟩, 13), (⟨"LateSessions", "comeEventAt", "(I)I"⟩, 13), (⟨"LateSessions", "keyAt", "(I)I"⟩, 13), (⟨"LateSessions", "numberAt", "(II)I"⟩, 13)]
theorem lw_r2 : ∀ q ∈ lw_privs_2, lw_okq q := List.forall_mem_cons.mpr ⟨lw_p16, List.forall_mem_cons.mpr ⟨lw_p17, List.forall_mem_cons.mpr ⟨lw_p18, List.forall_mem_cons.mpr ⟨lw_p19, List.forall_mem_cons.mpr ⟨lw_p20, List.forall_mem_cons.mpr ⟨lw_p21, List.forall_mem_cons.mpr ⟨lw_p22, List.forall_mem_cons.mpr ⟨lw_p23, List.forall_mem_cons.mpr ⟨lw_p24, List.forall_mem_cons.mpr ⟨lw_p25, List.forall_mem_cons.mpr ⟨lw_p26, List.forall_mem_cons.mpr ⟨lw_p27, List.forall_mem_cons.mpr ⟨lw_p28, List.forall_mem_cons.mpr ⟨lw_p29, List.forall_mem_cons.mpr ⟨lw_p30, List.forall_mem_cons.mpr ⟨lw_p31, fun _ h => absurd h List.not_mem_nil⟩⟩⟩⟩⟩⟩⟩⟩⟩⟩⟩⟩⟩⟩⟩⟩
theorem lw_p32 : lw_okq (⟨"LateSessions", "valueAt", "(I)I"⟩, 13) := ⟨⟨by decide +kernel, by decide +kernel⟩, List.mem_of_getElem? (i := 17) (by decide +kernel), List.mem_of_getElem? (i := 466) (by decide +kernel), List.mem_of_getElem? (i := 467) (by decide +kernel)⟩
theorem lw_p33 : lw_okq (⟨"LateSessions", "markRefusal", "(II)I"⟩, 13) := ⟨⟨by decide +kernel, by decide +kernel⟩, List.mem_of_getElem? (i := 17) (by decide +kernel), List.mem_of_getElem? (i := 475) (by decide +kernel), List.mem_of_getElem? (i := 476) (by decide +kernel)⟩
theorem lw_p34 : lw_okq (⟨"LateSessions", "idleRefusal", "(I)I"⟩, 13) := ⟨⟨by decide +kernel, by decide +kernel⟩, List.mem_of_getElem? (i := 17) (by decide +kernel), List.mem_of_getElem? (i := 491) (by decide +kernel), List.mem_of_getElem? (i := 492) (by decide +kernel)⟩
theorem lw_p35 : lw_okq (⟨"LateSessions", "tellThree", "(JJJ)V"⟩, 13) := ⟨⟨by decide +kernel, by decide +kernel⟩, List.mem_of_getElem? (i := 17) (by decide +kernel), List.mem_of_getElem? (i := 526) (by decide +kernel), List.mem_of_getElem? (i := 527) (by decide +kernel)⟩
theorem lw_p36 : lw_okq (⟨"LateSessions", "sortTaken", "(I)I"⟩, 13) := ⟨⟨by decide +kernel, by decide +kernel⟩, List.mem_of_getElem? (i := 17) (by decide +kernel), List.mem_of_getElem? (i := 579) (by decide +kernel), List.mem_of_getElem? (i := 580) (by decide +kernel)⟩
theorem lw_p37 : lw_okq (⟨"LateSessions", "sortedCell", "(II)I"⟩, 13) := ⟨⟨by decide +kernel, by decide +kernel⟩, List.mem_of_getElem? (i := 17) (by decide +kernel), List.mem_of_getElem? (i := 583) (by decide +kernel), List.mem_of_getElem? (i := 584) (by decide +kernel)⟩
theorem lw_p38 : lw_okq (⟨"LateSessions", "holeBehind", "(I)I"⟩, 13) := ⟨⟨by decide +kernel, by decide +kernel⟩, List.mem_of_getElem? (i := 17) (by decide +kernel), List.mem_of_getElem? (i := 587) (by decide +kernel), List.mem_of_getElem? (i := 588) (by decide +kernel)⟩
theorem lw_p39 : lw_okq (⟨"LateSessions", "replay", "(IIII)V"⟩, 13) := ⟨⟨by decide +kernel, by decide +kernel⟩, List.mem_of_getElem? (i := 17) (by decide +kernel), List.mem_of_getElem? (i := 607) (by decide +kernel), List.mem_of_getElem? (i := 608) (by decide +kernel)⟩
theorem lw_p40 : lw_okq (⟨"LateSessions", "dayMisfit", "(I)I"⟩, 13) := ⟨⟨by decide +kernel, by decide +kernel⟩, List.mem_of_getElem? (i := 17) (by decide +kernel), List.mem_of_getElem? (i := 623) (by decide +kernel), List.mem_of_getElem? (i := 624) (by decide +kernel)⟩
theorem lw_p41 : lw_okq (⟨"LateSessions", "actForm", "(I)Ljava/lang/String;"⟩, 13) := ⟨⟨by decide +kernel, by decide +kernel⟩, List.mem_of_getElem? (i := 17) (by decide +kernel), List.mem_of_getElem? (i := 627) (by decide +kernel), List.mem_of_getElem? (i := 628) (by decide +kernel)⟩
theorem lw_p42 : lw_okq (⟨"LateSessions", "actRefusal", "(I)I"⟩, 13) := ⟨⟨by decide +kernel, by decide +kernel⟩, List.mem_of_getElem? (i := 17) (by decide +kernel), List.mem_of_getElem? (i := 639) (by decide +kernel), List.mem_of_getElem? (i := 640) (by decide +kernel)⟩
theorem lw_p43 : lw_okq (⟨"LateSessions", "comeAct", "(I)V"⟩, 13) := ⟨⟨by decide +kernel, by decide +kernel⟩, List.mem_of_getElem? (i := 17) (by decide +kernel), List.mem_of_getElem? (i := 643) (by decide +kernel), List.mem_of_getElem? (i := 644) (by decide +kernel)⟩
theorem lw_p44 : lw_okq (⟨"java/lang/Throwable", "fillInStackTrace", "(I)Ljava/lang/Throwable;"⟩, 6) := ⟨⟨by decide +kernel, by decide +kernel⟩, List.mem_of_getElem? (i := 718) (by decide +kernel), List.mem_of_getElem? (i := 716) (by decide +kernel), List.mem_of_getElem? (i := 717) (by decide +kernel)⟩
theorem lw_p45 : lw_okq (⟨"LateSessionsModel", "starts", "(IIIII)V"⟩, 23) := ⟨⟨by decide +kernel, by decide +kernel⟩, List.mem_of_getElem? (i := 799) (by decide +kernel), List.mem_of_getElem? (i := 805) (by decide +kernel), List.mem_of_getElem? (i := 806) (by decide +kernel)⟩
theorem lw_p46 : lw_okq (⟨"LateSessionsModel", "puts", "(III)V"⟩, 23) := ⟨⟨by decide +kernel, by decide +kernel⟩, List.mem_of_getElem? (i := 799) (by decide +kernel), List.mem_of_getElem? (i := 809) (by decide +kernel), List.mem_of_getElem? (i := 810) (by decide +kernel)⟩
theorem lw_p47 : lw_okq (⟨"LateSessionsModel", "copies", "(II)V"⟩, 23) := ⟨⟨by decide +kernel, by decide +kernel⟩, List.mem_of_getElem? (i := 799) (by decide +kernel), List.mem_of_getElem? (i := 888) (by decide +kernel), List.mem_of_getElem? (i := 889) (by decide +kernel)⟩
def lw_privs_3 : List (MethodName × Nat) := [(⟨"LateSessions", "valueAt", "(I)I"⟩, 13), (⟨"LateSessions", "markRefusal", "(II)I"⟩, 13), (⟨"LateSessions", "idleRefusal", "(I)I"⟩, 13), (⟨"LateSessions", "tellThree", "(JJJ)V"⟩, 13), (⟨"LateSessions", "sortTaken", "(I)I"⟩, 13), (⟨"LateSessions", "sortedCell", "(II)I"⟩, 13), (⟨"LateSessions", "holeBehind", "(I)I"⟩, 13), (⟨"LateSessions", "replay", "(IIII)V"⟩, 13), (⟨"LateSessions", "dayMisfit", "(I)I"⟩, 13), (⟨"LateSessions", "actForm", "(I)Ljava/lang/String;"⟩, 13), (⟨"LateSessions", "actRefusal", "(I)I"⟩, 13), (⟨"LateSessions", "comeAct", "(I)V"⟩, 13), (⟨"java/lang/Throwable", "fillInStackTrace", "(I)Ljava/lang/Throwable;"⟩, 6), (⟨"LateSessionsModel", "starts", "(IIIII)V"⟩, 23), (⟨"LateSessionsModel", "puts", "(III)V"⟩, 23), (⟨"LateSessionsModel", "copies", "(II)V"⟩, 23)]
theorem lw_r3 : ∀ q ∈ lw_privs_3, lw_okq q := List.forall_mem_cons.mpr ⟨lw_p32, List.forall_mem_cons.mpr ⟨lw_p33, List.forall_mem_cons.mpr ⟨lw_p34, List.forall_mem_cons.mpr ⟨lw_p35, List.forall_mem_cons.mpr ⟨lw_p36, List.forall_mem_cons.mpr ⟨lw_p37, List.forall_mem_cons.mpr ⟨lw_p38, List.forall_mem_cons.mpr ⟨lw_p39, List.forall_mem_cons.mpr ⟨lw_p40, List.forall_mem_cons.mpr ⟨lw_p41, List.forall_mem_cons.mpr ⟨lw_p42, List.forall_mem_cons.mpr ⟨lw_p43, List.forall_mem_cons.mpr ⟨lw_p44, List.forall_mem_cons.mpr ⟨lw_p45, List.forall_mem_cons.mpr ⟨lw_p46, List.forall_mem_cons.mpr ⟨lw_p47, fun _ h => absurd h List.not_mem_nil⟩⟩⟩⟩⟩⟩⟩⟩⟩⟩⟩⟩⟩⟩⟩⟩
theorem lw_p48 : lw_okq (⟨"LateSessionsModel", "done", "(I)I"⟩, 23) := ⟨⟨by decide +kernel, by decide +kernel⟩, List.mem_of_getElem? (i := 799) (by decide +kernel), List.mem_of_getElem? (i := 902) (by decide +kernel), List.mem_of_getElem? (i := 903) (by decide +kernel)⟩
theorem lw_p49 : lw_okq (⟨"LateSessionsModel", "lays", "()V"⟩, 23) := ⟨⟨by decide +kernel, by decide +kernel⟩, List.mem_of_getElem? (i := 799) (by decide +kernel), List.mem_of_getElem? (i := 906) (by decide +kernel), List.mem_of_getElem? (i := 907) (by decide +kernel)⟩
theorem lw_p50 : lw_okq (⟨"LateSessionsModel", "isSource", "(I)Z"⟩, 23) := ⟨⟨by decide +kernel, by decide +kernel⟩, List.mem_of_getElem? (i := 799) (by decide +kernel), List.mem_of_getElem? (i := 914) (by decide +kernel), List.mem_of_getElem? (i := 915) (by decide +kernel)⟩
theorem lw_p51 : lw_okq (⟨"LateSessionsModel", "of", "(II)I"⟩, 23) := ⟨⟨by decide +kernel, by decide +kernel⟩, List.mem_of_getElem? (i := 799) (by decide +kernel), List.mem_of_getElem? (i := 918) (by decide +kernel), List.mem_of_getElem? (i := 919) (by decide +kernel)⟩
theorem lw_p52 : lw_okq (⟨"LateSessionsModel", "eventOne", "(IIII)I"⟩, 23) := ⟨⟨by decide +kernel, by decide +kernel⟩, List.mem_of_getElem? (i := 799) (by decide +kernel), List.mem_of_getElem? (i := 927) (by decide +kernel), List.mem_of_getElem? (i := 928) (by decide +kernel)⟩
theorem lw_p53 : lw_okq (⟨"LateSessionsModel", "isEvent", "(IIII)Z"⟩, 23) := ⟨⟨by decide +kernel, by decide +kernel⟩, List.mem_of_getElem? (i := 799) (by decide +kernel), List.mem_of_getElem? (i := 931) (by decide +kernel), List.mem_of_getElem? (i := 932) (by decide +kernel)⟩
theorem lw_p54 : lw_okq (⟨"LateSessionsModel", "comes", "(IIIII)I"⟩, 23) := ⟨⟨by decide +kernel, by decide +kernel⟩, List.mem_of_getElem? (i := 799) (by decide +kernel), List.mem_of_getElem? (i := 938) (by decide +kernel), List.mem_of_getElem? (i := 939) (by decide +kernel)⟩
theorem lw_p55 : lw_okq (⟨"LateSessionsModel", "notes", "(IIIIIII)V"⟩, 23) := ⟨⟨by decide +kernel, by decide +kernel⟩, List.mem_of_getElem? (i := 799) (by decide +kernel), List.mem_of_getElem? (i := 945) (by decide +kernel), List.mem_of_getElem? (i := 946) (by decide +kernel)⟩
theorem lw_p56 : lw_okq (⟨"LateSessionsModel", "adds", "(III)V"⟩, 23) := ⟨⟨by decide +kernel, by decide +kernel⟩, List.mem_of_getElem? (i := 799) (by decide +kernel), List.mem_of_getElem? (i := 949) (by decide +kernel), List.mem_of_getElem? (i := 950) (by decide +kernel)⟩
theorem lw_p57 : lw_okq (⟨"LateSessionsModel", "joins", "(IIII)V"⟩, 23) := ⟨⟨by decide +kernel, by decide +kernel⟩, List.mem_of_getElem? (i := 799) (by decide +kernel), List.mem_of_getElem? (i := 953) (by decide +kernel), List.mem_of_getElem? (i := 954) (by decide +kernel)⟩
theorem lw_p58 : lw_okq (⟨"LateSessionsModel", "melts", "(IIII)Z"⟩, 23) := ⟨⟨by decide +kernel, by decide +kernel⟩, List.mem_of_getElem? (i := 799) (by decide +kernel), List.mem_of_getElem? (i := 957) (by decide +kernel), List.mem_of_getElem? (i := 958) (by decide +kernel)⟩
theorem lw_p59 : lw_okq (⟨"LateSessionsModel", "ofSession", "(III)I"⟩, 23) := ⟨⟨by decide +kernel, by decide +kernel⟩, List.mem_of_getElem? (i := 799) (by decide +kernel), List.mem_of_getElem? (i := 961) (by decide +kernel), List.mem_of_getElem? (i := 962) (by decide +kernel)⟩
theorem lw_p60 : lw_okq (⟨"LateSessionsModel", "takesBack", "(II)V"⟩, 23) := ⟨⟨by decide +kernel, by decide +kernel⟩, List.mem_of_getElem? (i := 799) (by decide +kernel), List.mem_of_getElem? (i := 968) (by decide +kernel), List.mem_of_getElem? (i := 969) (by decide +kernel)⟩
theorem lw_p61 : lw_okq (⟨"LateSessionsModel", "sends", "(III)V"⟩, 23) := ⟨⟨by decide +kernel, by decide +kernel⟩, List.mem_of_getElem? (i := 799) (by decide +kernel), List.mem_of_getElem? (i := 972) (by decide +kernel), List.mem_of_getElem? (i := 973) (by decide +kernel)⟩
theorem lw_p62 : lw_okq (⟨"LateSessionsModel", "goesOut", "(II)V"⟩, 23) := ⟨⟨by decide +kernel, by decide +kernel⟩, List.mem_of_getElem? (i := 799) (by decide +kernel), List.mem_of_getElem? (i := 978) (by decide +kernel), List.mem_of_getElem? (i := 979) (by decide +kernel)⟩
theorem lw_p63 : lw_okq (⟨"LateSessionsModel", "comesIn", "(I)I"⟩, 23) := ⟨⟨by decide +kernel, by decide +kernel⟩, List.mem_of_getElem? (i := 799) (by decide +kernel), List.mem_of_getElem? (i := 982) (by decide +kernel), List.mem_of_getElem? (i := 983) (by decide +kernel)⟩
def lw_privs_4 : List (MethodName × Nat) := [(⟨"LateSessionsModel", "done", "(I)I"⟩, 23), (⟨"LateSessionsModel", "lays", "()V"⟩, 23), (⟨"LateSessionsModel", "isSource", "(I)Z"⟩, 23), (⟨"LateSessionsModel", "of", "(II)I"⟩, 23), (⟨"LateSessionsModel", "eventOne", "(IIII)I"⟩, 23), (⟨"LateSessionsModel", "isEvent", "(IIII)Z"⟩, 23), (⟨"LateSessionsModel", "comes", "(IIIII)I"⟩, 23), (⟨"LateSessionsModel", "notes", "(IIIIIII)V"⟩, 23), (⟨"LateSessionsModel", "adds", "(III)V"⟩, 23), (⟨"LateSessionsModel", "joins", "(IIII)V"⟩, 23), (⟨"LateSessionsModel", "melts", "(IIII)Z"⟩, 23), (⟨"LateSessionsModel", "ofSession", "(III)I"⟩, 23), (⟨"LateSessionsModel", "takesBack", "(II)V"⟩, 23), (⟨"LateSessionsModel", "sends", "(III)V"⟩, 23), (⟨"LateSessionsModel", "goesOut", "(II)V"⟩, 23), (⟨"LateSessionsModel", "comesIn", "(I)I"⟩, 23)]
theorem lw_r4 : ∀ q ∈ lw_privs_4, lw_okq q := List.forall_mem_cons.mpr ⟨lw_p48, List.forall_mem_cons.mpr ⟨lw_p49, List.forall_mem_cons.mpr ⟨lw_p50, List.forall_mem_cons.mpr ⟨lw_p51, List.forall_mem_cons.mpr ⟨lw_p52, List.forall_mem_cons.mpr ⟨lw_p53, List.forall_mem_cons.mpr ⟨lw_p54, List.forall_mem_cons.mpr ⟨lw_p55, List.forall_mem_cons.mpr ⟨lw_p56, List.forall_mem_cons.mpr ⟨lw_p57, List.forall_mem_cons.mpr ⟨lw_p58, List.forall_mem_cons.mpr ⟨lw_p59, List.forall_mem_cons.mpr ⟨lw_p60, List.forall_mem_cons.mpr ⟨lw_p61, List.forall_mem_cons.mpr ⟨lw_p62, List.forall_mem_cons.mpr ⟨lw_p63, fun _ h => absurd h List.not_mem_nil⟩⟩⟩⟩⟩⟩⟩⟩⟩⟩⟩⟩⟩⟩⟩⟩
theorem lw_p64 : lw_okq (⟨"LateSessionsModel", "isBehind", "(II)Z"⟩, 23) := ⟨⟨by decide +kernel, by decide +kernel⟩, List.mem_of_getElem? (i := 799) (by decide +kernel), List.mem_of_getElem? (i := 986) (by decide +kernel), List.mem_of_getElem? (i := 987) (by decide +kernel)⟩
theorem lw_p65 : lw_okq (⟨"LateSessionsModel", "isRipeBy", "(III)Z"⟩, 23) := ⟨⟨by decide +kernel, by decide +kernel⟩, List.mem_of_getElem? (i := 799) (by decide +kernel), List.mem_of_getElem? (i := 990) (by decide +kernel), List.mem_of_getElem? (i := 991) (by decide +kernel)⟩
theorem lw_p66 : lw_okq (⟨"LateSessionsModel", "rises", "(I)V"⟩, 23) := ⟨⟨by decide +kernel, by decide +kernel⟩, List.mem_of_getElem? (i := 799) (by decide +kernel), List.mem_of_getElem? (i := 994) (by decide +kernel), List.mem_of_getElem? (i := 995) (by decide +kernel)⟩
theorem lw_p67 : lw_okq (⟨"LateSessionsModel", "leastMark", "(I)I"⟩, 23) := ⟨⟨by decide +kernel, by decide +kernel⟩, List.mem_of_getElem? (i := 799) (by decide +kernel), List.mem_of_getElem? (i := 998) (by decide +kernel), List.mem_of_getElem? (i := 999) (by decide +kernel)⟩
theorem lw_p68 : lw_okq (⟨"LateSessionsModel", "firstRipe", "(II)I"⟩, 23) := ⟨⟨by decide +kernel, by decide +kernel⟩, List.mem_of_getElem? (i := 799) (by decide +kernel), List.mem_of_getElem? (i := 1002) (by decide +kernel), List.mem_of_getElem? (i := 1003) (by decide +kernel)⟩
theorem lw_p69 : lw_okq (⟨"LateSessionsModel", "isDone", "(II)Z"⟩, 23) := ⟨⟨by decide +kernel, by decide +kernel⟩, List.mem_of_getElem? (i := 799) (by decide +kernel), List.mem_of_getElem? (i := 1006) (by decide +kernel), List.mem_of_getElem? (i := 1007) (by decide +kernel)⟩
theorem lw_p70 : lw_okq (⟨"LateSessionsModel", "firstClosed", "(I)I"⟩, 23) := ⟨⟨by decide +kernel, by decide +kernel⟩, List.mem_of_getElem? (i := 799) (by decide +kernel), List.mem_of_getElem? (i := 1010) (by decide +kernel), List.mem_of_getElem? (i := 1011) (by decide +kernel)⟩
theorem lw_p71 : lw_okq (⟨"LateSessionsModel", "isClosedBy", "(III)Z"⟩, 23) := ⟨⟨by decide +kernel, by decide +kernel⟩, List.mem_of_getElem? (i := 799) (by decide +kernel), List.mem_of_getElem? (i := 1014) (by decide +kernel), List.mem_of_getElem? (i := 1015) (by decide +kernel)⟩
theorem lw_p72 : lw_okq (⟨"LateSessionsModel", "closes", "(II)V"⟩, 23) := ⟨⟨by decide +kernel, by decide +kernel⟩, List.mem_of_getElem? (i := 799) (by decide +kernel), List.mem_of_getElem? (i := 1018) (by decide +kernel), List.mem_of_getElem? (i := 1019) (by decide +kernel)⟩
theorem lw_p73 : lw_okq (⟨"LateSessionsModel", "closedMany", "(I)I"⟩, 23) := ⟨⟨by decide +kernel, by decide +kernel⟩, List.mem_of_getElem? (i := 799) (by decide +kernel), List.mem_of_getElem? (i := 1022) (by decide +kernel), List.mem_of_getElem? (i := 1023) (by decide +kernel)⟩
theorem lw_p74 : lw_okq (⟨"LateSessionsModel", "entersSince", "(II)V"⟩, 23) := ⟨⟨by decide +kernel, by decide +kernel⟩, List.mem_of_getElem? (i := 799) (by decide +kernel), List.mem_of_getElem? (i := 1026) (by decide +kernel), List.mem_of_getElem? (i := 1027) (by decide +kernel)⟩
theorem lw_p75 : lw_okq (⟨"LateSessionsModel", "enters", "(J)V"⟩, 23) := ⟨⟨by decide +kernel, by decide +kernel⟩, List.mem_of_getElem? (i := 799) (by decide +kernel), List.mem_of_getElem? (i := 1030) (by decide +kernel), List.mem_of_getElem? (i := 1031) (by decide +kernel)⟩
theorem lw_p76 : lw_okq (⟨"LateSessionsModel", "reads", "()V"⟩, 23) := ⟨⟨by decide +kernel, by decide +kernel⟩, List.mem_of_getElem? (i := 799) (by decide +kernel), List.mem_of_getElem? (i := 1038) (by decide +kernel), List.mem_of_getElem? (i := 1039) (by decide +kernel)⟩
theorem lw_p77 : lw_okq (⟨"LateSessionsModel", "readsEvent", "(IZ)Z"⟩, 23) := ⟨⟨by decide +kernel, by decide +kernel⟩, List.mem_of_getElem? (i := 799) (by decide +kernel), List.mem_of_getElem? (i := 1042) (by decide +kernel), List.mem_of_getElem? (i := 1043) (by decide +kernel)⟩
theorem lw_p78 : lw_okq (⟨"LateSessionsModel", "takesOf", "(Ljava/lang/String;)I"⟩, 23) := ⟨⟨by decide +kernel, by decide +kernel⟩, List.mem_of_getElem? (i := 799) (by decide +kernel), List.mem_of_getElem? (i := 1047) (by decide +kernel), List.mem_of_getElem? (i := 1048) (by decide +kernel)⟩
theorem lw_p79 : lw_okq (⟨"LateSessionsModel", "digits", "(I)I"⟩, 23) := ⟨⟨by decide +kernel, by decide +kernel⟩, List.mem_of_getElem? (i := 799) (by decide +kernel), List.mem_of_getElem? (i := 1053) (by decide +kernel), List.mem_of_getElem? (i := 1054) (by decide +kernel)⟩
def lw_privs_5 : List (MethodName × Nat) := [(⟨"LateSessionsModel", "isBehind", "(II)Z"⟩, 23), (⟨"LateSessionsModel", "isRipeBy", "(III)Z"⟩, 23), (⟨"LateSessionsModel", "rises", "(I)V"⟩, 23), (⟨"LateSessionsModel", "leastMark", "(I)I"⟩, 23), (⟨"LateSessionsModel", "firstRipe", "(II)I"⟩, 23), (⟨"LateSessionsModel", "isDone", "(II)Z"⟩, 23), (⟨"LateSessionsModel", "firstClosed", "(I)I"⟩, 23), (⟨"LateSessionsModel", "isClosedBy", "(III)Z"⟩, 23), (⟨"LateSessionsModel", "closes", "(II)V"⟩, 23), (⟨"LateSessionsModel", "closedMany", "(I)I"⟩, 23), (⟨"LateSessionsModel", "entersSince", "(II)V"⟩, 23), (⟨"LateSessionsModel", "enters", "(J)V"⟩, 23), (⟨"LateSessionsModel", "reads", "()V"⟩, 23), (⟨"LateSessionsModel", "readsEvent", "(IZ)Z"⟩, 23), (⟨"LateSessionsModel", "takesOf", "(Ljava/lang/String;)I"⟩, 23), (⟨"LateSessionsModel", "digits", "(I)I"⟩, 23)]
theorem lw_r5 : ∀ q ∈ lw_privs_5, lw_okq q := List.forall_mem_cons.mpr ⟨lw_p64, List.forall_mem_cons.mpr ⟨lw_p65, List.forall_mem_cons.mpr ⟨lw_p66, List.forall_mem_cons.mpr ⟨lw_p67, List.forall_mem_cons.mpr ⟨lw_p68, List.forall_mem_cons.mpr ⟨lw_p69, List.forall_mem_cons.mpr ⟨lw_p70, List.forall_mem_cons.mpr ⟨lw_p71, List.forall_mem_cons.mpr ⟨lw_p72, List.forall_mem_cons.mpr ⟨lw_p73, List.forall_mem_cons.mpr ⟨lw_p74, List.forall_mem_cons.mpr ⟨lw_p75, List.forall_mem_cons.mpr ⟨lw_p76, List.forall_mem_cons.mpr ⟨lw_p77, List.forall_mem_cons.mpr ⟨lw_p78, List.forall_mem_cons.mpr ⟨lw_p79, fun _ h => absurd h List.not_mem_nil⟩⟩⟩⟩⟩⟩⟩⟩⟩⟩⟩⟩⟩⟩⟩⟩
theorem lw_p80 : lw_okq (⟨"LateSessionsModel", "marksOne", "(II)I"⟩, 23) := ⟨⟨by decide +kernel, by decide +kernel⟩, List.mem_of_getElem? (i := 799) (by decide +kernel), List.mem_of_getElem? (i := 1063) (by decide +kernel), List.mem_of_getElem? (i := 1064) (by decide +kernel)⟩
theorem lw_p81 : lw_okq (⟨"LateSessionsModel", "isMarked", "(III)V"⟩, 23) := ⟨⟨by decide +kernel, by decide +kernel⟩, List.mem_of_getElem? (i := 799) (by decide +kernel), List.mem_of_getElem? (i := 1068) (by decide +kernel), List.mem_of_getElem? (i := 1069) (by decide +kernel)⟩
theorem lw_p82 : lw_okq (⟨"LateSessionsModel", "entersProgress", "()V"⟩, 23) := ⟨⟨by decide +kernel, by decide +kernel⟩, List.mem_of_getElem? (i := 799) (by decide +kernel), List.mem_of_getElem? (i := 1072) (by decide +kernel), List.mem_of_getElem? (i := 1073) (by decide +kernel)⟩
theorem lw_p83 : lw_okq (⟨"LateSessionsModel", "idlesOne", "(I)I"⟩, 23) := ⟨⟨by decide +kernel, by decide +kernel⟩, List.mem_of_getElem? (i := 799) (by decide +kernel), List.mem_of_getElem? (i := 1080) (by decide +kernel), List.mem_of_getElem? (i := 1081) (by decide +kernel)⟩
theorem lw_p84 : lw_okq (⟨"LateSessionsModel", "isIdle", "(II)V"⟩, 23) := ⟨⟨by decide +kernel, by decide +kernel⟩, List.mem_of_getElem? (i := 799) (by decide +kernel), List.mem_of_getElem? (i := 1084) (by decide +kernel), List.mem_of_getElem? (i := 1085) (by decide +kernel)⟩
theorem lw_p85 : lw_okq (⟨"LateSessionsModel", "ofInput", "(II)I"⟩, 23) := ⟨⟨by decide +kernel, by decide +kernel⟩, List.mem_of_getElem? (i := 799) (by decide +kernel), List.mem_of_getElem? (i := 1138) (by decide +kernel), List.mem_of_getElem? (i := 1139) (by decide +kernel)⟩
theorem lw_p86 : lw_okq (⟨"LateSessionsModel", "laysTimes", "(I)V"⟩, 23) := ⟨⟨by decide +kernel, by decide +kernel⟩, List.mem_of_getElem? (i := 799) (by decide +kernel), List.mem_of_getElem? (i := 1166) (by decide +kernel), List.mem_of_getElem? (i := 1167) (by decide +kernel)⟩
theorem lw_p87 : lw_okq (⟨"LateSessionsModel", "fallsInto", "(I)I"⟩, 23) := ⟨⟨by decide +kernel, by decide +kernel⟩, List.mem_of_getElem? (i := 799) (by decide +kernel), List.mem_of_getElem? (i := 1170) (by decide +kernel), List.mem_of_getElem? (i := 1171) (by decide +kernel)⟩
theorem lw_p88 : lw_okq (⟨"LateSessionsModel", "startsAgain", "(III)V"⟩, 23) := ⟨⟨by decide +kernel, by decide +kernel⟩, List.mem_of_getElem? (i := 799) (by decide +kernel), List.mem_of_getElem? (i := 1183) (by decide +kernel), List.mem_of_getElem? (i := 1184) (by decide +kernel)⟩
theorem lw_p89 : lw_okq (⟨"LateSessionsModel", "comesAgain", "(II)V"⟩, 23) := ⟨⟨by decide +kernel, by decide +kernel⟩, List.mem_of_getElem? (i := 799) (by decide +kernel), List.mem_of_getElem? (i := 1187) (by decide +kernel), List.mem_of_getElem? (i := 1188) (by decide +kernel)⟩
theorem lw_p90 : lw_okq (⟨"LateSessionsModel", "readsAct", "(I)Z"⟩, 23) := ⟨⟨by decide +kernel, by decide +kernel⟩, List.mem_of_getElem? (i := 799) (by decide +kernel), List.mem_of_getElem? (i := 1207) (by decide +kernel), List.mem_of_getElem? (i := 1208) (by decide +kernel)⟩
theorem lw_p91 : lw_okq (⟨"LateSessionsModel", "doesAct", "(I)I"⟩, 23) := ⟨⟨by decide +kernel, by decide +kernel⟩, List.mem_of_getElem? (i := 799) (by decide +kernel), List.mem_of_getElem? (i := 1212) (by decide +kernel), List.mem_of_getElem? (i := 1213) (by decide +kernel)⟩
theorem lw_p92 : lw_okq (⟨"LateSessionsModel", "draws", "(I)I"⟩, 23) := ⟨⟨by decide +kernel, by decide +kernel⟩, List.mem_of_getElem? (i := 799) (by decide +kernel), List.mem_of_getElem? (i := 1221) (by decide +kernel), List.mem_of_getElem? (i := 1222) (by decide +kernel)⟩
def lw_privs_6 : List (MethodName × Nat) := [(⟨"LateSessionsModel", "marksOne", "(II)I"⟩, 23), (⟨"LateSessionsModel", "isMarked", "(III)V"⟩, 23), (⟨"LateSessionsModel", "entersProgress", "()V"⟩, 23), (⟨"LateSessionsModel", "idlesOne", "(I)I"⟩, 23), (⟨"LateSessionsModel", "isIdle", "(II)V"⟩, 23), (⟨"LateSessionsModel", "ofInput", "(II)I"⟩, 23), (⟨"LateSessionsModel", "laysTimes", "(I)V"⟩, 23), (⟨"LateSessionsModel", "fallsInto", "(I)I"⟩, 23), (⟨"LateSessionsModel", "startsAgain", "(III)V"⟩, 23), (⟨"LateSessionsModel", "comesAgain", "(II)V"⟩, 23), (⟨"LateSessionsModel", "readsAct", "(I)Z"⟩, 23), (⟨"LateSessionsModel", "doesAct", "(I)I"⟩, 23), (⟨"LateSessionsModel", "draws", "(I)I"⟩, 23)]
theorem lw_r6 : ∀ q ∈ lw_privs_6, lw_okq q := List.forall_mem_cons.mpr ⟨lw_p80, List.forall_mem_cons.mpr ⟨lw_p81, List.forall_mem_cons.mpr ⟨lw_p82, List.forall_mem_cons.mpr ⟨lw_p83, List.forall_mem_cons.mpr ⟨lw_p84, List.forall_mem_cons.mpr ⟨lw_p85, List.forall_mem_cons.mpr ⟨lw_p86, List.forall_mem_cons.mpr ⟨lw_p87, List.forall_mem_cons.mpr ⟨lw_p88, List.forall_mem_cons.mpr ⟨lw_p89, List.forall_mem_cons.mpr ⟨lw_p90, List.forall_mem_cons.mpr ⟨lw_p91, List.forall_mem_cons.mpr ⟨lw_p92, fun _ h => absurd h List.not_mem_nil⟩⟩⟩⟩⟩⟩⟩⟩⟩⟩⟩⟩⟩
def lw_privs : List (MethodName × Nat) := lw_privs_1 ++ (lw_privs_2 ++ (lw_privs_3 ++ (lw_privs_4 ++ (lw_privs_5 ++ (lw_privs_6)))))
def lw_tbl : List Cond := k2_sels lw_privs ++ tables_1
theorem lw_privs_ok : ∀ q ∈ lw_privs, lw_okq q := by
  show ∀ q ∈ lw_privs_1 ++ (lw_privs_2 ++ (lw_privs_3 ++ (lw_privs_4 ++ (lw_privs_5 ++ (lw_privs_6))))), lw_okq q
  exact List.forall_mem_append.mpr ⟨lw_r1, List.forall_mem_append.mpr ⟨lw_r2, List.forall_mem_append.mpr ⟨lw_r3, List.forall_mem_append.mpr ⟨lw_r4, List.forall_mem_append.mpr ⟨lw_r5, lw_r6⟩⟩⟩⟩⟩
-- ===== end of PART A; then your names; then what follows =====
def RX0 : String := "LateSessions$Table"
def TX0 : u_T := fun k => match k with
  | 0 => ("LateSessions$Table", "room", "I", true)
  | 1 => ("LateSessions$Table", "width", "I", true)
  | 2 => ("LateSessions$Table", "cells", "[I", true)
  | _ => ("LateSessions$Table", "size", "I", false)
def tyX0 : Nat → FieldType := fun k => match k with
  | 0 => .int
  | 1 => .int
  | 2 => .array .int
  | _ => .int
theorem nmX0 : ∀ a, a < 4 → ∀ b, b < 4 → a ≠ b → (TX0 a).2.1 ≠ (TX0 b).2.1 := by decide +kernel
theorem tyX0_ok : ∀ k, k < 4 → parseFieldDescriptor (TX0 k).2.2.1 = some (tyX0 k) := by decide +kernel
def RX1 : String := "LateSessions$World"
def TX1 : u_T := fun k => match k with
  | 0 => ("LateSessions$World", "gap", "I", false)
  | 1 => ("LateSessions$World", "lateness", "I", false)
  | 2 => ("LateSessions$World", "early", "I", false)
  | 3 => ("LateSessions$World", "progress", "I", false)
  | 4 => ("LateSessions$World", "sentSize", "I", false)
  | 5 => ("LateSessions$World", "closedSize", "I", false)
  | 6 => ("LateSessions$World", "takenSize", "I", false)
  | 7 => ("LateSessions$World", "lateSize", "I", false)
  | 8 => ("LateSessions$World", "droppedSize", "I", false)
  | 9 => ("LateSessions$World", "meltedSize", "I", false)
  | 10 => ("LateSessions$World", "sources", "LLateSessions$Table;", true)
  | 11 => ("LateSessions$World", "sessions", "LLateSessions$Table;", true)
  | 12 => ("LateSessions$World", "messages", "LLateSessions$Table;", true)
  | 13 => ("LateSessions$World", "finals", "LLateSessions$Table;", true)
  | 14 => ("LateSessions$World", "inputs", "LLateSessions$Table;", true)
  | _ => ("LateSessions$World", "keys", "LLateSessions$Table;", true)
def tyX1 : Nat → FieldType := fun k => match k with
  | 0 => .int
  | 1 => .int
  | 2 => .int
  | 3 => .int
  | 4 => .int
  | 5 => .int
  | 6 => .int
  | 7 => .int
  | 8 => .int
  | 9 => .int
  | 10 => .object "LateSessions$Table"
  | 11 => .object "LateSessions$Table"
  | 12 => .object "LateSessions$Table"
  | 13 => .object "LateSessions$Table"
  | 14 => .object "LateSessions$Table"
  | _ => .object "LateSessions$Table"
theorem nmX1 : ∀ a, a < 16 → ∀ b, b < 16 → a ≠ b → (TX1 a).2.1 ≠ (TX1 b).2.1 := by decide +kernel
theorem tyX1_ok : ∀ k, k < 16 → parseFieldDescriptor (TX1 k).2.2.1 = some (tyX1 k) := by decide +kernel
def RX2 : String := "LateSessions"
def TX2 : u_T := fun k => match k with
  | 0 => ("LateSessions", "world", "LLateSessions$World;", true)
  | 1 => ("LateSessions", "trial", "LLateSessions$World;", true)
  | 2 => ("LateSessions", "undoWorlds", "[LLateSessions$World;", true)
  | 3 => ("LateSessions", "undoOldest", "I", false)
  | 4 => ("LateSessions", "undoSize", "I", false)
  | 5 => ("LateSessions", "keptWorlds", "[LLateSessions$World;", true)
  | 6 => ("LateSessions", "keptBits", "I", false)
  | 7 => ("LateSessions", "told", "[J", true)
  | 8 => ("LateSessions", "toldSize", "I", false)
  | 9 => ("LateSessions", "text", "[I", true)
  | 10 => ("LateSessions", "textSize", "I", false)
  | 11 => ("LateSessions", "byTime", "[I", true)
  | _ => ("LateSessions", "holes", "[I", true)
def tyX2 : Nat → FieldType := fun k => match k with
  | 0 => .object "LateSessions$World"
  | 1 => .object "LateSessions$World"
  | 2 => .array (.object "LateSessions$World")
  | 3 => .int
  | 4 => .int
  | 5 => .array (.object "LateSessions$World")
  | 6 => .int
  | 7 => .array .long
  | 8 => .int
  | 9 => .array .int
  | 10 => .int
  | 11 => .array .int
  | _ => .array .int
theorem nmX2 : ∀ a, a < 13 → ∀ b, b < 13 → a ≠ b → (TX2 a).2.1 ≠ (TX2 b).2.1 := by decide +kernel
theorem tyX2_ok : ∀ k, k < 13 → parseFieldDescriptor (TX2 k).2.2.1 = some (tyX2 k) := by decide +kernel
def RX3 : String := "LateSessionsModel"
def TX3 : u_T := fun k => match k with
  | 0 => ("LateSessionsModel", "thrown", "I", false)
  | 1 => ("LateSessionsModel", "told", "I", false)
  | 2 => ("LateSessionsModel", "row", "[J", true)
  | 3 => ("LateSessionsModel", "tape", "[I", true)
  | 4 => ("LateSessionsModel", "taped", "I", false)
  | 5 => ("LateSessionsModel", "at", "I", false)
  | 6 => ("LateSessionsModel", "to", "I", false)
  | 7 => ("LateSessionsModel", "mem", "[I", true)
  | 8 => ("LateSessionsModel", "undos", "I", false)
  | 9 => ("LateSessionsModel", "fresh", "[I", true)
  | 10 => ("LateSessionsModel", "doneLast", "I", false)
  | 11 => ("LateSessionsModel", "doneKey", "I", false)
  | 12 => ("LateSessionsModel", "meltedWith", "I", false)
  | 13 => ("LateSessionsModel", "readKey", "[I", true)
  | 14 => ("LateSessionsModel", "readTime", "[I", true)
  | 15 => ("LateSessionsModel", "readValue", "[I", true)
  | 16 => ("LateSessionsModel", "readSource", "[I", true)
  | 17 => ("LateSessionsModel", "times", "[I", true)
  | 18 => ("LateSessionsModel", "values", "[I", true)
  | 19 => ("LateSessionsModel", "timed", "I", false)
  | 20 => ("LateSessionsModel", "act", "[I", true)
  | 21 => ("LateSessionsModel", "random", "I", false)
  | _ => ("LateSessionsModel", "isKept", "[Z", true)
def tyX3 : Nat → FieldType := fun k => match k with
  | 0 => .int
  | 1 => .int
  | 2 => .array .long
  | 3 => .array .int
  | 4 => .int
  | 5 => .int
  | 6 => .int
  | 7 => .array .int
  | 8 => .int
  | 9 => .array .int
  | 10 => .int
  | 11 => .int
  | 12 => .int
  | 13 => .array .int
  | 14 => .array .int
  | 15 => .array .int
  | 16 => .array .int
  | 17 => .array .int
  | 18 => .array .int
  | 19 => .int
  | 20 => .array .int
  | 21 => .int
  | _ => .array .boolean
theorem nmX3 : ∀ a, a < 23 → ∀ b, b < 23 → a ≠ b → (TX3 a).2.1 ≠ (TX3 b).2.1 := by decide +kernel
theorem tyX3_ok : ∀ k, k < 23 → parseFieldDescriptor (TX3 k).2.2.1 = some (tyX3 k) := by decide +kernel
def RJ0 : String := "java/lang/String"
def RJ1 : String := "java/lang/StringLatin1"
def RJ3 : String := "jdk/internal/util/Preconditions"
def RJ7 : String := "java/util/Arrays"
def RJ9 : String := "java/lang/Math"
def RJ10 : String := "java/lang/System"
def RL : String := "LateSessionsLaw"
abbrev cX0_init : ByteArray := prog_2_method_1_code
def yX0_init : MethodName := ⟨RX0, "<init>", "(II)V"⟩
abbrev cX0_get : ByteArray := prog_2_method_2_code
def yX0_get : MethodName := ⟨RX0, "get", "(II)I"⟩
abbrev cX0_set : ByteArray := prog_2_method_3_code
def yX0_set : MethodName := ⟨RX0, "set", "(III)V"⟩
abbrev cX0_add : ByteArray := prog_2_method_4_code
def yX0_add : MethodName := ⟨RX0, "add", "(III)V"⟩
abbrev cX0_clear : ByteArray := prog_2_method_5_code
def yX0_clear : MethodName := ⟨RX0, "clear", "()V"⟩
abbrev cX0_reach : ByteArray := prog_2_method_6_code
def yX0_reach : MethodName := ⟨RX0, "reach", "(I)V"⟩
abbrev cX0_open : ByteArray := prog_2_method_7_code
def yX0_open : MethodName := ⟨RX0, "open", "(I)Z"⟩
abbrev cX0_drop : ByteArray := prog_2_method_8_code
def yX0_drop : MethodName := ⟨RX0, "drop", "(I)V"⟩
abbrev cX0_copyRow : ByteArray := prog_2_method_9_code
def yX0_copyRow : MethodName := ⟨RX0, "copyRow", "(ILLateSessions$Table;I)V"⟩
abbrev cX0_copyFrom : ByteArray := prog_2_method_10_code
def yX0_copyFrom : MethodName := ⟨RX0, "copyFrom", "(LLateSessions$Table;)V"⟩
abbrev cX1_init : ByteArray := prog_3_method_1_code
def yX1_init : MethodName := ⟨RX1, "<init>", "()V"⟩
abbrev cX1_reset : ByteArray := prog_3_method_2_code
def yX1_reset : MethodName := ⟨RX1, "reset", "(IIII)V"⟩
abbrev cX1_copyFrom : ByteArray := prog_3_method_3_code
def yX1_copyFrom : MethodName := ⟨RX1, "copyFrom", "(LLateSessions$World;)V"⟩
abbrev cX1_comeEvent : ByteArray := prog_3_method_4_code
def yX1_comeEvent : MethodName := ⟨RX1, "comeEvent", "(IIII)I"⟩
abbrev cX1_comeMark : ByteArray := prog_3_method_5_code
def yX1_comeMark : MethodName := ⟨RX1, "comeMark", "(II)V"⟩
abbrev cX1_comeIdle : ByteArray := prog_3_method_6_code
def yX1_comeIdle : MethodName := ⟨RX1, "comeIdle", "(I)V"⟩
abbrev cX1_note : ByteArray := prog_3_method_7_code
def yX1_note : MethodName := ⟨RX1, "note", "(III)V"⟩
abbrev cX1_playInput : ByteArray := prog_3_method_8_code
def yX1_playInput : MethodName := ⟨RX1, "playInput", "(LLateSessions$Table;I)V"⟩
abbrev cX1_playEvent : ByteArray := prog_3_method_9_code
def yX1_playEvent : MethodName := ⟨RX1, "playEvent", "(IIII)I"⟩
abbrev cX1_playMark : ByteArray := prog_3_method_10_code
def yX1_playMark : MethodName := ⟨RX1, "playMark", "(II)V"⟩
abbrev cX1_playIdle : ByteArray := prog_3_method_11_code
def yX1_playIdle : MethodName := ⟨RX1, "playIdle", "(I)V"⟩
abbrev cX1_raiseMark : ByteArray := prog_3_method_12_code
def yX1_raiseMark : MethodName := ⟨RX1, "raiseMark", "(II)V"⟩
abbrev cX1_fateOf : ByteArray := prog_3_method_13_code
def yX1_fateOf : MethodName := ⟨RX1, "fateOf", "(I)I"⟩
abbrev cX1_isTakenOf : ByteArray := prog_3_method_14_code
def yX1_isTakenOf : MethodName := ⟨RX1, "isTakenOf", "(II)Z"⟩
abbrev cX1_hasResult : ByteArray := prog_3_method_15_code
def yX1_hasResult : MethodName := ⟨RX1, "hasResult", "(I)Z"⟩
abbrev cX1_isRipe : ByteArray := prog_3_method_16_code
def yX1_isRipe : MethodName := ⟨RX1, "isRipe", "(II)Z"⟩
abbrev cX1_isOver : ByteArray := prog_3_method_17_code
def yX1_isOver : MethodName := ⟨RX1, "isOver", "(II)Z"⟩
abbrev cX1_ripening : ByteArray := prog_3_method_18_code
def yX1_ripening : MethodName := ⟨RX1, "ripening", "(I)I"⟩
abbrev cX1_leastMark : ByteArray := prog_3_method_19_code
def yX1_leastMark : MethodName := ⟨RX1, "leastMark", "(I)I"⟩
abbrev cX1_sentOf : ByteArray := prog_3_method_20_code
def yX1_sentOf : MethodName := ⟨RX1, "sentOf", "(I)I"⟩
abbrev cX1_touches : ByteArray := prog_3_method_21_code
def yX1_touches : MethodName := ⟨RX1, "touches", "(III)Z"⟩
abbrev cX1_firstTouched : ByteArray := prog_3_method_22_code
def yX1_firstTouched : MethodName := ⟨RX1, "firstTouched", "(II)I"⟩
abbrev cX1_touchedFrom : ByteArray := prog_3_method_23_code
def yX1_touchedFrom : MethodName := ⟨RX1, "touchedFrom", "(III)I"⟩
abbrev cX1_melt : ByteArray := prog_3_method_24_code
def yX1_melt : MethodName := ⟨RX1, "melt", "(III)V"⟩
abbrev cX1_placeFor : ByteArray := prog_3_method_25_code
def yX1_placeFor : MethodName := ⟨RX1, "placeFor", "(II)I"⟩
abbrev cX1_swallowNext : ByteArray := prog_3_method_26_code
def yX1_swallowNext : MethodName := ⟨RX1, "swallowNext", "(I)V"⟩
abbrev cX1_kindOfNew : ByteArray := prog_3_method_27_code
def yX1_kindOfNew : MethodName := ⟨RX1, "kindOfNew", "(I)I"⟩
abbrev cX1_rise : ByteArray := prog_3_method_28_code
def yX1_rise : MethodName := ⟨RX1, "rise", "()V"⟩
abbrev cX1_turnOf : ByteArray := prog_3_method_29_code
def yX1_turnOf : MethodName := ⟨RX1, "turnOf", "(I)I"⟩
abbrev cX1_dueBehind : ByteArray := prog_3_method_30_code
def yX1_dueBehind : MethodName := ⟨RX1, "dueBehind", "(II)I"⟩
abbrev cX1_finish : ByteArray := prog_3_method_31_code
def yX1_finish : MethodName := ⟨RX1, "finish", "(I)V"⟩
abbrev cX1_takeBack : ByteArray := prog_3_method_32_code
def yX1_takeBack : MethodName := ⟨RX1, "takeBack", "(I)V"⟩
abbrev cX1_announce : ByteArray := prog_3_method_33_code
def yX1_announce : MethodName := ⟨RX1, "announce", "(II)V"⟩
abbrev cX1_send : ByteArray := prog_3_method_34_code
def yX1_send : MethodName := ⟨RX1, "send", "(II)V"⟩
abbrev cX2_init : ByteArray := prog_1_method_1_code
def yX2_init : MethodName := ⟨RX2, "<init>", "()V"⟩
abbrev cX2_sign : ByteArray := prog_1_method_2_code
def yX2_sign : MethodName := ⟨RX2, "sign", "(I)I"⟩
abbrev cX2_end : ByteArray := prog_1_method_3_code
def yX2_end : MethodName := ⟨RX2, "end", "(I)Z"⟩
abbrev cX2_start : ByteArray := prog_1_method_4_code
def yX2_start : MethodName := ⟨RX2, "start", "(IIII)I"⟩
abbrev cX2_delays : ByteArray := prog_1_method_5_code
def yX2_delays : MethodName := ⟨RX2, "delays", "(II)I"⟩
abbrev cX2_event : ByteArray := prog_1_method_6_code
def yX2_event : MethodName := ⟨RX2, "event", "(IIII)I"⟩
abbrev cX2_events : ByteArray := prog_1_method_7_code
def yX2_events : MethodName := ⟨RX2, "events", "()I"⟩
abbrev cX2_marks : ByteArray := prog_1_method_8_code
def yX2_marks : MethodName := ⟨RX2, "marks", "(II)I"⟩
abbrev cX2_idles : ByteArray := prog_1_method_9_code
def yX2_idles : MethodName := ⟨RX2, "idles", "(I)I"⟩
abbrev cX2_source : ByteArray := prog_1_method_10_code
def yX2_source : MethodName := ⟨RX2, "source", "(II)I"⟩
abbrev cX2_session : ByteArray := prog_1_method_11_code
def yX2_session : MethodName := ⟨RX2, "session", "(II)I"⟩
abbrev cX2_at : ByteArray := prog_1_method_12_code
def yX2_at : MethodName := ⟨RX2, "at", "(II)I"⟩
abbrev cX2_message : ByteArray := prog_1_method_13_code
def yX2_message : MethodName := ⟨RX2, "message", "(II)I"⟩
abbrev cX2_sent : ByteArray := prog_1_method_14_code
def yX2_sent : MethodName := ⟨RX2, "sent", "(I)I"⟩
abbrev cX2_stands : ByteArray := prog_1_method_15_code
def yX2_stands : MethodName := ⟨RX2, "stands", "()I"⟩
abbrev cX2_closed : ByteArray := prog_1_method_16_code
def yX2_closed : MethodName := ⟨RX2, "closed", "(I)I"⟩
abbrev cX2_finals : ByteArray := prog_1_method_17_code
def yX2_finals : MethodName := ⟨RX2, "finals", "(II)I"⟩
abbrev cX2_kinds : ByteArray := prog_1_method_18_code
def yX2_kinds : MethodName := ⟨RX2, "kinds", "(I)I"⟩
abbrev cX2_slow : ByteArray := prog_1_method_19_code
def yX2_slow : MethodName := ⟨RX2, "slow", "()I"⟩
abbrev cX2_span : ByteArray := prog_1_method_20_code
def yX2_span : MethodName := ⟨RX2, "span", "(II)I"⟩
abbrev cX2_taken : ByteArray := prog_1_method_21_code
def yX2_taken : MethodName := ⟨RX2, "taken", "()I"⟩
abbrev cX2_holds : ByteArray := prog_1_method_22_code
def yX2_holds : MethodName := ⟨RX2, "holds", "()I"⟩
abbrev cX2_next : ByteArray := prog_1_method_23_code
def yX2_next : MethodName := ⟨RX2, "next", "()I"⟩
abbrev cX2_ahead : ByteArray := prog_1_method_24_code
def yX2_ahead : MethodName := ⟨RX2, "ahead", "(I)I"⟩
abbrev cX2_would : ByteArray := prog_1_method_25_code
def yX2_would : MethodName := ⟨RX2, "would", "(IIII)I"⟩
abbrev cX2_batch : ByteArray := prog_1_method_26_code
def yX2_batch : MethodName := ⟨RX2, "batch", "(I)I"⟩
abbrev cX2_latest : ByteArray := prog_1_method_27_code
def yX2_latest : MethodName := ⟨RX2, "latest", "()I"⟩
abbrev cX2_parts : ByteArray := prog_1_method_28_code
def yX2_parts : MethodName := ⟨RX2, "parts", "(II)I"⟩
abbrev cX2_again : ByteArray := prog_1_method_29_code
def yX2_again : MethodName := ⟨RX2, "again", "(III)I"⟩
abbrev cX2_without : ByteArray := prog_1_method_30_code
def yX2_without : MethodName := ⟨RX2, "without", "(I)I"⟩
abbrev cX2_input : ByteArray := prog_1_method_31_code
def yX2_input : MethodName := ⟨RX2, "input", "(II)I"⟩
abbrev cX2_day : ByteArray := prog_1_method_32_code
def yX2_day : MethodName := ⟨RX2, "day", "()I"⟩
abbrev cX2_undo : ByteArray := prog_1_method_33_code
def yX2_undo : MethodName := ⟨RX2, "undo", "()I"⟩
abbrev cX2_years : ByteArray := prog_1_method_34_code
def yX2_years : MethodName := ⟨RX2, "years", "(II)I"⟩
abbrev cX2_keep : ByteArray := prog_1_method_35_code
def yX2_keep : MethodName := ⟨RX2, "keep", "(I)Z"⟩
abbrev cX2_back : ByteArray := prog_1_method_36_code
def yX2_back : MethodName := ⟨RX2, "back", "(I)Z"⟩
abbrev cX2_count : ByteArray := prog_1_method_37_code
def yX2_count : MethodName := ⟨RX2, "count", "(I)I"⟩
abbrev cX2_row : ByteArray := prog_1_method_38_code
def yX2_row : MethodName := ⟨RX2, "row", "(I)J"⟩
abbrev cX2_isKey : ByteArray := prog_1_method_39_code
def yX2_isKey : MethodName := ⟨RX2, "isKey", "(I)Z"⟩
abbrev cX2_isTime : ByteArray := prog_1_method_40_code
def yX2_isTime : MethodName := ⟨RX2, "isTime", "(I)Z"⟩
abbrev cX2_isSource : ByteArray := prog_1_method_41_code
def yX2_isSource : MethodName := ⟨RX2, "isSource", "(I)Z"⟩
abbrev cX2_isEvent : ByteArray := prog_1_method_42_code
def yX2_isEvent : MethodName := ⟨RX2, "isEvent", "(IIII)Z"⟩
abbrev cX2_areSettings : ByteArray := prog_1_method_43_code
def yX2_areSettings : MethodName := ⟨RX2, "areSettings", "(III)Z"⟩
abbrev cX2_eventRefusal : ByteArray := prog_1_method_44_code
def yX2_eventRefusal : MethodName := ⟨RX2, "eventRefusal", "(IIII)I"⟩
abbrev cX2_markRefusal : ByteArray := prog_1_method_45_code
def yX2_markRefusal : MethodName := ⟨RX2, "markRefusal", "(II)I"⟩
abbrev cX2_idleRefusal : ByteArray := prog_1_method_46_code
def yX2_idleRefusal : MethodName := ⟨RX2, "idleRefusal", "(I)I"⟩
abbrev cX2_inputRefusal : ByteArray := prog_1_method_47_code
def yX2_inputRefusal : MethodName := ⟨RX2, "inputRefusal", "()I"⟩
abbrev cX2_isOfLatest : ByteArray := prog_1_method_48_code
def yX2_isOfLatest : MethodName := ⟨RX2, "isOfLatest", "(III)Z"⟩
abbrev cX2_shifted : ByteArray := prog_1_method_49_code
def yX2_shifted : MethodName := ⟨RX2, "shifted", "(LLateSessions$Table;II)I"⟩
abbrev cX2_tellNothing : ByteArray := prog_1_method_50_code
def yX2_tellNothing : MethodName := ⟨RX2, "tellNothing", "()V"⟩
abbrev cX2_tellMore : ByteArray := prog_1_method_51_code
def yX2_tellMore : MethodName := ⟨RX2, "tellMore", "(J)V"⟩
abbrev cX2_tellOne : ByteArray := prog_1_method_52_code
def yX2_tellOne : MethodName := ⟨RX2, "tellOne", "(J)V"⟩
abbrev cX2_tellTwo : ByteArray := prog_1_method_53_code
def yX2_tellTwo : MethodName := ⟨RX2, "tellTwo", "(JJ)V"⟩
abbrev cX2_tellThree : ByteArray := prog_1_method_54_code
def yX2_tellThree : MethodName := ⟨RX2, "tellThree", "(JJJ)V"⟩
abbrev cX2_putSign : ByteArray := prog_1_method_55_code
def yX2_putSign : MethodName := ⟨RX2, "putSign", "(I)V"⟩
abbrev cX2_takeText : ByteArray := prog_1_method_56_code
def yX2_takeText : MethodName := ⟨RX2, "takeText", "()I"⟩
abbrev cX2_signAt : ByteArray := prog_1_method_57_code
def yX2_signAt : MethodName := ⟨RX2, "signAt", "(I)I"⟩
abbrev cX2_fits : ByteArray := prog_1_method_58_code
def yX2_fits : MethodName := ⟨RX2, "fits", "(IC)Z"⟩
abbrev cX2_formMisfit : ByteArray := prog_1_method_59_code
def yX2_formMisfit : MethodName := ⟨RX2, "formMisfit", "(IILjava/lang/String;)I"⟩
abbrev cX2_eventsMisfit : ByteArray := prog_1_method_60_code
def yX2_eventsMisfit : MethodName := ⟨RX2, "eventsMisfit", "(I)I"⟩
abbrev cX2_dayMisfit : ByteArray := prog_1_method_61_code
def yX2_dayMisfit : MethodName := ⟨RX2, "dayMisfit", "(I)I"⟩
abbrev cX2_actForm : ByteArray := prog_1_method_62_code
def yX2_actForm : MethodName := ⟨RX2, "actForm", "(I)Ljava/lang/String;"⟩
abbrev cX2_numberAt : ByteArray := prog_1_method_63_code
def yX2_numberAt : MethodName := ⟨RX2, "numberAt", "(II)I"⟩
abbrev cX2_keyAt : ByteArray := prog_1_method_64_code
def yX2_keyAt : MethodName := ⟨RX2, "keyAt", "(I)I"⟩
abbrev cX2_valueAt : ByteArray := prog_1_method_65_code
def yX2_valueAt : MethodName := ⟨RX2, "valueAt", "(I)I"⟩
abbrev cX2_comeEventAt : ByteArray := prog_1_method_66_code
def yX2_comeEventAt : MethodName := ⟨RX2, "comeEventAt", "(I)I"⟩
abbrev cX2_actRefusal : ByteArray := prog_1_method_67_code
def yX2_actRefusal : MethodName := ⟨RX2, "actRefusal", "(I)I"⟩
abbrev cX2_comeAct : ByteArray := prog_1_method_68_code
def yX2_comeAct : MethodName := ⟨RX2, "comeAct", "(I)V"⟩
abbrev cX2_remember : ByteArray := prog_1_method_69_code
def yX2_remember : MethodName := ⟨RX2, "remember", "()V"⟩
abbrev cX2_replay : ByteArray := prog_1_method_70_code
def yX2_replay : MethodName := ⟨RX2, "replay", "(IIII)V"⟩
abbrev cX2_sortTaken : ByteArray := prog_1_method_71_code
def yX2_sortTaken : MethodName := ⟨RX2, "sortTaken", "(I)I"⟩
abbrev cX2_sortedCell : ByteArray := prog_1_method_72_code
def yX2_sortedCell : MethodName := ⟨RX2, "sortedCell", "(II)I"⟩
abbrev cX2_holeBehind : ByteArray := prog_1_method_73_code
def yX2_holeBehind : MethodName := ⟨RX2, "holeBehind", "(I)I"⟩
abbrev cX2_drawAfter : ByteArray := prog_1_method_74_code
def yX2_drawAfter : MethodName := ⟨RX2, "drawAfter", "(I)I"⟩
abbrev cX2_drawOf : ByteArray := prog_1_method_75_code
def yX2_drawOf : MethodName := ⟨RX2, "drawOf", "(II)I"⟩
abbrev cX3_thrown : ByteArray := prog_5_method_1_code
def yX3_thrown : MethodName := ⟨RX3, "thrown", "()I"⟩
abbrev cX3_in : ByteArray := prog_5_method_2_code
def yX3_in : MethodName := ⟨RX3, "in", "(JJJ)Z"⟩
abbrev cX3_flag : ByteArray := prog_5_method_3_code
def yX3_flag : MethodName := ⟨RX3, "flag", "(Z)I"⟩
abbrev cX3_enters : ByteArray := prog_5_method_4_code
def yX3_enters : MethodName := ⟨RX3, "enters", "(J)V"⟩
abbrev cX3_sign : ByteArray := prog_5_method_5_code
def yX3_sign : MethodName := ⟨RX3, "sign", "(I)I"⟩
abbrev cX3_end : ByteArray := prog_5_method_6_code
def yX3_end : MethodName := ⟨RX3, "end", "(I)Z"⟩
abbrev cX3_reads : ByteArray := prog_5_method_7_code
def yX3_reads : MethodName := ⟨RX3, "reads", "()V"⟩
abbrev cX3_takesOf : ByteArray := prog_5_method_8_code
def yX3_takesOf : MethodName := ⟨RX3, "takesOf", "(Ljava/lang/String;)I"⟩
abbrev cX3_digits : ByteArray := prog_5_method_9_code
def yX3_digits : MethodName := ⟨RX3, "digits", "(I)I"⟩
abbrev cX3_init : ByteArray := prog_5_method_10_code
def yX3_init : MethodName := ⟨RX3, "<init>", "()V"⟩
abbrev cX3_copies : ByteArray := prog_5_method_11_code
def yX3_copies : MethodName := ⟨RX3, "copies", "(II)V"⟩
abbrev cX3_starts : ByteArray := prog_5_method_12_code
def yX3_starts : MethodName := ⟨RX3, "starts", "(IIIII)V"⟩
abbrev cX3_of : ByteArray := prog_5_method_13_code
def yX3_of : MethodName := ⟨RX3, "of", "(II)I"⟩
abbrev cX3_puts : ByteArray := prog_5_method_14_code
def yX3_puts : MethodName := ⟨RX3, "puts", "(III)V"⟩
abbrev cX3_adds : ByteArray := prog_5_method_15_code
def yX3_adds : MethodName := ⟨RX3, "adds", "(III)V"⟩
abbrev cX3_lays : ByteArray := prog_5_method_16_code
def yX3_lays : MethodName := ⟨RX3, "lays", "()V"⟩
abbrev cX3_done : ByteArray := prog_5_method_17_code
def yX3_done : MethodName := ⟨RX3, "done", "(I)I"⟩
abbrev cX3_undo : ByteArray := prog_5_method_18_code
def yX3_undo : MethodName := ⟨RX3, "undo", "()I"⟩
abbrev cX3_areSettings : ByteArray := prog_5_method_19_code
def yX3_areSettings : MethodName := ⟨RX3, "areSettings", "(III)Z"⟩
abbrev cX3_start : ByteArray := prog_5_method_20_code
def yX3_start : MethodName := ⟨RX3, "start", "(IIII)I"⟩
abbrev cX3_isSource : ByteArray := prog_5_method_21_code
def yX3_isSource : MethodName := ⟨RX3, "isSource", "(I)Z"⟩
abbrev cX3_delays : ByteArray := prog_5_method_22_code
def yX3_delays : MethodName := ⟨RX3, "delays", "(II)I"⟩
abbrev cX3_place : ByteArray := prog_5_method_23_code
def yX3_place : MethodName := ⟨RX3, "place", "(II)I"⟩
abbrev cX3_ofSession : ByteArray := prog_5_method_24_code
def yX3_ofSession : MethodName := ⟨RX3, "ofSession", "(III)I"⟩
abbrev cX3_goesOut : ByteArray := prog_5_method_25_code
def yX3_goesOut : MethodName := ⟨RX3, "goesOut", "(II)V"⟩
abbrev cX3_comesIn : ByteArray := prog_5_method_26_code
def yX3_comesIn : MethodName := ⟨RX3, "comesIn", "(I)I"⟩
abbrev cX3_isBehind : ByteArray := prog_5_method_27_code
def yX3_isBehind : MethodName := ⟨RX3, "isBehind", "(II)Z"⟩
abbrev cX3_sends : ByteArray := prog_5_method_28_code
def yX3_sends : MethodName := ⟨RX3, "sends", "(III)V"⟩
abbrev cX3_takesBack : ByteArray := prog_5_method_29_code
def yX3_takesBack : MethodName := ⟨RX3, "takesBack", "(II)V"⟩
abbrev cX3_isRipeBy : ByteArray := prog_5_method_30_code
def yX3_isRipeBy : MethodName := ⟨RX3, "isRipeBy", "(III)Z"⟩
abbrev cX3_isClosedBy : ByteArray := prog_5_method_31_code
def yX3_isClosedBy : MethodName := ⟨RX3, "isClosedBy", "(III)Z"⟩
abbrev cX3_leastMark : ByteArray := prog_5_method_32_code
def yX3_leastMark : MethodName := ⟨RX3, "leastMark", "(I)I"⟩
abbrev cX3_firstRipe : ByteArray := prog_5_method_33_code
def yX3_firstRipe : MethodName := ⟨RX3, "firstRipe", "(II)I"⟩
abbrev cX3_isDone : ByteArray := prog_5_method_34_code
def yX3_isDone : MethodName := ⟨RX3, "isDone", "(II)Z"⟩
abbrev cX3_rises : ByteArray := prog_5_method_35_code
def yX3_rises : MethodName := ⟨RX3, "rises", "(I)V"⟩
abbrev cX3_firstClosed : ByteArray := prog_5_method_36_code
def yX3_firstClosed : MethodName := ⟨RX3, "firstClosed", "(I)I"⟩
abbrev cX3_closes : ByteArray := prog_5_method_37_code
def yX3_closes : MethodName := ⟨RX3, "closes", "(II)V"⟩
abbrev cX3_notes : ByteArray := prog_5_method_38_code
def yX3_notes : MethodName := ⟨RX3, "notes", "(IIIIIII)V"⟩
abbrev cX3_melts : ByteArray := prog_5_method_39_code
def yX3_melts : MethodName := ⟨RX3, "melts", "(IIII)Z"⟩
abbrev cX3_joins : ByteArray := prog_5_method_40_code
def yX3_joins : MethodName := ⟨RX3, "joins", "(IIII)V"⟩
abbrev cX3_comes : ByteArray := prog_5_method_41_code
def yX3_comes : MethodName := ⟨RX3, "comes", "(IIIII)I"⟩
abbrev cX3_isMarked : ByteArray := prog_5_method_42_code
def yX3_isMarked : MethodName := ⟨RX3, "isMarked", "(III)V"⟩
abbrev cX3_isIdle : ByteArray := prog_5_method_43_code
def yX3_isIdle : MethodName := ⟨RX3, "isIdle", "(II)V"⟩
abbrev cX3_isEvent : ByteArray := prog_5_method_44_code
def yX3_isEvent : MethodName := ⟨RX3, "isEvent", "(IIII)Z"⟩
abbrev cX3_eventOne : ByteArray := prog_5_method_45_code
def yX3_eventOne : MethodName := ⟨RX3, "eventOne", "(IIII)I"⟩
abbrev cX3_entersSince : ByteArray := prog_5_method_46_code
def yX3_entersSince : MethodName := ⟨RX3, "entersSince", "(II)V"⟩
abbrev cX3_event : ByteArray := prog_5_method_47_code
def yX3_event : MethodName := ⟨RX3, "event", "(IIII)I"⟩
abbrev cX3_readsEvent : ByteArray := prog_5_method_48_code
def yX3_readsEvent : MethodName := ⟨RX3, "readsEvent", "(IZ)Z"⟩
abbrev cX3_events : ByteArray := prog_5_method_49_code
def yX3_events : MethodName := ⟨RX3, "events", "()I"⟩
abbrev cX3_marksOne : ByteArray := prog_5_method_50_code
def yX3_marksOne : MethodName := ⟨RX3, "marksOne", "(II)I"⟩
abbrev cX3_entersProgress : ByteArray := prog_5_method_51_code
def yX3_entersProgress : MethodName := ⟨RX3, "entersProgress", "()V"⟩
abbrev cX3_marks : ByteArray := prog_5_method_52_code
def yX3_marks : MethodName := ⟨RX3, "marks", "(II)I"⟩
abbrev cX3_idlesOne : ByteArray := prog_5_method_53_code
def yX3_idlesOne : MethodName := ⟨RX3, "idlesOne", "(I)I"⟩
abbrev cX3_idles : ByteArray := prog_5_method_54_code
def yX3_idles : MethodName := ⟨RX3, "idles", "(I)I"⟩
abbrev cX3_source : ByteArray := prog_5_method_55_code
def yX3_source : MethodName := ⟨RX3, "source", "(II)I"⟩
abbrev cX3_session : ByteArray := prog_5_method_56_code
def yX3_session : MethodName := ⟨RX3, "session", "(II)I"⟩
abbrev cX3_at : ByteArray := prog_5_method_57_code
def yX3_at : MethodName := ⟨RX3, "at", "(II)I"⟩
abbrev cX3_message : ByteArray := prog_5_method_58_code
def yX3_message : MethodName := ⟨RX3, "message", "(II)I"⟩
abbrev cX3_sent : ByteArray := prog_5_method_59_code
def yX3_sent : MethodName := ⟨RX3, "sent", "(I)I"⟩
abbrev cX3_stands : ByteArray := prog_5_method_60_code
def yX3_stands : MethodName := ⟨RX3, "stands", "()I"⟩
abbrev cX3_isKey : ByteArray := prog_5_method_61_code
def yX3_isKey : MethodName := ⟨RX3, "isKey", "(I)Z"⟩
abbrev cX3_closed : ByteArray := prog_5_method_62_code
def yX3_closed : MethodName := ⟨RX3, "closed", "(I)I"⟩
abbrev cX3_finals : ByteArray := prog_5_method_63_code
def yX3_finals : MethodName := ⟨RX3, "finals", "(II)I"⟩
abbrev cX3_kinds : ByteArray := prog_5_method_64_code
def yX3_kinds : MethodName := ⟨RX3, "kinds", "(I)I"⟩
abbrev cX3_slow : ByteArray := prog_5_method_65_code
def yX3_slow : MethodName := ⟨RX3, "slow", "()I"⟩
abbrev cX3_span : ByteArray := prog_5_method_66_code
def yX3_span : MethodName := ⟨RX3, "span", "(II)I"⟩
abbrev cX3_taken : ByteArray := prog_5_method_67_code
def yX3_taken : MethodName := ⟨RX3, "taken", "()I"⟩
abbrev cX3_holds : ByteArray := prog_5_method_68_code
def yX3_holds : MethodName := ⟨RX3, "holds", "()I"⟩
abbrev cX3_next : ByteArray := prog_5_method_69_code
def yX3_next : MethodName := ⟨RX3, "next", "()I"⟩
abbrev cX3_ahead : ByteArray := prog_5_method_70_code
def yX3_ahead : MethodName := ⟨RX3, "ahead", "(I)I"⟩
abbrev cX3_would : ByteArray := prog_5_method_71_code
def yX3_would : MethodName := ⟨RX3, "would", "(IIII)I"⟩
abbrev cX3_ofInput : ByteArray := prog_5_method_72_code
def yX3_ofInput : MethodName := ⟨RX3, "ofInput", "(II)I"⟩
abbrev cX3_laysTimes : ByteArray := prog_5_method_73_code
def yX3_laysTimes : MethodName := ⟨RX3, "laysTimes", "(I)V"⟩
abbrev cX3_fallsInto : ByteArray := prog_5_method_74_code
def yX3_fallsInto : MethodName := ⟨RX3, "fallsInto", "(I)I"⟩
abbrev cX3_batch : ByteArray := prog_5_method_75_code
def yX3_batch : MethodName := ⟨RX3, "batch", "(I)I"⟩
abbrev cX3_parts : ByteArray := prog_5_method_76_code
def yX3_parts : MethodName := ⟨RX3, "parts", "(II)I"⟩
abbrev cX3_comesAgain : ByteArray := prog_5_method_77_code
def yX3_comesAgain : MethodName := ⟨RX3, "comesAgain", "(II)V"⟩
abbrev cX3_startsAgain : ByteArray := prog_5_method_78_code
def yX3_startsAgain : MethodName := ⟨RX3, "startsAgain", "(III)V"⟩
abbrev cX3_closedMany : ByteArray := prog_5_method_79_code
def yX3_closedMany : MethodName := ⟨RX3, "closedMany", "(I)I"⟩
abbrev cX3_latest : ByteArray := prog_5_method_80_code
def yX3_latest : MethodName := ⟨RX3, "latest", "()I"⟩
abbrev cX3_again : ByteArray := prog_5_method_81_code
def yX3_again : MethodName := ⟨RX3, "again", "(III)I"⟩
abbrev cX3_without : ByteArray := prog_5_method_82_code
def yX3_without : MethodName := ⟨RX3, "without", "(I)I"⟩
abbrev cX3_input : ByteArray := prog_5_method_83_code
def yX3_input : MethodName := ⟨RX3, "input", "(II)I"⟩
abbrev cX3_readsAct : ByteArray := prog_5_method_84_code
def yX3_readsAct : MethodName := ⟨RX3, "readsAct", "(I)Z"⟩
abbrev cX3_doesAct : ByteArray := prog_5_method_85_code
def yX3_doesAct : MethodName := ⟨RX3, "doesAct", "(I)I"⟩
abbrev cX3_day : ByteArray := prog_5_method_86_code
def yX3_day : MethodName := ⟨RX3, "day", "()I"⟩
abbrev cX3_draws : ByteArray := prog_5_method_87_code
def yX3_draws : MethodName := ⟨RX3, "draws", "(I)I"⟩
abbrev cX3_years : ByteArray := prog_5_method_88_code
def yX3_years : MethodName := ⟨RX3, "years", "(II)I"⟩
abbrev cX3_keep : ByteArray := prog_5_method_89_code
def yX3_keep : MethodName := ⟨RX3, "keep", "(I)Z"⟩
abbrev cX3_back : ByteArray := prog_5_method_90_code
def yX3_back : MethodName := ⟨RX3, "back", "(I)Z"⟩
abbrev cX3_count : ByteArray := prog_5_method_91_code
def yX3_count : MethodName := ⟨RX3, "count", "(I)I"⟩
abbrev cX3_row : ByteArray := prog_5_method_92_code
def yX3_row : MethodName := ⟨RX3, "row", "(I)J"⟩
abbrev cJ9_max_7cf53 : ByteArray := prog_10_method_65_code
def yJ9_max_7cf53 : MethodName := ⟨RJ9, "max", "(II)I"⟩
abbrev cJ9_min_7cf53 : ByteArray := prog_10_method_69_code
def yJ9_min_7cf53 : MethodName := ⟨RJ9, "min", "(II)I"⟩
abbrev cJ0_length_8abf5 : ByteArray := prog_12_method_54_code
def yJ0_length_8abf5 : MethodName := ⟨RJ0, "length", "()I"⟩
abbrev cJ0_isEmpty_aae02 : ByteArray := prog_12_method_55_code
def yJ0_isEmpty_aae02 : MethodName := ⟨RJ0, "isEmpty", "()Z"⟩
abbrev cJ0_charAt_5068e : ByteArray := prog_12_method_56_code
def yJ0_charAt_5068e : MethodName := ⟨RJ0, "charAt", "(I)C"⟩
abbrev cJ0_coder_7d493 : ByteArray := prog_12_method_152_code
def yJ0_coder_7d493 : MethodName := ⟨RJ0, "coder", "()B"⟩
abbrev cJ0_isLatin1_aae02 : ByteArray := prog_12_method_154_code
def yJ0_isLatin1_aae02 : MethodName := ⟨RJ0, "isLatin1", "()Z"⟩
abbrev cJ0_checkIndex_df160 : ByteArray := prog_12_method_155_code
def yJ0_checkIndex_df160 : MethodName := ⟨RJ0, "checkIndex", "(II)V"⟩
abbrev cJ1_charAt_3b067 : ByteArray := prog_13_method_2_code
def yJ1_charAt_3b067 : MethodName := ⟨RJ1, "charAt", "([BI)C"⟩
abbrev cJ7_fill_53178 : ByteArray := prog_19_method_103_code
def yJ7_fill_53178 : MethodName := ⟨RJ7, "fill", "([II)V"⟩
abbrev cJ3_checkIndex_8e157 : ByteArray := prog_21_method_11_code
def yJ3_checkIndex_8e157 : MethodName := ⟨RJ3, "checkIndex", "(IILjava/util/function/BiFunction;)I"⟩
abbrev cL_source : ByteArray := method_3_code
def yL_source : MethodName := ⟨RL, "source", "(LLateSessions;II[J)I"⟩
abbrev cL_session : ByteArray := method_4_code
def yL_session : MethodName := ⟨RL, "session", "(LLateSessions;II[J)I"⟩
abbrev cL_message : ByteArray := method_5_code
def yL_message : MethodName := ⟨RL, "message", "(LLateSessions;II[J)I"⟩
abbrev cL_finals : ByteArray := method_6_code
def yL_finals : MethodName := ⟨RL, "finals", "(LLateSessions;II[J)I"⟩
abbrev cL_input : ByteArray := method_7_code
def yL_input : MethodName := ⟨RL, "input", "(LLateSessions;II[J)I"⟩
abbrev cL_row : ByteArray := method_8_code
def yL_row : MethodName := ⟨RL, "row", "(LLateSessions;I[J)I"⟩
abbrev cL_law : ByteArray := code
def yL_law : MethodName := ⟨RL, "law", "([I)Z"⟩
